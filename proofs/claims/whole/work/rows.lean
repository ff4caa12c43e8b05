section
-- ===== PART A: goes FIRST, ahead of the names: the tables' words, and 'selects' of the private methods out of them =====
/-- a private method of a class that the tables say can be made, by its rows of tables_1 -/
def lw_okq (q : MethodName × Nat) : Prop := (q.1.cls ≠ "java/lang/invoke/MethodHandle" ∧ q.1.cls ≠ "java/lang/invoke/VarHandle") ∧ Cond.instantiable q.1.cls q.2 ∈ tables_1 ∧ Cond.privateMethod q.1 ∈ tables_1 ∧ Cond.instanceMethod q.1 ∈ tables_1
theorem lw_p0 : lw_okq (⟨"BoilerPapers", "trialOfNow", "()LBoilerPapers$House;"⟩, 5) := ⟨⟨by decide +kernel, by decide +kernel⟩, List.mem_of_getElem? (i := 12) (by decide +kernel), List.mem_of_getElem? (i := 232) (by decide +kernel), List.mem_of_getElem? (i := 233) (by decide +kernel)⟩
theorem lw_p1 : lw_okq (⟨"BoilerPapers$House", "boilerAt", "(I)LBoilerPapers$Boiler;"⟩, 9) := ⟨⟨by decide +kernel, by decide +kernel⟩, List.mem_of_getElem? (i := 20) (by decide +kernel), List.mem_of_getElem? (i := 243) (by decide +kernel), List.mem_of_getElem? (i := 244) (by decide +kernel)⟩
theorem lw_p2 : lw_okq (⟨"BoilerPapers$House", "inspectorAt", "(I)LBoilerPapers$Inspector;"⟩, 9) := ⟨⟨by decide +kernel, by decide +kernel⟩, List.mem_of_getElem? (i := 20) (by decide +kernel), List.mem_of_getElem? (i := 251) (by decide +kernel), List.mem_of_getElem? (i := 252) (by decide +kernel)⟩
theorem lw_p3 : lw_okq (⟨"BoilerPapers", "settle", "(I)I"⟩, 5) := ⟨⟨by decide +kernel, by decide +kernel⟩, List.mem_of_getElem? (i := 12) (by decide +kernel), List.mem_of_getElem? (i := 269) (by decide +kernel), List.mem_of_getElem? (i := 270) (by decide +kernel)⟩
theorem lw_p4 : lw_okq (⟨"BoilerPapers$History", "stateAt", "(I)LBoilerPapers$House;"⟩, 3) := ⟨⟨by decide +kernel, by decide +kernel⟩, List.mem_of_getElem? (i := 141) (by decide +kernel), List.mem_of_getElem? (i := 281) (by decide +kernel), List.mem_of_getElem? (i := 282) (by decide +kernel)⟩
theorem lw_p5 : lw_okq (⟨"BoilerPapers$House", "pressureOffered", "(LBoilerPapers$Boiler;I)I"⟩, 9) := ⟨⟨by decide +kernel, by decide +kernel⟩, List.mem_of_getElem? (i := 20) (by decide +kernel), List.mem_of_getElem? (i := 329) (by decide +kernel), List.mem_of_getElem? (i := 330) (by decide +kernel)⟩
theorem lw_p6 : lw_okq (⟨"BoilerPapers$House", "settingAt", "(I)I"⟩, 9) := ⟨⟨by decide +kernel, by decide +kernel⟩, List.mem_of_getElem? (i := 20) (by decide +kernel), List.mem_of_getElem? (i := 333) (by decide +kernel), List.mem_of_getElem? (i := 334) (by decide +kernel)⟩
theorem lw_p7 : lw_okq (⟨"BoilerPapers$House", "lastWeekOffered", "(LBoilerPapers$Boiler;I)I"⟩, 9) := ⟨⟨by decide +kernel, by decide +kernel⟩, List.mem_of_getElem? (i := 20) (by decide +kernel), List.mem_of_getElem? (i := 341) (by decide +kernel), List.mem_of_getElem? (i := 342) (by decide +kernel)⟩
theorem lw_p8 : lw_okq (⟨"BoilerPapers$House", "ownerPays", "(II)V"⟩, 9) := ⟨⟨by decide +kernel, by decide +kernel⟩, List.mem_of_getElem? (i := 20) (by decide +kernel), List.mem_of_getElem? (i := 357) (by decide +kernel), List.mem_of_getElem? (i := 358) (by decide +kernel)⟩
theorem lw_p9 : lw_okq (⟨"BoilerPapers$House", "letOneWeekPass", "()I"⟩, 9) := ⟨⟨by decide +kernel, by decide +kernel⟩, List.mem_of_getElem? (i := 20) (by decide +kernel), List.mem_of_getElem? (i := 413) (by decide +kernel), List.mem_of_getElem? (i := 414) (by decide +kernel)⟩
theorem lw_p10 : lw_okq (⟨"BoilerPapers$House", "isOneBetter", "(LBoilerPapers$Boiler;)Z"⟩, 9) := ⟨⟨by decide +kernel, by decide +kernel⟩, List.mem_of_getElem? (i := 20) (by decide +kernel), List.mem_of_getElem? (i := 527) (by decide +kernel), List.mem_of_getElem? (i := 528) (by decide +kernel)⟩
theorem lw_p11 : lw_okq (⟨"BoilerPapers$House", "setOfBoilers", "(I)I"⟩, 9) := ⟨⟨by decide +kernel, by decide +kernel⟩, List.mem_of_getElem? (i := 20) (by decide +kernel), List.mem_of_getElem? (i := 580) (by decide +kernel), List.mem_of_getElem? (i := 581) (by decide +kernel)⟩
theorem lw_p12 : lw_okq (⟨"BoilerPapers$House", "isInSet", "(LBoilerPapers$Boiler;I)Z"⟩, 9) := ⟨⟨by decide +kernel, by decide +kernel⟩, List.mem_of_getElem? (i := 20) (by decide +kernel), List.mem_of_getElem? (i := 584) (by decide +kernel), List.mem_of_getElem? (i := 585) (by decide +kernel)⟩
theorem lw_p13 : lw_okq (⟨"BoilerPapers$House", "allAccounts", "()I"⟩, 9) := ⟨⟨by decide +kernel, by decide +kernel⟩, List.mem_of_getElem? (i := 20) (by decide +kernel), List.mem_of_getElem? (i := 588) (by decide +kernel), List.mem_of_getElem? (i := 589) (by decide +kernel)⟩
theorem lw_p14 : lw_okq (⟨"BoilerPapers$House", "allOfInspectors", "(I)I"⟩, 9) := ⟨⟨by decide +kernel, by decide +kernel⟩, List.mem_of_getElem? (i := 20) (by decide +kernel), List.mem_of_getElem? (i := 592) (by decide +kernel), List.mem_of_getElem? (i := 593) (by decide +kernel)⟩
theorem lw_p15 : lw_okq (⟨"BoilerPapers$OrderText", "readKind", "()Z"⟩, 7) := ⟨⟨by decide +kernel, by decide +kernel⟩, List.mem_of_getElem? (i := 160) (by decide +kernel), List.mem_of_getElem? (i := 643) (by decide +kernel), List.mem_of_getElem? (i := 644) (by decide +kernel)⟩
def lw_privs_1 : List (MethodName × Nat) := [(⟨"BoilerPapers", "trialOfNow", "()LBoilerPapers$House;"⟩, 5), (⟨"BoilerPapers$House", "boilerAt", "(I)LBoilerPapers$Boiler;"⟩, 9), (⟨"BoilerPapers$House", "inspectorAt", "(I)LBoilerPapers$Inspector;"⟩, 9), (⟨"BoilerPapers", "settle", "(I)I"⟩, 5), (⟨"BoilerPapers$History", "stateAt", "(I)LBoilerPapers$House;"⟩, 3), (⟨"BoilerPapers$House", "pressureOffered", "(LBoilerPapers$Boiler;I)I"⟩, 9), (⟨"BoilerPapers$House", "settingAt", "(I)I"⟩, 9), (⟨"BoilerPapers$House", "lastWeekOffered", "(LBoilerPapers$Boiler;I)I"⟩, 9), (⟨"BoilerPapers$House", "ownerPays", "(II)V"⟩, 9), (⟨"BoilerPapers$House", "letOneWeekPass", "()I"⟩, 9), (⟨"BoilerPapers$House", "isOneBetter", "(LBoilerPapers$Boiler;)Z"⟩, 9), (⟨"BoilerPapers$House", "setOfBoilers", "(I)I"⟩, 9), (⟨"BoilerPapers$House", "isInSet", "(LBoilerPapers$Boiler;I)Z"⟩, 9), (⟨"BoilerPapers$House", "allAccounts", "()I"⟩, 9), (⟨"BoilerPapers$House", "allOfInspectors", "(I)I"⟩, 9), (⟨"BoilerPapers$OrderText", "readKind", "()Z"⟩, 7)]
theorem lw_r1 : ∀ q ∈ lw_privs_1, lw_okq q := List.forall_mem_cons.mpr ⟨lw_p0, List.forall_mem_cons.mpr ⟨lw_p1, List.forall_mem_cons.mpr ⟨lw_p2, List.forall_mem_cons.mpr ⟨lw_p3, List.forall_mem_cons.mpr ⟨lw_p4, List.forall_mem_cons.mpr ⟨lw_p5, List.forall_mem_cons.mpr ⟨lw_p6, List.forall_mem_cons.mpr ⟨lw_p7, List.forall_mem_cons.mpr ⟨lw_p8, List.forall_mem_cons.mpr ⟨lw_p9, List.forall_mem_cons.mpr ⟨lw_p10, List.forall_mem_cons.mpr ⟨lw_p11, List.forall_mem_cons.mpr ⟨lw_p12, List.forall_mem_cons.mpr ⟨lw_p13, List.forall_mem_cons.mpr ⟨lw_p14, List.forall_mem_cons.mpr ⟨lw_p15, fun _ h => absurd h List.not_mem_nil⟩⟩⟩⟩⟩⟩⟩⟩⟩⟩⟩⟩⟩⟩⟩⟩
theorem lw_p16 : lw_okq (⟨"BoilerPapers$OrderText", "signHere", "()I"⟩, 7) := ⟨⟨by decide +kernel, by decide +kernel⟩, List.mem_of_getElem? (i := 160) (by decide +kernel), List.mem_of_getElem? (i := 647) (by decide +kernel), List.mem_of_getElem? (i := 648) (by decide +kernel)⟩
theorem lw_p17 : lw_okq (⟨"BoilerPapers$OrderText", "readNumber", "()I"⟩, 7) := ⟨⟨by decide +kernel, by decide +kernel⟩, List.mem_of_getElem? (i := 160) (by decide +kernel), List.mem_of_getElem? (i := 651) (by decide +kernel), List.mem_of_getElem? (i := 652) (by decide +kernel)⟩
theorem lw_p18 : lw_okq (⟨"BoilerPapers$OrderText", "readDigit", "()I"⟩, 7) := ⟨⟨by decide +kernel, by decide +kernel⟩, List.mem_of_getElem? (i := 160) (by decide +kernel), List.mem_of_getElem? (i := 655) (by decide +kernel), List.mem_of_getElem? (i := 656) (by decide +kernel)⟩
theorem lw_p19 : lw_okq (⟨"BoilerPapers$OrderText", "readSign", "(C)Z"⟩, 7) := ⟨⟨by decide +kernel, by decide +kernel⟩, List.mem_of_getElem? (i := 160) (by decide +kernel), List.mem_of_getElem? (i := 659) (by decide +kernel), List.mem_of_getElem? (i := 660) (by decide +kernel)⟩
theorem lw_p20 : lw_okq (⟨"BoilerPapers$Rehearsal", "takeAnswer", "(II)V"⟩, 4) := ⟨⟨by decide +kernel, by decide +kernel⟩, List.mem_of_getElem? (i := 193) (by decide +kernel), List.mem_of_getElem? (i := 673) (by decide +kernel), List.mem_of_getElem? (i := 674) (by decide +kernel)⟩
theorem lw_p21 : lw_okq (⟨"BoilerPapers$Rehearsal", "stopAt", "(III)V"⟩, 4) := ⟨⟨by decide +kernel, by decide +kernel⟩, List.mem_of_getElem? (i := 193) (by decide +kernel), List.mem_of_getElem? (i := 678) (by decide +kernel), List.mem_of_getElem? (i := 679) (by decide +kernel)⟩
theorem lw_p22 : lw_okq (⟨"BoilerPapersModel", "begins", "()V"⟩, 13) := ⟨⟨by decide +kernel, by decide +kernel⟩, List.mem_of_getElem? (i := 700) (by decide +kernel), List.mem_of_getElem? (i := 750) (by decide +kernel), List.mem_of_getElem? (i := 751) (by decide +kernel)⟩
theorem lw_p23 : lw_okq (⟨"BoilerPapersModel", "comes", "(I)I"⟩, 13) := ⟨⟨by decide +kernel, by decide +kernel⟩, List.mem_of_getElem? (i := 700) (by decide +kernel), List.mem_of_getElem? (i := 754) (by decide +kernel), List.mem_of_getElem? (i := 755) (by decide +kernel)⟩
theorem lw_p24 : lw_okq (⟨"BoilerPapersModel", "lays", "(III)V"⟩, 13) := ⟨⟨by decide +kernel, by decide +kernel⟩, List.mem_of_getElem? (i := 700) (by decide +kernel), List.mem_of_getElem? (i := 763) (by decide +kernel), List.mem_of_getElem? (i := 764) (by decide +kernel)⟩
theorem lw_p25 : lw_okq (⟨"BoilerPapersModel", "acted", "(I)I"⟩, 13) := ⟨⟨by decide +kernel, by decide +kernel⟩, List.mem_of_getElem? (i := 700) (by decide +kernel), List.mem_of_getElem? (i := 767) (by decide +kernel), List.mem_of_getElem? (i := 768) (by decide +kernel)⟩
theorem lw_p26 : lw_okq (⟨"BoilerPapersModel", "returns", "()V"⟩, 13) := ⟨⟨by decide +kernel, by decide +kernel⟩, List.mem_of_getElem? (i := 700) (by decide +kernel), List.mem_of_getElem? (i := 771) (by decide +kernel), List.mem_of_getElem? (i := 772) (by decide +kernel)⟩
theorem lw_p27 : lw_okq (⟨"BoilerPapersModel", "isBoiler", "(I)Z"⟩, 13) := ⟨⟨by decide +kernel, by decide +kernel⟩, List.mem_of_getElem? (i := 700) (by decide +kernel), List.mem_of_getElem? (i := 783) (by decide +kernel), List.mem_of_getElem? (i := 784) (by decide +kernel)⟩
theorem lw_p28 : lw_okq (⟨"BoilerPapersModel", "of", "(II)I"⟩, 13) := ⟨⟨by decide +kernel, by decide +kernel⟩, List.mem_of_getElem? (i := 700) (by decide +kernel), List.mem_of_getElem? (i := 787) (by decide +kernel), List.mem_of_getElem? (i := 788) (by decide +kernel)⟩
theorem lw_p29 : lw_okq (⟨"BoilerPapersModel", "inspects", "(II)I"⟩, 13) := ⟨⟨by decide +kernel, by decide +kernel⟩, List.mem_of_getElem? (i := 700) (by decide +kernel), List.mem_of_getElem? (i := 796) (by decide +kernel), List.mem_of_getElem? (i := 797) (by decide +kernel)⟩
theorem lw_p30 : lw_okq (⟨"BoilerPapersModel", "isInspector", "(I)Z"⟩, 13) := ⟨⟨by decide +kernel, by decide +kernel⟩, List.mem_of_getElem? (i := 700) (by decide +kernel), List.mem_of_getElem? (i := 800) (by decide +kernel), List.mem_of_getElem? (i := 801) (by decide +kernel)⟩
theorem lw_p31 : lw_okq (⟨"BoilerPapersModel", "whyNotInspected", "(II)I"⟩, 13) := ⟨⟨by decide +kernel, by decide +kernel⟩, List.mem_of_getElem? (i := 700) (by decide +kernel), List.mem_of_getElem? (i := 804) (by decide +kernel), List.mem_of_getElem? (i := 805) (by decide +kernel)⟩
def lw_privs_2 : List (MethodName × Nat) := [(⟨"BoilerPapers$OrderText", "signHere", "()I"⟩, 7), (⟨"BoilerPapers$OrderText", "readNumber", "()I"⟩, 7), (⟨"BoilerPapers$OrderText", "readDigit", "()I"⟩, 7), (⟨"BoilerPapers$OrderText", "readSign", "(C)Z"⟩, 7), (⟨"BoilerPapers$Rehearsal", "takeAnswer", "(II)V"⟩, 4), (⟨"BoilerPapers$Rehearsal", "stopAt", "(III)V"⟩, 4), (⟨"BoilerPapersModel", "begins", "()V"⟩, 13), (⟨"BoilerPapersModel", "comes", "(I)I"⟩, 13), (⟨"BoilerPapersModel", "lays", "(III)V"⟩, 13), (⟨"BoilerPapersModel", "acted", "(I)I"⟩, 13), (⟨"BoilerPapersModel", "returns", "()V"⟩, 13), (⟨"BoilerPapersModel", "isBoiler", "(I)Z"⟩, 13), (⟨"BoilerPapersModel", "of", "(II)I"⟩, 13), (⟨"BoilerPapersModel", "inspects", "(II)I"⟩, 13), (⟨"BoilerPapersModel", "isInspector", "(I)Z"⟩, 13), (⟨"BoilerPapersModel", "whyNotInspected", "(II)I"⟩, 13)]
theorem lw_r2 : ∀ q ∈ lw_privs_2, lw_okq q := List.forall_mem_cons.mpr ⟨lw_p16, List.forall_mem_cons.mpr ⟨lw_p17, List.forall_mem_cons.mpr ⟨lw_p18, List.forall_mem_cons.mpr ⟨lw_p19, List.forall_mem_cons.mpr ⟨lw_p20, List.forall_mem_cons.mpr ⟨lw_p21, List.forall_mem_cons.mpr ⟨lw_p22, List.forall_mem_cons.mpr ⟨lw_p23, List.forall_mem_cons.mpr ⟨lw_p24, List.forall_mem_cons.mpr ⟨lw_p25, List.forall_mem_cons.mpr ⟨lw_p26, List.forall_mem_cons.mpr ⟨lw_p27, List.forall_mem_cons.mpr ⟨lw_p28, List.forall_mem_cons.mpr ⟨lw_p29, List.forall_mem_cons.mpr ⟨lw_p30, List.forall_mem_cons.mpr ⟨lw_p31, fun _ h => absurd h List.not_mem_nil⟩⟩⟩⟩⟩⟩⟩⟩⟩⟩⟩⟩⟩⟩⟩⟩
theorem lw_p32 : lw_okq (⟨"BoilerPapersModel", "by", "(II)I"⟩, 13) := ⟨⟨by decide +kernel, by decide +kernel⟩, List.mem_of_getElem? (i := 700) (by decide +kernel), List.mem_of_getElem? (i := 808) (by decide +kernel), List.mem_of_getElem? (i := 809) (by decide +kernel)⟩
theorem lw_p33 : lw_okq (⟨"BoilerPapersModel", "pressureBy", "(II)I"⟩, 13) := ⟨⟨by decide +kernel, by decide +kernel⟩, List.mem_of_getElem? (i := 700) (by decide +kernel), List.mem_of_getElem? (i := 812) (by decide +kernel), List.mem_of_getElem? (i := 813) (by decide +kernel)⟩
theorem lw_p34 : lw_okq (⟨"BoilerPapersModel", "strength", "(I)I"⟩, 13) := ⟨⟨by decide +kernel, by decide +kernel⟩, List.mem_of_getElem? (i := 700) (by decide +kernel), List.mem_of_getElem? (i := 816) (by decide +kernel), List.mem_of_getElem? (i := 817) (by decide +kernel)⟩
theorem lw_p35 : lw_okq (⟨"BoilerPapersModel", "pays", "(II)V"⟩, 13) := ⟨⟨by decide +kernel, by decide +kernel⟩, List.mem_of_getElem? (i := 700) (by decide +kernel), List.mem_of_getElem? (i := 820) (by decide +kernel), List.mem_of_getElem? (i := 821) (by decide +kernel)⟩
theorem lw_p36 : lw_okq (⟨"BoilerPapersModel", "counts", "(II)V"⟩, 13) := ⟨⟨by decide +kernel, by decide +kernel⟩, List.mem_of_getElem? (i := 700) (by decide +kernel), List.mem_of_getElem? (i := 824) (by decide +kernel), List.mem_of_getElem? (i := 825) (by decide +kernel)⟩
theorem lw_p37 : lw_okq (⟨"BoilerPapersModel", "lastBy", "(II)I"⟩, 13) := ⟨⟨by decide +kernel, by decide +kernel⟩, List.mem_of_getElem? (i := 700) (by decide +kernel), List.mem_of_getElem? (i := 828) (by decide +kernel), List.mem_of_getElem? (i := 829) (by decide +kernel)⟩
theorem lw_p38 : lw_okq (⟨"BoilerPapersModel", "fires", "(I)I"⟩, 13) := ⟨⟨by decide +kernel, by decide +kernel⟩, List.mem_of_getElem? (i := 700) (by decide +kernel), List.mem_of_getElem? (i := 836) (by decide +kernel), List.mem_of_getElem? (i := 837) (by decide +kernel)⟩
theorem lw_p39 : lw_okq (⟨"BoilerPapersModel", "whyNotFired", "(I)I"⟩, 13) := ⟨⟨by decide +kernel, by decide +kernel⟩, List.mem_of_getElem? (i := 700) (by decide +kernel), List.mem_of_getElem? (i := 840) (by decide +kernel), List.mem_of_getElem? (i := 841) (by decide +kernel)⟩
theorem lw_p40 : lw_okq (⟨"BoilerPapersModel", "isShut", "(I)Z"⟩, 13) := ⟨⟨by decide +kernel, by decide +kernel⟩, List.mem_of_getElem? (i := 700) (by decide +kernel), List.mem_of_getElem? (i := 844) (by decide +kernel), List.mem_of_getElem? (i := 845) (by decide +kernel)⟩
theorem lw_p41 : lw_okq (⟨"BoilerPapersModel", "hasPaper", "(I)Z"⟩, 13) := ⟨⟨by decide +kernel, by decide +kernel⟩, List.mem_of_getElem? (i := 700) (by decide +kernel), List.mem_of_getElem? (i := 848) (by decide +kernel), List.mem_of_getElem? (i := 849) (by decide +kernel)⟩
theorem lw_p42 : lw_okq (⟨"BoilerPapersModel", "puts", "(I)I"⟩, 13) := ⟨⟨by decide +kernel, by decide +kernel⟩, List.mem_of_getElem? (i := 700) (by decide +kernel), List.mem_of_getElem? (i := 856) (by decide +kernel), List.mem_of_getElem? (i := 857) (by decide +kernel)⟩
theorem lw_p43 : lw_okq (⟨"BoilerPapersModel", "cools", "(I)V"⟩, 13) := ⟨⟨by decide +kernel, by decide +kernel⟩, List.mem_of_getElem? (i := 700) (by decide +kernel), List.mem_of_getElem? (i := 860) (by decide +kernel), List.mem_of_getElem? (i := 861) (by decide +kernel)⟩
theorem lw_p44 : lw_okq (⟨"BoilerPapersModel", "sends", "(I)I"⟩, 13) := ⟨⟨by decide +kernel, by decide +kernel⟩, List.mem_of_getElem? (i := 700) (by decide +kernel), List.mem_of_getElem? (i := 872) (by decide +kernel), List.mem_of_getElem? (i := 873) (by decide +kernel)⟩
theorem lw_p45 : lw_okq (⟨"BoilerPapersModel", "passes", "(I)I"⟩, 13) := ⟨⟨by decide +kernel, by decide +kernel⟩, List.mem_of_getElem? (i := 700) (by decide +kernel), List.mem_of_getElem? (i := 880) (by decide +kernel), List.mem_of_getElem? (i := 881) (by decide +kernel)⟩
theorem lw_p46 : lw_okq (⟨"BoilerPapersModel", "week", "()I"⟩, 13) := ⟨⟨by decide +kernel, by decide +kernel⟩, List.mem_of_getElem? (i := 700) (by decide +kernel), List.mem_of_getElem? (i := 884) (by decide +kernel), List.mem_of_getElem? (i := 885) (by decide +kernel)⟩
theorem lw_p47 : lw_okq (⟨"BoilerPapersModel", "grows", "(I)V"⟩, 13) := ⟨⟨by decide +kernel, by decide +kernel⟩, List.mem_of_getElem? (i := 700) (by decide +kernel), List.mem_of_getElem? (i := 888) (by decide +kernel), List.mem_of_getElem? (i := 889) (by decide +kernel)⟩
def lw_privs_3 : List (MethodName × Nat) := [(⟨"BoilerPapersModel", "by", "(II)I"⟩, 13), (⟨"BoilerPapersModel", "pressureBy", "(II)I"⟩, 13), (⟨"BoilerPapersModel", "strength", "(I)I"⟩, 13), (⟨"BoilerPapersModel", "pays", "(II)V"⟩, 13), (⟨"BoilerPapersModel", "counts", "(II)V"⟩, 13), (⟨"BoilerPapersModel", "lastBy", "(II)I"⟩, 13), (⟨"BoilerPapersModel", "fires", "(I)I"⟩, 13), (⟨"BoilerPapersModel", "whyNotFired", "(I)I"⟩, 13), (⟨"BoilerPapersModel", "isShut", "(I)Z"⟩, 13), (⟨"BoilerPapersModel", "hasPaper", "(I)Z"⟩, 13), (⟨"BoilerPapersModel", "puts", "(I)I"⟩, 13), (⟨"BoilerPapersModel", "cools", "(I)V"⟩, 13), (⟨"BoilerPapersModel", "sends", "(I)I"⟩, 13), (⟨"BoilerPapersModel", "passes", "(I)I"⟩, 13), (⟨"BoilerPapersModel", "week", "()I"⟩, 13), (⟨"BoilerPapersModel", "grows", "(I)V"⟩, 13)]
theorem lw_r3 : ∀ q ∈ lw_privs_3, lw_okq q := List.forall_mem_cons.mpr ⟨lw_p32, List.forall_mem_cons.mpr ⟨lw_p33, List.forall_mem_cons.mpr ⟨lw_p34, List.forall_mem_cons.mpr ⟨lw_p35, List.forall_mem_cons.mpr ⟨lw_p36, List.forall_mem_cons.mpr ⟨lw_p37, List.forall_mem_cons.mpr ⟨lw_p38, List.forall_mem_cons.mpr ⟨lw_p39, List.forall_mem_cons.mpr ⟨lw_p40, List.forall_mem_cons.mpr ⟨lw_p41, List.forall_mem_cons.mpr ⟨lw_p42, List.forall_mem_cons.mpr ⟨lw_p43, List.forall_mem_cons.mpr ⟨lw_p44, List.forall_mem_cons.mpr ⟨lw_p45, List.forall_mem_cons.mpr ⟨lw_p46, List.forall_mem_cons.mpr ⟨lw_p47, fun _ h => absurd h List.not_mem_nil⟩⟩⟩⟩⟩⟩⟩⟩⟩⟩⟩⟩⟩⟩⟩⟩
theorem lw_p48 : lw_okq (⟨"BoilerPapersModel", "repairs", "(I)V"⟩, 13) := ⟨⟨by decide +kernel, by decide +kernel⟩, List.mem_of_getElem? (i := 700) (by decide +kernel), List.mem_of_getElem? (i := 892) (by decide +kernel), List.mem_of_getElem? (i := 893) (by decide +kernel)⟩
theorem lw_p49 : lw_okq (⟨"BoilerPapersModel", "wouldDo", "(II)Z"⟩, 13) := ⟨⟨by decide +kernel, by decide +kernel⟩, List.mem_of_getElem? (i := 700) (by decide +kernel), List.mem_of_getElem? (i := 929) (by decide +kernel), List.mem_of_getElem? (i := 930) (by decide +kernel)⟩
theorem lw_p50 : lw_okq (⟨"BoilerPapersModel", "set0", "(I)I"⟩, 13) := ⟨⟨by decide +kernel, by decide +kernel⟩, List.mem_of_getElem? (i := 700) (by decide +kernel), List.mem_of_getElem? (i := 959) (by decide +kernel), List.mem_of_getElem? (i := 960) (by decide +kernel)⟩
theorem lw_p51 : lw_okq (⟨"BoilerPapersModel", "doesAll", "()Z"⟩, 13) := ⟨⟨by decide +kernel, by decide +kernel⟩, List.mem_of_getElem? (i := 700) (by decide +kernel), List.mem_of_getElem? (i := 979) (by decide +kernel), List.mem_of_getElem? (i := 980) (by decide +kernel)⟩
theorem lw_p52 : lw_okq (⟨"BoilerPapersModel", "here", "()I"⟩, 13) := ⟨⟨by decide +kernel, by decide +kernel⟩, List.mem_of_getElem? (i := 700) (by decide +kernel), List.mem_of_getElem? (i := 983) (by decide +kernel), List.mem_of_getElem? (i := 984) (by decide +kernel)⟩
theorem lw_p53 : lw_okq (⟨"BoilerPapersModel", "number", "()I"⟩, 13) := ⟨⟨by decide +kernel, by decide +kernel⟩, List.mem_of_getElem? (i := 700) (by decide +kernel), List.mem_of_getElem? (i := 990) (by decide +kernel), List.mem_of_getElem? (i := 991) (by decide +kernel)⟩
theorem lw_p54 : lw_okq (⟨"BoilerPapersModel", "isDigit", "()Z"⟩, 13) := ⟨⟨by decide +kernel, by decide +kernel⟩, List.mem_of_getElem? (i := 700) (by decide +kernel), List.mem_of_getElem? (i := 994) (by decide +kernel), List.mem_of_getElem? (i := 995) (by decide +kernel)⟩
theorem lw_p55 : lw_okq (⟨"BoilerPapersModel", "takesSign", "(I)V"⟩, 13) := ⟨⟨by decide +kernel, by decide +kernel⟩, List.mem_of_getElem? (i := 700) (by decide +kernel), List.mem_of_getElem? (i := 998) (by decide +kernel), List.mem_of_getElem? (i := 999) (by decide +kernel)⟩
theorem lw_p56 : lw_okq (⟨"BoilerPapersModel", "called", "(I)I"⟩, 13) := ⟨⟨by decide +kernel, by decide +kernel⟩, List.mem_of_getElem? (i := 700) (by decide +kernel), List.mem_of_getElem? (i := 1002) (by decide +kernel), List.mem_of_getElem? (i := 1003) (by decide +kernel)⟩
def lw_privs_4 : List (MethodName × Nat) := [(⟨"BoilerPapersModel", "repairs", "(I)V"⟩, 13), (⟨"BoilerPapersModel", "wouldDo", "(II)Z"⟩, 13), (⟨"BoilerPapersModel", "set0", "(I)I"⟩, 13), (⟨"BoilerPapersModel", "doesAll", "()Z"⟩, 13), (⟨"BoilerPapersModel", "here", "()I"⟩, 13), (⟨"BoilerPapersModel", "number", "()I"⟩, 13), (⟨"BoilerPapersModel", "isDigit", "()Z"⟩, 13), (⟨"BoilerPapersModel", "takesSign", "(I)V"⟩, 13), (⟨"BoilerPapersModel", "called", "(I)I"⟩, 13)]
theorem lw_r4 : ∀ q ∈ lw_privs_4, lw_okq q := List.forall_mem_cons.mpr ⟨lw_p48, List.forall_mem_cons.mpr ⟨lw_p49, List.forall_mem_cons.mpr ⟨lw_p50, List.forall_mem_cons.mpr ⟨lw_p51, List.forall_mem_cons.mpr ⟨lw_p52, List.forall_mem_cons.mpr ⟨lw_p53, List.forall_mem_cons.mpr ⟨lw_p54, List.forall_mem_cons.mpr ⟨lw_p55, List.forall_mem_cons.mpr ⟨lw_p56, fun _ h => absurd h List.not_mem_nil⟩⟩⟩⟩⟩⟩⟩⟩⟩
def lw_privs : List (MethodName × Nat) := lw_privs_1 ++ (lw_privs_2 ++ (lw_privs_3 ++ (lw_privs_4)))
def lw_tbl : List Cond := k2_sels lw_privs ++ tables_1
theorem lw_privs_ok : ∀ q ∈ lw_privs, lw_okq q := by
  show ∀ q ∈ lw_privs_1 ++ (lw_privs_2 ++ (lw_privs_3 ++ (lw_privs_4))), lw_okq q
  exact List.forall_mem_append.mpr ⟨lw_r1, List.forall_mem_append.mpr ⟨lw_r2, List.forall_mem_append.mpr ⟨lw_r3, lw_r4⟩⟩⟩
/-- the streams that the claim lets the run draw from -/
abbrev lw_cs : List Choice := [Jvm.Choice.named "NaN.bits"]
theorem lw_bits : nanBits ∈ lw_cs := by first | decide | exact List.mem_cons_self | simp [lw_cs, nanBits]
end
section
def RX0 : String := "BoilerPapers$Boiler"
def TX0 : u_T := fun k => match k with
  | 0 => ("BoilerPapers$Boiler", "builtFor", "I", false)
  | 1 => ("BoilerPapers$Boiler", "working", "I", false)
  | 2 => ("BoilerPapers$Boiler", "wear", "I", false)
  | 3 => ("BoilerPapers$Boiler", "condition", "I", false)
  | 4 => ("BoilerPapers$Boiler", "coldWeeks", "I", false)
  | 5 => ("BoilerPapers$Boiler", "repairEnd", "I", false)
  | 6 => ("BoilerPapers$Boiler", "repairAsked", "Z", false)
  | 7 => ("BoilerPapers$Boiler", "paperGiven", "Z", false)
  | 8 => ("BoilerPapers$Boiler", "paperInsurer", "I", false)
  | 9 => ("BoilerPapers$Boiler", "paperPressure", "I", false)
  | 10 => ("BoilerPapers$Boiler", "paperLast", "I", false)
  | 11 => ("BoilerPapers$Boiler", "shutPlanned", "Z", false)
  | 12 => ("BoilerPapers$Boiler", "shutFrom", "I", false)
  | _ => ("BoilerPapers$Boiler", "shutLast", "I", false)
def tyX0 : Nat → FieldType := fun k => match k with
  | 0 => .int
  | 1 => .int
  | 2 => .int
  | 3 => .int
  | 4 => .int
  | 5 => .int
  | 6 => .boolean
  | 7 => .boolean
  | 8 => .int
  | 9 => .int
  | 10 => .int
  | 11 => .boolean
  | 12 => .int
  | _ => .int
abbrev wsX00 : List Cond := u_ws RX0 TX0 14
theorem nmX0 : ∀ a, a < 14 → ∀ b, b < 14 → a ≠ b → (TX0 a).2.1 ≠ (TX0 b).2.1 := by decide +kernel
theorem tyX0_ok : ∀ k, k < 14 → parseFieldDescriptor (TX0 k).2.2.1 = some (tyX0 k) := by decide +kernel
abbrev cX0_init : ByteArray := prog_2_method_1_code
def yX0_init : MethodName := ⟨RX0, "<init>", "()V"⟩
abbrev cX0_begin : ByteArray := prog_2_method_2_code
def yX0_begin : MethodName := ⟨RX0, "begin", "(I)V"⟩
abbrev cX0_copyFrom : ByteArray := prog_2_method_3_code
def yX0_copyFrom : MethodName := ⟨RX0, "copyFrom", "(LBoilerPapers$Boiler;)V"⟩
abbrev cX0_strength : ByteArray := prog_2_method_4_code
def yX0_strength : MethodName := ⟨RX0, "strength", "()I"⟩
abbrev cX0_isShutIn : ByteArray := prog_2_method_5_code
def yX0_isShutIn : MethodName := ⟨RX0, "isShutIn", "(I)Z"⟩
abbrev cX0_whyNotFiredIn : ByteArray := prog_2_method_6_code
def yX0_whyNotFiredIn : MethodName := ⟨RX0, "whyNotFiredIn", "(I)I"⟩
abbrev cX0_whyNotInspectedBy : ByteArray := prog_2_method_7_code
def yX0_whyNotInspectedBy : MethodName := ⟨RX0, "whyNotInspectedBy", "(LBoilerPapers$Inspector;)I"⟩
abbrev cX0_takePaper : ByteArray := prog_2_method_8_code
def yX0_takePaper : MethodName := ⟨RX0, "takePaper", "(III)V"⟩
abbrev cX0_refusePaper : ByteArray := prog_2_method_9_code
def yX0_refusePaper : MethodName := ⟨RX0, "refusePaper", "()V"⟩
abbrev cX0_becomeCold : ByteArray := prog_2_method_10_code
def yX0_becomeCold : MethodName := ⟨RX0, "becomeCold", "()V"⟩
abbrev cX0_age : ByteArray := prog_2_method_11_code
def yX0_age : MethodName := ⟨RX0, "age", "()V"⟩
abbrev cX0_endRepairIn : ByteArray := prog_2_method_12_code
def yX0_endRepairIn : MethodName := ⟨RX0, "endRepairIn", "(I)V"⟩
abbrev cX0_dropWhatIsPastIn : ByteArray := prog_2_method_13_code
def yX0_dropWhatIsPastIn : MethodName := ⟨RX0, "dropWhatIsPastIn", "(I)V"⟩
abbrev cX0_mustGoOutIn : ByteArray := prog_2_method_14_code
def yX0_mustGoOutIn : MethodName := ⟨RX0, "mustGoOutIn", "(I)Z"⟩
abbrev cX0_weeksUntilPutOut : ByteArray := prog_2_method_15_code
def yX0_weeksUntilPutOut : MethodName := ⟨RX0, "weeksUntilPutOut", "(I)I"⟩
abbrev cX0_fact : ByteArray := prog_2_method_16_code
def yX0_fact : MethodName := ⟨RX0, "fact", "(II)I"⟩
abbrev cX0_factOfPaper : ByteArray := prog_2_method_17_code
def yX0_factOfPaper : MethodName := ⟨RX0, "factOfPaper", "(I)I"⟩
def RX1 : String := "BoilerPapers$History"
def TX1 : u_T := fun k => match k with
  | 0 => ("BoilerPapers$History", "states", "[LBoilerPapers$House;", true)
  | 1 => ("BoilerPapers$History", "size", "I", false)
  | _ => ("BoilerPapers$History", "next", "I", false)
def tyX1 : Nat → FieldType := fun k => match k with
  | 0 => .array (.object "BoilerPapers$House")
  | 1 => .int
  | _ => .int
abbrev wsX10 : List Cond := u_ws RX1 TX1 3
theorem nmX1 : ∀ a, a < 3 → ∀ b, b < 3 → a ≠ b → (TX1 a).2.1 ≠ (TX1 b).2.1 := by decide +kernel
theorem tyX1_ok : ∀ k, k < 3 → parseFieldDescriptor (TX1 k).2.2.1 = some (tyX1 k) := by decide +kernel
abbrev cX1_init : ByteArray := prog_3_method_1_code
def yX1_init : MethodName := ⟨RX1, "<init>", "()V"⟩
abbrev cX1_size : ByteArray := prog_3_method_2_code
def yX1_size : MethodName := ⟨RX1, "size", "()I"⟩
abbrev cX1_stateAt : ByteArray := prog_3_method_3_code
def yX1_stateAt : MethodName := ⟨RX1, "stateAt", "(I)LBoilerPapers$House;"⟩
abbrev cX1_keep : ByteArray := prog_3_method_4_code
def yX1_keep : MethodName := ⟨RX1, "keep", "(LBoilerPapers$House;)V"⟩
abbrev cX1_bringBack : ByteArray := prog_3_method_5_code
def yX1_bringBack : MethodName := ⟨RX1, "bringBack", "(LBoilerPapers$House;)I"⟩
def RX2 : String := "BoilerPapers$House"
def TX2 : u_T := fun k => match k with
  | 0 => ("BoilerPapers$House", "boilers", "[LBoilerPapers$Boiler;", true)
  | 1 => ("BoilerPapers$House", "inspectors", "[LBoilerPapers$Inspector;", true)
  | 2 => ("BoilerPapers$House", "settings", "[I", true)
  | 3 => ("BoilerPapers$House", "accounts", "[I", true)
  | 4 => ("BoilerPapers$House", "boilerCount", "I", false)
  | 5 => ("BoilerPapers$House", "inspectorCount", "I", false)
  | 6 => ("BoilerPapers$House", "week", "I", false)
  | 7 => ("BoilerPapers$House", "putOutByWeeks", "I", false)
  | _ => ("BoilerPapers$House", "repairWeeksPaid", "I", false)
def tyX2 : Nat → FieldType := fun k => match k with
  | 0 => .array (.object "BoilerPapers$Boiler")
  | 1 => .array (.object "BoilerPapers$Inspector")
  | 2 => .array .int
  | 3 => .array .int
  | 4 => .int
  | 5 => .int
  | 6 => .int
  | 7 => .int
  | _ => .int
abbrev wsX20 : List Cond := u_ws RX2 TX2 9
theorem nmX2 : ∀ a, a < 9 → ∀ b, b < 9 → a ≠ b → (TX2 a).2.1 ≠ (TX2 b).2.1 := by decide +kernel
theorem tyX2_ok : ∀ k, k < 9 → parseFieldDescriptor (TX2 k).2.2.1 = some (tyX2 k) := by decide +kernel
abbrev cX2_init : ByteArray := prog_4_method_1_code
def yX2_init : MethodName := ⟨RX2, "<init>", "()V"⟩
abbrev cX2_copyFrom : ByteArray := prog_4_method_2_code
def yX2_copyFrom : MethodName := ⟨RX2, "copyFrom", "(LBoilerPapers$House;)V"⟩
abbrev cX2_copyNumbers : ByteArray := prog_4_method_3_code
def yX2_copyNumbers : MethodName := ⟨RX2, "copyNumbers", "([I[I)V"⟩
abbrev cX2_boilerAt : ByteArray := prog_4_method_4_code
def yX2_boilerAt : MethodName := ⟨RX2, "boilerAt", "(I)LBoilerPapers$Boiler;"⟩
abbrev cX2_inspectorAt : ByteArray := prog_4_method_5_code
def yX2_inspectorAt : MethodName := ⟨RX2, "inspectorAt", "(I)LBoilerPapers$Inspector;"⟩
abbrev cX2_settingAt : ByteArray := prog_4_method_6_code
def yX2_settingAt : MethodName := ⟨RX2, "settingAt", "(I)I"⟩
abbrev cX2_balanceOf : ByteArray := prog_4_method_7_code
def yX2_balanceOf : MethodName := ⟨RX2, "balanceOf", "(I)I"⟩
abbrev cX2_ownerPays : ByteArray := prog_4_method_8_code
def yX2_ownerPays : MethodName := ⟨RX2, "ownerPays", "(II)V"⟩
abbrev cX2_addBoiler : ByteArray := prog_4_method_9_code
def yX2_addBoiler : MethodName := ⟨RX2, "addBoiler", "(I)I"⟩
abbrev cX2_addInspector : ByteArray := prog_4_method_10_code
def yX2_addInspector : MethodName := ⟨RX2, "addInspector", "(II)I"⟩
abbrev cX2_changePressure : ByteArray := prog_4_method_11_code
def yX2_changePressure : MethodName := ⟨RX2, "changePressure", "(II)I"⟩
abbrev cX2_examine : ByteArray := prog_4_method_12_code
def yX2_examine : MethodName := ⟨RX2, "examine", "(II)I"⟩
abbrev cX2_light : ByteArray := prog_4_method_13_code
def yX2_light : MethodName := ⟨RX2, "light", "(I)I"⟩
abbrev cX2_putOut : ByteArray := prog_4_method_14_code
def yX2_putOut : MethodName := ⟨RX2, "putOut", "(I)I"⟩
abbrev cX2_planShutdown : ByteArray := prog_4_method_15_code
def yX2_planShutdown : MethodName := ⟨RX2, "planShutdown", "(III)I"⟩
abbrev cX2_sendToRepair : ByteArray := prog_4_method_16_code
def yX2_sendToRepair : MethodName := ⟨RX2, "sendToRepair", "(I)I"⟩
abbrev cX2_letWeeksPass : ByteArray := prog_4_method_17_code
def yX2_letWeeksPass : MethodName := ⟨RX2, "letWeeksPass", "(I)I"⟩
abbrev cX2_letOneWeekPass : ByteArray := prog_4_method_18_code
def yX2_letOneWeekPass : MethodName := ⟨RX2, "letOneWeekPass", "()I"⟩
abbrev cX2_changeSetting : ByteArray := prog_4_method_19_code
def yX2_changeSetting : MethodName := ⟨RX2, "changeSetting", "(II)I"⟩
abbrev cX2_obey : ByteArray := prog_4_method_20_code
def yX2_obey : MethodName := ⟨RX2, "obey", "(CII)I"⟩
abbrev cX2_factOfBoiler : ByteArray := prog_4_method_21_code
def yX2_factOfBoiler : MethodName := ⟨RX2, "factOfBoiler", "(II)I"⟩
abbrev cX2_factOfPaper : ByteArray := prog_4_method_22_code
def yX2_factOfPaper : MethodName := ⟨RX2, "factOfPaper", "(II)I"⟩
abbrev cX2_factOfInspector : ByteArray := prog_4_method_23_code
def yX2_factOfInspector : MethodName := ⟨RX2, "factOfInspector", "(II)I"⟩
abbrev cX2_whyNotFired : ByteArray := prog_4_method_24_code
def yX2_whyNotFired : MethodName := ⟨RX2, "whyNotFired", "(I)I"⟩
abbrev cX2_whyNotInspected : ByteArray := prog_4_method_25_code
def yX2_whyNotInspected : MethodName := ⟨RX2, "whyNotInspected", "(II)I"⟩
abbrev cX2_pressureOffered : ByteArray := prog_4_method_26_code
def yX2_pressureOffered : MethodName := ⟨RX2, "pressureOffered", "(LBoilerPapers$Boiler;I)I"⟩
abbrev cX2_lastWeekOffered : ByteArray := prog_4_method_27_code
def yX2_lastWeekOffered : MethodName := ⟨RX2, "lastWeekOffered", "(LBoilerPapers$Boiler;I)I"⟩
abbrev cX2_paperThatWouldBe : ByteArray := prog_4_method_28_code
def yX2_paperThatWouldBe : MethodName := ⟨RX2, "paperThatWouldBe", "(III)I"⟩
abbrev cX2_betterInsurer : ByteArray := prog_4_method_29_code
def yX2_betterInsurer : MethodName := ⟨RX2, "betterInsurer", "(I)I"⟩
abbrev cX2_isOneBetter : ByteArray := prog_4_method_30_code
def yX2_isOneBetter : MethodName := ⟨RX2, "isOneBetter", "(LBoilerPapers$Boiler;)Z"⟩
abbrev cX2_firstToRunOut : ByteArray := prog_4_method_31_code
def yX2_firstToRunOut : MethodName := ⟨RX2, "firstToRunOut", "(I)I"⟩
abbrev cX2_weeksUntilPutOut : ByteArray := prog_4_method_32_code
def yX2_weeksUntilPutOut : MethodName := ⟨RX2, "weeksUntilPutOut", "(I)I"⟩
abbrev cX2_shareOfStrength : ByteArray := prog_4_method_33_code
def yX2_shareOfStrength : MethodName := ⟨RX2, "shareOfStrength", "(I)I"⟩
abbrev cX2_bitsOfShare : ByteArray := prog_4_method_34_code
def yX2_bitsOfShare : MethodName := ⟨RX2, "bitsOfShare", "(F)I"⟩
abbrev cX2_numberOf : ByteArray := prog_4_method_35_code
def yX2_numberOf : MethodName := ⟨RX2, "numberOf", "(I)I"⟩
abbrev cX2_setOfBoilers : ByteArray := prog_4_method_36_code
def yX2_setOfBoilers : MethodName := ⟨RX2, "setOfBoilers", "(I)I"⟩
abbrev cX2_isInSet : ByteArray := prog_4_method_37_code
def yX2_isInSet : MethodName := ⟨RX2, "isInSet", "(LBoilerPapers$Boiler;I)Z"⟩
abbrev cX2_allAccounts : ByteArray := prog_4_method_38_code
def yX2_allAccounts : MethodName := ⟨RX2, "allAccounts", "()I"⟩
abbrev cX2_allOfInspectors : ByteArray := prog_4_method_39_code
def yX2_allOfInspectors : MethodName := ⟨RX2, "allOfInspectors", "(I)I"⟩
def RX3 : String := "BoilerPapers$Inspector"
def TX3 : u_T := fun k => match k with
  | 0 => ("BoilerPapers$Inspector", "insurer", "I", false)
  | 1 => ("BoilerPapers$Inspector", "inWeek", "I", false)
  | 2 => ("BoilerPapers$Inspector", "doneThisWeek", "I", false)
  | 3 => ("BoilerPapers$Inspector", "inspections", "I", false)
  | _ => ("BoilerPapers$Inspector", "papers", "I", false)
def tyX3 : Nat → FieldType := fun k => match k with
  | 0 => .int
  | 1 => .int
  | 2 => .int
  | 3 => .int
  | _ => .int
abbrev wsX30 : List Cond := u_ws RX3 TX3 5
theorem nmX3 : ∀ a, a < 5 → ∀ b, b < 5 → a ≠ b → (TX3 a).2.1 ≠ (TX3 b).2.1 := by decide +kernel
theorem tyX3_ok : ∀ k, k < 5 → parseFieldDescriptor (TX3 k).2.2.1 = some (tyX3 k) := by decide +kernel
abbrev cX3_init : ByteArray := prog_5_method_1_code
def yX3_init : MethodName := ⟨RX3, "<init>", "()V"⟩
abbrev cX3_begin : ByteArray := prog_5_method_2_code
def yX3_begin : MethodName := ⟨RX3, "begin", "(II)V"⟩
abbrev cX3_copyFrom : ByteArray := prog_5_method_3_code
def yX3_copyFrom : MethodName := ⟨RX3, "copyFrom", "(LBoilerPapers$Inspector;)V"⟩
abbrev cX3_left : ByteArray := prog_5_method_4_code
def yX3_left : MethodName := ⟨RX3, "left", "()I"⟩
abbrev cX3_noteInspection : ByteArray := prog_5_method_5_code
def yX3_noteInspection : MethodName := ⟨RX3, "noteInspection", "(Z)V"⟩
abbrev cX3_beginWeek : ByteArray := prog_5_method_6_code
def yX3_beginWeek : MethodName := ⟨RX3, "beginWeek", "()V"⟩
abbrev cX3_fact : ByteArray := prog_5_method_7_code
def yX3_fact : MethodName := ⟨RX3, "fact", "(I)I"⟩
def RX4 : String := "BoilerPapers$OrderText"
def TX4 : u_T := fun k => match k with
  | 0 => ("BoilerPapers$OrderText", "signs", "[C", true)
  | 1 => ("BoilerPapers$OrderText", "length", "I", false)
  | 2 => ("BoilerPapers$OrderText", "start", "I", false)
  | 3 => ("BoilerPapers$OrderText", "place", "I", false)
  | 4 => ("BoilerPapers$OrderText", "kind", "C", false)
  | 5 => ("BoilerPapers$OrderText", "one", "I", false)
  | _ => ("BoilerPapers$OrderText", "other", "I", false)
def tyX4 : Nat → FieldType := fun k => match k with
  | 0 => .array .char
  | 1 => .int
  | 2 => .int
  | 3 => .int
  | 4 => .char
  | 5 => .int
  | _ => .int
abbrev wsX40 : List Cond := u_ws RX4 TX4 7
theorem nmX4 : ∀ a, a < 7 → ∀ b, b < 7 → a ≠ b → (TX4 a).2.1 ≠ (TX4 b).2.1 := by decide +kernel
theorem tyX4_ok : ∀ k, k < 7 → parseFieldDescriptor (TX4 k).2.2.1 = some (tyX4 k) := by decide +kernel
abbrev cX4_init : ByteArray := prog_6_method_1_code
def yX4_init : MethodName := ⟨RX4, "<init>", "()V"⟩
abbrev cX4_length : ByteArray := prog_6_method_2_code
def yX4_length : MethodName := ⟨RX4, "length", "()I"⟩
abbrev cX4_append : ByteArray := prog_6_method_3_code
def yX4_append : MethodName := ⟨RX4, "append", "(I)I"⟩
abbrev cX4_empty : ByteArray := prog_6_method_4_code
def yX4_empty : MethodName := ⟨RX4, "empty", "()I"⟩
abbrev cX4_goToStart : ByteArray := prog_6_method_5_code
def yX4_goToStart : MethodName := ⟨RX4, "goToStart", "()V"⟩
abbrev cX4_hasMore : ByteArray := prog_6_method_6_code
def yX4_hasMore : MethodName := ⟨RX4, "hasMore", "()Z"⟩
abbrev cX4_brokeOffAt : ByteArray := prog_6_method_7_code
def yX4_brokeOffAt : MethodName := ⟨RX4, "brokeOffAt", "()I"⟩
abbrev cX4_readOrder : ByteArray := prog_6_method_8_code
def yX4_readOrder : MethodName := ⟨RX4, "readOrder", "()Z"⟩
abbrev cX4_signHere : ByteArray := prog_6_method_9_code
def yX4_signHere : MethodName := ⟨RX4, "signHere", "()I"⟩
abbrev cX4_readKind : ByteArray := prog_6_method_10_code
def yX4_readKind : MethodName := ⟨RX4, "readKind", "()Z"⟩
abbrev cX4_readSign : ByteArray := prog_6_method_11_code
def yX4_readSign : MethodName := ⟨RX4, "readSign", "(C)Z"⟩
abbrev cX4_readNumber : ByteArray := prog_6_method_12_code
def yX4_readNumber : MethodName := ⟨RX4, "readNumber", "()I"⟩
abbrev cX4_readDigit : ByteArray := prog_6_method_13_code
def yX4_readDigit : MethodName := ⟨RX4, "readDigit", "()I"⟩
def RX5 : String := "BoilerPapers$Rehearsal"
def TX5 : u_T := fun k => match k with
  | 0 => ("BoilerPapers$Rehearsal", "orders", "I", false)
  | 1 => ("BoilerPapers$Rehearsal", "position", "I", false)
  | 2 => ("BoilerPapers$Rehearsal", "reason", "I", false)
  | _ => ("BoilerPapers$Rehearsal", "cause", "I", false)
def tyX5 : Nat → FieldType := fun k => match k with
  | 0 => .int
  | 1 => .int
  | 2 => .int
  | _ => .int
abbrev wsX50 : List Cond := u_ws RX5 TX5 4
theorem nmX5 : ∀ a, a < 4 → ∀ b, b < 4 → a ≠ b → (TX5 a).2.1 ≠ (TX5 b).2.1 := by decide +kernel
theorem tyX5_ok : ∀ k, k < 4 → parseFieldDescriptor (TX5 k).2.2.1 = some (tyX5 k) := by decide +kernel
abbrev cX5_init : ByteArray := prog_7_method_1_code
def yX5_init : MethodName := ⟨RX5, "<init>", "()V"⟩
abbrev cX5_run : ByteArray := prog_7_method_2_code
def yX5_run : MethodName := ⟨RX5, "run", "(LBoilerPapers$OrderText;LBoilerPapers$House;)V"⟩
abbrev cX5_takeAnswer : ByteArray := prog_7_method_3_code
def yX5_takeAnswer : MethodName := ⟨RX5, "takeAnswer", "(II)V"⟩
abbrev cX5_stopAt : ByteArray := prog_7_method_4_code
def yX5_stopAt : MethodName := ⟨RX5, "stopAt", "(III)V"⟩
abbrev cX5_ordersDone : ByteArray := prog_7_method_5_code
def yX5_ordersDone : MethodName := ⟨RX5, "ordersDone", "()I"⟩
abbrev cX5_factOfFault : ByteArray := prog_7_method_6_code
def yX5_factOfFault : MethodName := ⟨RX5, "factOfFault", "(I)I"⟩
def RX6 : String := "BoilerPapers"
def TX6 : u_T := fun k => match k with
  | 0 => ("BoilerPapers", "now", "LBoilerPapers$House;", true)
  | 1 => ("BoilerPapers", "trial", "LBoilerPapers$House;", true)
  | 2 => ("BoilerPapers", "history", "LBoilerPapers$History;", true)
  | 3 => ("BoilerPapers", "text", "LBoilerPapers$OrderText;", true)
  | _ => ("BoilerPapers", "rehearsal", "LBoilerPapers$Rehearsal;", true)
def tyX6 : Nat → FieldType := fun k => match k with
  | 0 => .object "BoilerPapers$House"
  | 1 => .object "BoilerPapers$House"
  | 2 => .object "BoilerPapers$History"
  | 3 => .object "BoilerPapers$OrderText"
  | _ => .object "BoilerPapers$Rehearsal"
abbrev wsX60 : List Cond := u_ws RX6 TX6 5
theorem nmX6 : ∀ a, a < 5 → ∀ b, b < 5 → a ≠ b → (TX6 a).2.1 ≠ (TX6 b).2.1 := by decide +kernel
theorem tyX6_ok : ∀ k, k < 5 → parseFieldDescriptor (TX6 k).2.2.1 = some (tyX6 k) := by decide +kernel
abbrev cX6_init : ByteArray := prog_1_method_1_code
def yX6_init : MethodName := ⟨RX6, "<init>", "()V"⟩
abbrev cX6_boiler : ByteArray := prog_1_method_2_code
def yX6_boiler : MethodName := ⟨RX6, "boiler", "(I)I"⟩
abbrev cX6_inspector : ByteArray := prog_1_method_3_code
def yX6_inspector : MethodName := ⟨RX6, "inspector", "(II)I"⟩
abbrev cX6_press : ByteArray := prog_1_method_4_code
def yX6_press : MethodName := ⟨RX6, "press", "(II)I"⟩
abbrev cX6_inspect : ByteArray := prog_1_method_5_code
def yX6_inspect : MethodName := ⟨RX6, "inspect", "(II)I"⟩
abbrev cX6_fire : ByteArray := prog_1_method_6_code
def yX6_fire : MethodName := ⟨RX6, "fire", "(I)I"⟩
abbrev cX6_out : ByteArray := prog_1_method_7_code
def yX6_out : MethodName := ⟨RX6, "out", "(I)I"⟩
abbrev cX6_plan : ByteArray := prog_1_method_8_code
def yX6_plan : MethodName := ⟨RX6, "plan", "(III)I"⟩
abbrev cX6_repair : ByteArray := prog_1_method_9_code
def yX6_repair : MethodName := ⟨RX6, "repair", "(I)I"⟩
abbrev cX6_pass : ByteArray := prog_1_method_10_code
def yX6_pass : MethodName := ⟨RX6, "pass", "(I)I"⟩
abbrev cX6_set : ByteArray := prog_1_method_11_code
def yX6_set : MethodName := ⟨RX6, "set", "(II)I"⟩
abbrev cX6_boilerOf : ByteArray := prog_1_method_12_code
def yX6_boilerOf : MethodName := ⟨RX6, "boilerOf", "(II)I"⟩
abbrev cX6_paperOf : ByteArray := prog_1_method_13_code
def yX6_paperOf : MethodName := ⟨RX6, "paperOf", "(II)I"⟩
abbrev cX6_inspectorOf : ByteArray := prog_1_method_14_code
def yX6_inspectorOf : MethodName := ⟨RX6, "inspectorOf", "(II)I"⟩
abbrev cX6_why : ByteArray := prog_1_method_15_code
def yX6_why : MethodName := ⟨RX6, "why", "(II)I"⟩
abbrev cX6_account : ByteArray := prog_1_method_16_code
def yX6_account : MethodName := ⟨RX6, "account", "(I)I"⟩
abbrev cX6_would : ByteArray := prog_1_method_17_code
def yX6_would : MethodName := ⟨RX6, "would", "(III)I"⟩
abbrev cX6_better : ByteArray := prog_1_method_18_code
def yX6_better : MethodName := ⟨RX6, "better", "(I)I"⟩
abbrev cX6_first : ByteArray := prog_1_method_19_code
def yX6_first : MethodName := ⟨RX6, "first", "(I)I"⟩
abbrev cX6_goesOn : ByteArray := prog_1_method_20_code
def yX6_goesOn : MethodName := ⟨RX6, "goesOn", "(I)I"⟩
abbrev cX6_share : ByteArray := prog_1_method_21_code
def yX6_share : MethodName := ⟨RX6, "share", "(I)I"⟩
abbrev cX6_count : ByteArray := prog_1_method_22_code
def yX6_count : MethodName := ⟨RX6, "count", "(I)I"⟩
abbrev cX6_undo : ByteArray := prog_1_method_23_code
def yX6_undo : MethodName := ⟨RX6, "undo", "()I"⟩
abbrev cX6_type : ByteArray := prog_1_method_24_code
def yX6_type : MethodName := ⟨RX6, "type", "(I)I"⟩
abbrev cX6_clearText : ByteArray := prog_1_method_25_code
def yX6_clearText : MethodName := ⟨RX6, "clearText", "()I"⟩
abbrev cX6_fault : ByteArray := prog_1_method_26_code
def yX6_fault : MethodName := ⟨RX6, "fault", "(I)I"⟩
abbrev cX6_play : ByteArray := prog_1_method_27_code
def yX6_play : MethodName := ⟨RX6, "play", "()I"⟩
abbrev cX6_trialOfNow : ByteArray := prog_1_method_28_code
def yX6_trialOfNow : MethodName := ⟨RX6, "trialOfNow", "()LBoilerPapers$House;"⟩
abbrev cX6_settle : ByteArray := prog_1_method_29_code
def yX6_settle : MethodName := ⟨RX6, "settle", "(I)I"⟩
abbrev cX6_isError : ByteArray := prog_1_method_30_code
def yX6_isError : MethodName := ⟨RX6, "isError", "(I)Z"⟩
abbrev cX6_isInsurer : ByteArray := prog_1_method_31_code
def yX6_isInsurer : MethodName := ⟨RX6, "isInsurer", "(I)Z"⟩
def RX7 : String := "BoilerPapersModel"
def TX7 : u_T := fun k => match k with
  | 0 => ("BoilerPapersModel", "s", "[I", true)
  | 1 => ("BoilerPapersModel", "begun", "[I", true)
  | 2 => ("BoilerPapersModel", "past", "[I", true)
  | 3 => ("BoilerPapersModel", "states", "I", false)
  | 4 => ("BoilerPapersModel", "text", "[I", true)
  | 5 => ("BoilerPapersModel", "length", "I", false)
  | 6 => ("BoilerPapersModel", "at", "I", false)
  | 7 => ("BoilerPapersModel", "from", "I", false)
  | 8 => ("BoilerPapersModel", "done", "I", false)
  | 9 => ("BoilerPapersModel", "told", "I", false)
  | 10 => ("BoilerPapersModel", "isForm", "Z", false)
  | 11 => ("BoilerPapersModel", "one", "I", false)
  | _ => ("BoilerPapersModel", "other", "I", false)
def tyX7 : Nat → FieldType := fun k => match k with
  | 0 => .array .int
  | 1 => .array .int
  | 2 => .array .int
  | 3 => .int
  | 4 => .array .int
  | 5 => .int
  | 6 => .int
  | 7 => .int
  | 8 => .int
  | 9 => .int
  | 10 => .boolean
  | 11 => .int
  | _ => .int
abbrev wsX70 : List Cond := u_ws RX7 TX7 13
theorem nmX7 : ∀ a, a < 13 → ∀ b, b < 13 → a ≠ b → (TX7 a).2.1 ≠ (TX7 b).2.1 := by decide +kernel
theorem tyX7_ok : ∀ k, k < 13 → parseFieldDescriptor (TX7 k).2.2.1 = some (tyX7 k) := by decide +kernel
abbrev cX7_init : ByteArray := prog_9_method_1_code
def yX7_init : MethodName := ⟨RX7, "<init>", "()V"⟩
abbrev cX7_in : ByteArray := prog_9_method_3_code
def yX7_in : MethodName := ⟨RX7, "in", "(III)Z"⟩
abbrev cX7_begins : ByteArray := prog_9_method_4_code
def yX7_begins : MethodName := ⟨RX7, "begins", "()V"⟩
abbrev cX7_returns : ByteArray := prog_9_method_5_code
def yX7_returns : MethodName := ⟨RX7, "returns", "()V"⟩
abbrev cX7_acted : ByteArray := prog_9_method_6_code
def yX7_acted : MethodName := ⟨RX7, "acted", "(I)I"⟩
abbrev cX7_isBoiler : ByteArray := prog_9_method_7_code
def yX7_isBoiler : MethodName := ⟨RX7, "isBoiler", "(I)Z"⟩
abbrev cX7_isInspector : ByteArray := prog_9_method_8_code
def yX7_isInspector : MethodName := ⟨RX7, "isInspector", "(I)Z"⟩
abbrev cX7_of : ByteArray := prog_9_method_9_code
def yX7_of : MethodName := ⟨RX7, "of", "(II)I"⟩
abbrev cX7_lays : ByteArray := prog_9_method_10_code
def yX7_lays : MethodName := ⟨RX7, "lays", "(III)V"⟩
abbrev cX7_by : ByteArray := prog_9_method_11_code
def yX7_by : MethodName := ⟨RX7, "by", "(II)I"⟩
abbrev cX7_counts : ByteArray := prog_9_method_12_code
def yX7_counts : MethodName := ⟨RX7, "counts", "(II)V"⟩
abbrev cX7_strength : ByteArray := prog_9_method_13_code
def yX7_strength : MethodName := ⟨RX7, "strength", "(I)I"⟩
abbrev cX7_pressureBy : ByteArray := prog_9_method_14_code
def yX7_pressureBy : MethodName := ⟨RX7, "pressureBy", "(II)I"⟩
abbrev cX7_lastBy : ByteArray := prog_9_method_15_code
def yX7_lastBy : MethodName := ⟨RX7, "lastBy", "(II)I"⟩
abbrev cX7_hasPaper : ByteArray := prog_9_method_16_code
def yX7_hasPaper : MethodName := ⟨RX7, "hasPaper", "(I)Z"⟩
abbrev cX7_isShut : ByteArray := prog_9_method_17_code
def yX7_isShut : MethodName := ⟨RX7, "isShut", "(I)Z"⟩
abbrev cX7_whyNotFired : ByteArray := prog_9_method_18_code
def yX7_whyNotFired : MethodName := ⟨RX7, "whyNotFired", "(I)I"⟩
abbrev cX7_whyNotInspected : ByteArray := prog_9_method_19_code
def yX7_whyNotInspected : MethodName := ⟨RX7, "whyNotInspected", "(II)I"⟩
abbrev cX7_cools : ByteArray := prog_9_method_20_code
def yX7_cools : MethodName := ⟨RX7, "cools", "(I)V"⟩
abbrev cX7_pays : ByteArray := prog_9_method_21_code
def yX7_pays : MethodName := ⟨RX7, "pays", "(II)V"⟩
abbrev cX7_repairs : ByteArray := prog_9_method_22_code
def yX7_repairs : MethodName := ⟨RX7, "repairs", "(I)V"⟩
abbrev cX7_grows : ByteArray := prog_9_method_23_code
def yX7_grows : MethodName := ⟨RX7, "grows", "(I)V"⟩
abbrev cX7_week : ByteArray := prog_9_method_24_code
def yX7_week : MethodName := ⟨RX7, "week", "()I"⟩
abbrev cX7_comes : ByteArray := prog_9_method_25_code
def yX7_comes : MethodName := ⟨RX7, "comes", "(I)I"⟩
abbrev cX7_inspects : ByteArray := prog_9_method_26_code
def yX7_inspects : MethodName := ⟨RX7, "inspects", "(II)I"⟩
abbrev cX7_fires : ByteArray := prog_9_method_27_code
def yX7_fires : MethodName := ⟨RX7, "fires", "(I)I"⟩
abbrev cX7_puts : ByteArray := prog_9_method_28_code
def yX7_puts : MethodName := ⟨RX7, "puts", "(I)I"⟩
abbrev cX7_sends : ByteArray := prog_9_method_29_code
def yX7_sends : MethodName := ⟨RX7, "sends", "(I)I"⟩
abbrev cX7_passes : ByteArray := prog_9_method_30_code
def yX7_passes : MethodName := ⟨RX7, "passes", "(I)I"⟩
abbrev cX7_boiler : ByteArray := prog_9_method_31_code
def yX7_boiler : MethodName := ⟨RX7, "boiler", "(I)I"⟩
abbrev cX7_inspector : ByteArray := prog_9_method_32_code
def yX7_inspector : MethodName := ⟨RX7, "inspector", "(II)I"⟩
abbrev cX7_press : ByteArray := prog_9_method_33_code
def yX7_press : MethodName := ⟨RX7, "press", "(II)I"⟩
abbrev cX7_inspect : ByteArray := prog_9_method_34_code
def yX7_inspect : MethodName := ⟨RX7, "inspect", "(II)I"⟩
abbrev cX7_fire : ByteArray := prog_9_method_35_code
def yX7_fire : MethodName := ⟨RX7, "fire", "(I)I"⟩
abbrev cX7_out : ByteArray := prog_9_method_36_code
def yX7_out : MethodName := ⟨RX7, "out", "(I)I"⟩
abbrev cX7_plan : ByteArray := prog_9_method_37_code
def yX7_plan : MethodName := ⟨RX7, "plan", "(III)I"⟩
abbrev cX7_repair : ByteArray := prog_9_method_38_code
def yX7_repair : MethodName := ⟨RX7, "repair", "(I)I"⟩
abbrev cX7_pass : ByteArray := prog_9_method_39_code
def yX7_pass : MethodName := ⟨RX7, "pass", "(I)I"⟩
abbrev cX7_set : ByteArray := prog_9_method_40_code
def yX7_set : MethodName := ⟨RX7, "set", "(II)I"⟩
abbrev cX7_boilerOf : ByteArray := prog_9_method_41_code
def yX7_boilerOf : MethodName := ⟨RX7, "boilerOf", "(II)I"⟩
abbrev cX7_paperOf : ByteArray := prog_9_method_42_code
def yX7_paperOf : MethodName := ⟨RX7, "paperOf", "(II)I"⟩
abbrev cX7_inspectorOf : ByteArray := prog_9_method_43_code
def yX7_inspectorOf : MethodName := ⟨RX7, "inspectorOf", "(II)I"⟩
abbrev cX7_why : ByteArray := prog_9_method_44_code
def yX7_why : MethodName := ⟨RX7, "why", "(II)I"⟩
abbrev cX7_account : ByteArray := prog_9_method_45_code
def yX7_account : MethodName := ⟨RX7, "account", "(I)I"⟩
abbrev cX7_would : ByteArray := prog_9_method_46_code
def yX7_would : MethodName := ⟨RX7, "would", "(III)I"⟩
abbrev cX7_wouldDo : ByteArray := prog_9_method_47_code
def yX7_wouldDo : MethodName := ⟨RX7, "wouldDo", "(II)Z"⟩
abbrev cX7_better : ByteArray := prog_9_method_48_code
def yX7_better : MethodName := ⟨RX7, "better", "(I)I"⟩
abbrev cX7_first : ByteArray := prog_9_method_49_code
def yX7_first : MethodName := ⟨RX7, "first", "(I)I"⟩
abbrev cX7_goesOn : ByteArray := prog_9_method_50_code
def yX7_goesOn : MethodName := ⟨RX7, "goesOn", "(I)I"⟩
abbrev cX7_share : ByteArray := prog_9_method_51_code
def yX7_share : MethodName := ⟨RX7, "share", "(I)I"⟩
abbrev cX7_set0 : ByteArray := prog_9_method_52_code
def yX7_set0 : MethodName := ⟨RX7, "set0", "(I)I"⟩
abbrev cX7_count : ByteArray := prog_9_method_53_code
def yX7_count : MethodName := ⟨RX7, "count", "(I)I"⟩
abbrev cX7_undo : ByteArray := prog_9_method_54_code
def yX7_undo : MethodName := ⟨RX7, "undo", "()I"⟩
abbrev cX7_type : ByteArray := prog_9_method_55_code
def yX7_type : MethodName := ⟨RX7, "type", "(I)I"⟩
abbrev cX7_clearText : ByteArray := prog_9_method_56_code
def yX7_clearText : MethodName := ⟨RX7, "clearText", "()I"⟩
abbrev cX7_here : ByteArray := prog_9_method_57_code
def yX7_here : MethodName := ⟨RX7, "here", "()I"⟩
abbrev cX7_isDigit : ByteArray := prog_9_method_58_code
def yX7_isDigit : MethodName := ⟨RX7, "isDigit", "()Z"⟩
abbrev cX7_takesSign : ByteArray := prog_9_method_59_code
def yX7_takesSign : MethodName := ⟨RX7, "takesSign", "(I)V"⟩
abbrev cX7_number : ByteArray := prog_9_method_60_code
def yX7_number : MethodName := ⟨RX7, "number", "()I"⟩
abbrev cX7_isOrder : ByteArray := prog_9_method_61_code
def yX7_isOrder : MethodName := ⟨RX7, "isOrder", "(I)Z"⟩
abbrev cX7_called : ByteArray := prog_9_method_62_code
def yX7_called : MethodName := ⟨RX7, "called", "(I)I"⟩
abbrev cX7_doesAll : ByteArray := prog_9_method_63_code
def yX7_doesAll : MethodName := ⟨RX7, "doesAll", "()Z"⟩
abbrev cX7_fault : ByteArray := prog_9_method_64_code
def yX7_fault : MethodName := ⟨RX7, "fault", "(I)I"⟩
abbrev cX7_play : ByteArray := prog_9_method_65_code
def yX7_play : MethodName := ⟨RX7, "play", "()I"⟩
def RJxf58ca : String := "java/lang/Float"
def TJxf58ca : u_T := fun k => match k with
  | _ => ("", "", "", false)
def tyJxf58ca : Nat → FieldType := fun k => match k with
  | _ => .int
abbrev wsJxf58ca0 : List Cond := u_ws RJxf58ca TJxf58ca 0
theorem nmJxf58ca : ∀ a, a < 0 → ∀ b, b < 0 → a ≠ b → (TJxf58ca a).2.1 ≠ (TJxf58ca b).2.1 := by decide +kernel
theorem tyJxf58ca_ok : ∀ k, k < 0 → parseFieldDescriptor (TJxf58ca k).2.2.1 = some (tyJxf58ca k) := by decide +kernel
abbrev cJxf58ca_isNaN_12338 : ByteArray := prog_10_method_6_code
def yJxf58ca_isNaN_12338 : MethodName := ⟨RJxf58ca, "isNaN", "(F)Z"⟩
abbrev cJxf58ca_floatToIntBits_5c35a : ByteArray := prog_10_method_24_code
def yJxf58ca_floatToIntBits_5c35a : MethodName := ⟨RJxf58ca, "floatToIntBits", "(F)I"⟩
def RJ9 : String := "java/lang/Math"
def TJ9 : u_T := fun k => match k with
  | _ => ("", "", "", false)
def tyJ9 : Nat → FieldType := fun k => match k with
  | _ => .int
abbrev wsJ90 : List Cond := u_ws RJ9 TJ9 0
theorem nmJ9 : ∀ a, a < 0 → ∀ b, b < 0 → a ≠ b → (TJ9 a).2.1 ≠ (TJ9 b).2.1 := by decide +kernel
theorem tyJ9_ok : ∀ k, k < 0 → parseFieldDescriptor (TJ9 k).2.2.1 = some (tyJ9 k) := by decide +kernel
abbrev cJ9_min_7cf53 : ByteArray := prog_11_method_69_code
def yJ9_min_7cf53 : MethodName := ⟨RJ9, "min", "(II)I"⟩
def RL : String := "BoilerPapersLaw"
abbrev cL_law : ByteArray := code
def yL_law : MethodName := ⟨RL, "law", "([I)Z"⟩
abbrev vwCl : List vw_C := [(RX0, TX0, 14), (RX1, TX1, 3), (RX2, TX2, 9), (RX3, TX3, 5), (RX4, TX4, 7), (RX5, TX5, 4), (RX6, TX6, 5), (RX7, TX7, 13)]
end
section
theorem dX0_init_0 : decode cX0_init 0 = .ok (.aload_n 0, 1) := by decide +kernel
theorem dX0_init_1 : decode cX0_init 1 = .ok (.invokespecial 3, 3) := by decide +kernel
theorem dX0_init_4 : decode cX0_init 4 = .ok (.return_, 1) := by decide +kernel
theorem dX0_begin_0 : decode cX0_begin 0 = .ok (.aload_n 0, 1) := by decide +kernel
theorem dX0_begin_1 : decode cX0_begin 1 = .ok (.iload_n 1, 1) := by decide +kernel
theorem dX0_begin_2 : decode cX0_begin 2 = .ok (.putfield 9, 3) := by decide +kernel
theorem dX0_begin_5 : decode cX0_begin 5 = .ok (.aload_n 0, 1) := by decide +kernel
theorem dX0_begin_6 : decode cX0_begin 6 = .ok (.iload_n 1, 1) := by decide +kernel
theorem dX0_begin_7 : decode cX0_begin 7 = .ok (.putfield 15, 3) := by decide +kernel
theorem dX0_begin_10 : decode cX0_begin 10 = .ok (.aload_n 0, 1) := by decide +kernel
theorem dX0_begin_11 : decode cX0_begin 11 = .ok (.iconst 0, 1) := by decide +kernel
theorem dX0_begin_12 : decode cX0_begin 12 = .ok (.putfield 18, 3) := by decide +kernel
theorem dX0_begin_15 : decode cX0_begin 15 = .ok (.aload_n 0, 1) := by decide +kernel
theorem dX0_begin_16 : decode cX0_begin 16 = .ok (.iconst 0, 1) := by decide +kernel
theorem dX0_begin_17 : decode cX0_begin 17 = .ok (.putfield 21, 3) := by decide +kernel
theorem dX0_begin_20 : decode cX0_begin 20 = .ok (.aload_n 0, 1) := by decide +kernel
theorem dX0_begin_21 : decode cX0_begin 21 = .ok (.iconst 1, 1) := by decide +kernel
theorem dX0_begin_22 : decode cX0_begin 22 = .ok (.putfield 24, 3) := by decide +kernel
theorem dX0_begin_25 : decode cX0_begin 25 = .ok (.aload_n 0, 1) := by decide +kernel
theorem dX0_begin_26 : decode cX0_begin 26 = .ok (.iconst 0, 1) := by decide +kernel
theorem dX0_begin_27 : decode cX0_begin 27 = .ok (.putfield 27, 3) := by decide +kernel
theorem dX0_begin_30 : decode cX0_begin 30 = .ok (.aload_n 0, 1) := by decide +kernel
theorem dX0_begin_31 : decode cX0_begin 31 = .ok (.iconst 0, 1) := by decide +kernel
theorem dX0_begin_32 : decode cX0_begin 32 = .ok (.putfield 30, 3) := by decide +kernel
theorem dX0_begin_35 : decode cX0_begin 35 = .ok (.aload_n 0, 1) := by decide +kernel
theorem dX0_begin_36 : decode cX0_begin 36 = .ok (.iconst 0, 1) := by decide +kernel
theorem dX0_begin_37 : decode cX0_begin 37 = .ok (.putfield 34, 3) := by decide +kernel
theorem dX0_begin_40 : decode cX0_begin 40 = .ok (.aload_n 0, 1) := by decide +kernel
theorem dX0_begin_41 : decode cX0_begin 41 = .ok (.iconst 0, 1) := by decide +kernel
theorem dX0_begin_42 : decode cX0_begin 42 = .ok (.putfield 37, 3) := by decide +kernel
theorem dX0_begin_45 : decode cX0_begin 45 = .ok (.return_, 1) := by decide +kernel
theorem dX0_copyFrom_0 : decode cX0_copyFrom 0 = .ok (.aload_n 0, 1) := by decide +kernel
theorem dX0_copyFrom_1 : decode cX0_copyFrom 1 = .ok (.aload_n 1, 1) := by decide +kernel
theorem dX0_copyFrom_2 : decode cX0_copyFrom 2 = .ok (.getfield 9, 3) := by decide +kernel
theorem dX0_copyFrom_5 : decode cX0_copyFrom 5 = .ok (.putfield 9, 3) := by decide +kernel
theorem dX0_copyFrom_8 : decode cX0_copyFrom 8 = .ok (.aload_n 0, 1) := by decide +kernel
theorem dX0_copyFrom_9 : decode cX0_copyFrom 9 = .ok (.aload_n 1, 1) := by decide +kernel
theorem dX0_copyFrom_10 : decode cX0_copyFrom 10 = .ok (.getfield 15, 3) := by decide +kernel
theorem dX0_copyFrom_13 : decode cX0_copyFrom 13 = .ok (.putfield 15, 3) := by decide +kernel
theorem dX0_copyFrom_16 : decode cX0_copyFrom 16 = .ok (.aload_n 0, 1) := by decide +kernel
theorem dX0_copyFrom_17 : decode cX0_copyFrom 17 = .ok (.aload_n 1, 1) := by decide +kernel
theorem dX0_copyFrom_18 : decode cX0_copyFrom 18 = .ok (.getfield 18, 3) := by decide +kernel
theorem dX0_copyFrom_21 : decode cX0_copyFrom 21 = .ok (.putfield 18, 3) := by decide +kernel
theorem dX0_copyFrom_24 : decode cX0_copyFrom 24 = .ok (.aload_n 0, 1) := by decide +kernel
theorem dX0_copyFrom_25 : decode cX0_copyFrom 25 = .ok (.aload_n 1, 1) := by decide +kernel
theorem dX0_copyFrom_26 : decode cX0_copyFrom 26 = .ok (.getfield 21, 3) := by decide +kernel
theorem dX0_copyFrom_29 : decode cX0_copyFrom 29 = .ok (.putfield 21, 3) := by decide +kernel
theorem dX0_copyFrom_32 : decode cX0_copyFrom 32 = .ok (.aload_n 0, 1) := by decide +kernel
theorem dX0_copyFrom_33 : decode cX0_copyFrom 33 = .ok (.aload_n 1, 1) := by decide +kernel
theorem dX0_copyFrom_34 : decode cX0_copyFrom 34 = .ok (.getfield 24, 3) := by decide +kernel
theorem dX0_copyFrom_37 : decode cX0_copyFrom 37 = .ok (.putfield 24, 3) := by decide +kernel
theorem dX0_copyFrom_40 : decode cX0_copyFrom 40 = .ok (.aload_n 0, 1) := by decide +kernel
theorem dX0_copyFrom_41 : decode cX0_copyFrom 41 = .ok (.aload_n 1, 1) := by decide +kernel
theorem dX0_copyFrom_42 : decode cX0_copyFrom 42 = .ok (.getfield 27, 3) := by decide +kernel
theorem dX0_copyFrom_45 : decode cX0_copyFrom 45 = .ok (.putfield 27, 3) := by decide +kernel
theorem dX0_copyFrom_48 : decode cX0_copyFrom 48 = .ok (.aload_n 0, 1) := by decide +kernel
theorem dX0_copyFrom_49 : decode cX0_copyFrom 49 = .ok (.aload_n 1, 1) := by decide +kernel
theorem dX0_copyFrom_50 : decode cX0_copyFrom 50 = .ok (.getfield 30, 3) := by decide +kernel
theorem dX0_copyFrom_53 : decode cX0_copyFrom 53 = .ok (.putfield 30, 3) := by decide +kernel
theorem dX0_copyFrom_56 : decode cX0_copyFrom 56 = .ok (.aload_n 0, 1) := by decide +kernel
theorem dX0_copyFrom_57 : decode cX0_copyFrom 57 = .ok (.aload_n 1, 1) := by decide +kernel
theorem dX0_copyFrom_58 : decode cX0_copyFrom 58 = .ok (.getfield 34, 3) := by decide +kernel
theorem dX0_copyFrom_61 : decode cX0_copyFrom 61 = .ok (.putfield 34, 3) := by decide +kernel
theorem dX0_copyFrom_64 : decode cX0_copyFrom 64 = .ok (.aload_n 0, 1) := by decide +kernel
theorem dX0_copyFrom_65 : decode cX0_copyFrom 65 = .ok (.aload_n 1, 1) := by decide +kernel
theorem dX0_copyFrom_66 : decode cX0_copyFrom 66 = .ok (.getfield 40, 3) := by decide +kernel
theorem dX0_copyFrom_69 : decode cX0_copyFrom 69 = .ok (.putfield 40, 3) := by decide +kernel
theorem dX0_copyFrom_72 : decode cX0_copyFrom 72 = .ok (.aload_n 0, 1) := by decide +kernel
theorem dX0_copyFrom_73 : decode cX0_copyFrom 73 = .ok (.aload_n 1, 1) := by decide +kernel
theorem dX0_copyFrom_74 : decode cX0_copyFrom 74 = .ok (.getfield 43, 3) := by decide +kernel
theorem dX0_copyFrom_77 : decode cX0_copyFrom 77 = .ok (.putfield 43, 3) := by decide +kernel
theorem dX0_copyFrom_80 : decode cX0_copyFrom 80 = .ok (.aload_n 0, 1) := by decide +kernel
theorem dX0_copyFrom_81 : decode cX0_copyFrom 81 = .ok (.aload_n 1, 1) := by decide +kernel
theorem dX0_copyFrom_82 : decode cX0_copyFrom 82 = .ok (.getfield 46, 3) := by decide +kernel
theorem dX0_copyFrom_85 : decode cX0_copyFrom 85 = .ok (.putfield 46, 3) := by decide +kernel
theorem dX0_copyFrom_88 : decode cX0_copyFrom 88 = .ok (.aload_n 0, 1) := by decide +kernel
theorem dX0_copyFrom_89 : decode cX0_copyFrom 89 = .ok (.aload_n 1, 1) := by decide +kernel
theorem dX0_copyFrom_90 : decode cX0_copyFrom 90 = .ok (.getfield 37, 3) := by decide +kernel
theorem dX0_copyFrom_93 : decode cX0_copyFrom 93 = .ok (.putfield 37, 3) := by decide +kernel
theorem dX0_copyFrom_96 : decode cX0_copyFrom 96 = .ok (.aload_n 0, 1) := by decide +kernel
theorem dX0_copyFrom_97 : decode cX0_copyFrom 97 = .ok (.aload_n 1, 1) := by decide +kernel
theorem dX0_copyFrom_98 : decode cX0_copyFrom 98 = .ok (.getfield 49, 3) := by decide +kernel
theorem dX0_copyFrom_101 : decode cX0_copyFrom 101 = .ok (.putfield 49, 3) := by decide +kernel
theorem dX0_copyFrom_104 : decode cX0_copyFrom 104 = .ok (.aload_n 0, 1) := by decide +kernel
theorem dX0_copyFrom_105 : decode cX0_copyFrom 105 = .ok (.aload_n 1, 1) := by decide +kernel
theorem dX0_copyFrom_106 : decode cX0_copyFrom 106 = .ok (.getfield 52, 3) := by decide +kernel
theorem dX0_copyFrom_109 : decode cX0_copyFrom 109 = .ok (.putfield 52, 3) := by decide +kernel
theorem dX0_copyFrom_112 : decode cX0_copyFrom 112 = .ok (.return_, 1) := by decide +kernel
theorem dX0_strength_0 : decode cX0_strength 0 = .ok (.aload_n 0, 1) := by decide +kernel
theorem dX0_strength_1 : decode cX0_strength 1 = .ok (.getfield 9, 3) := by decide +kernel
theorem dX0_strength_4 : decode cX0_strength 4 = .ok (.sipush 200, 3) := by decide +kernel
theorem dX0_strength_7 : decode cX0_strength 7 = .ok (.aload_n 0, 1) := by decide +kernel
theorem dX0_strength_8 : decode cX0_strength 8 = .ok (.getfield 18, 3) := by decide +kernel
theorem dX0_strength_11 : decode cX0_strength 11 = .ok (.isub, 1) := by decide +kernel
theorem dX0_strength_12 : decode cX0_strength 12 = .ok (.imul, 1) := by decide +kernel
theorem dX0_strength_13 : decode cX0_strength 13 = .ok (.sipush 200, 3) := by decide +kernel
theorem dX0_strength_16 : decode cX0_strength 16 = .ok (.idiv, 1) := by decide +kernel
theorem dX0_strength_17 : decode cX0_strength 17 = .ok (.ireturn, 1) := by decide +kernel
theorem dX0_isShutIn_0 : decode cX0_isShutIn 0 = .ok (.aload_n 0, 1) := by decide +kernel
theorem dX0_isShutIn_1 : decode cX0_isShutIn 1 = .ok (.getfield 37, 3) := by decide +kernel
theorem dX0_isShutIn_4 : decode cX0_isShutIn 4 = .ok (.ifCond .eq 23, 3) := by decide +kernel
theorem dX0_isShutIn_7 : decode cX0_isShutIn 7 = .ok (.aload_n 0, 1) := by decide +kernel
theorem dX0_isShutIn_8 : decode cX0_isShutIn 8 = .ok (.getfield 49, 3) := by decide +kernel
theorem dX0_isShutIn_11 : decode cX0_isShutIn 11 = .ok (.iload_n 1, 1) := by decide +kernel
theorem dX0_isShutIn_12 : decode cX0_isShutIn 12 = .ok (.if_icmp .gt 15, 3) := by decide +kernel
theorem dX0_isShutIn_15 : decode cX0_isShutIn 15 = .ok (.iload_n 1, 1) := by decide +kernel
theorem dX0_isShutIn_16 : decode cX0_isShutIn 16 = .ok (.aload_n 0, 1) := by decide +kernel
theorem dX0_isShutIn_17 : decode cX0_isShutIn 17 = .ok (.getfield 52, 3) := by decide +kernel
theorem dX0_isShutIn_20 : decode cX0_isShutIn 20 = .ok (.if_icmp .gt 7, 3) := by decide +kernel
theorem dX0_isShutIn_23 : decode cX0_isShutIn 23 = .ok (.iconst 1, 1) := by decide +kernel
theorem dX0_isShutIn_24 : decode cX0_isShutIn 24 = .ok (.goto 4, 3) := by decide +kernel
theorem dX0_isShutIn_27 : decode cX0_isShutIn 27 = .ok (.iconst 0, 1) := by decide +kernel
theorem dX0_isShutIn_28 : decode cX0_isShutIn 28 = .ok (.ireturn, 1) := by decide +kernel
theorem dX0_whyNotFiredIn_0 : decode cX0_whyNotFiredIn 0 = .ok (.aload_n 0, 1) := by decide +kernel
theorem dX0_whyNotFiredIn_1 : decode cX0_whyNotFiredIn 1 = .ok (.getfield 21, 3) := by decide +kernel
theorem dX0_whyNotFiredIn_4 : decode cX0_whyNotFiredIn 4 = .ok (.iconst 2, 1) := by decide +kernel
theorem dX0_whyNotFiredIn_5 : decode cX0_whyNotFiredIn 5 = .ok (.if_icmp .ne 5, 3) := by decide +kernel
theorem dX0_whyNotFiredIn_8 : decode cX0_whyNotFiredIn 8 = .ok (.iconst 1, 1) := by decide +kernel
theorem dX0_whyNotFiredIn_9 : decode cX0_whyNotFiredIn 9 = .ok (.ireturn, 1) := by decide +kernel
theorem dX0_whyNotFiredIn_10 : decode cX0_whyNotFiredIn 10 = .ok (.aload_n 0, 1) := by decide +kernel
theorem dX0_whyNotFiredIn_11 : decode cX0_whyNotFiredIn 11 = .ok (.getfield 21, 3) := by decide +kernel
theorem dX0_whyNotFiredIn_14 : decode cX0_whyNotFiredIn 14 = .ok (.iconst 1, 1) := by decide +kernel
theorem dX0_whyNotFiredIn_15 : decode cX0_whyNotFiredIn 15 = .ok (.if_icmp .ne 5, 3) := by decide +kernel
theorem dX0_whyNotFiredIn_18 : decode cX0_whyNotFiredIn 18 = .ok (.iconst 2, 1) := by decide +kernel
theorem dX0_whyNotFiredIn_19 : decode cX0_whyNotFiredIn 19 = .ok (.ireturn, 1) := by decide +kernel
theorem dX0_whyNotFiredIn_20 : decode cX0_whyNotFiredIn 20 = .ok (.aload_n 0, 1) := by decide +kernel
theorem dX0_whyNotFiredIn_21 : decode cX0_whyNotFiredIn 21 = .ok (.getfield 30, 3) := by decide +kernel
theorem dX0_whyNotFiredIn_24 : decode cX0_whyNotFiredIn 24 = .ok (.ifCond .eq 5, 3) := by decide +kernel
theorem dX0_whyNotFiredIn_27 : decode cX0_whyNotFiredIn 27 = .ok (.iconst 3, 1) := by decide +kernel
theorem dX0_whyNotFiredIn_28 : decode cX0_whyNotFiredIn 28 = .ok (.ireturn, 1) := by decide +kernel
theorem dX0_whyNotFiredIn_29 : decode cX0_whyNotFiredIn 29 = .ok (.aload_n 0, 1) := by decide +kernel
theorem dX0_whyNotFiredIn_30 : decode cX0_whyNotFiredIn 30 = .ok (.iload_n 1, 1) := by decide +kernel
theorem dX0_whyNotFiredIn_31 : decode cX0_whyNotFiredIn 31 = .ok (.invokevirtual 55, 3) := by decide +kernel
theorem dX0_whyNotFiredIn_34 : decode cX0_whyNotFiredIn 34 = .ok (.ifCond .eq 5, 3) := by decide +kernel
theorem dX0_whyNotFiredIn_37 : decode cX0_whyNotFiredIn 37 = .ok (.iconst 4, 1) := by decide +kernel
theorem dX0_whyNotFiredIn_38 : decode cX0_whyNotFiredIn 38 = .ok (.ireturn, 1) := by decide +kernel
theorem dX0_whyNotFiredIn_39 : decode cX0_whyNotFiredIn 39 = .ok (.aload_n 0, 1) := by decide +kernel
theorem dX0_whyNotFiredIn_40 : decode cX0_whyNotFiredIn 40 = .ok (.getfield 34, 3) := by decide +kernel
theorem dX0_whyNotFiredIn_43 : decode cX0_whyNotFiredIn 43 = .ok (.ifCond .ne 5, 3) := by decide +kernel
theorem dX0_whyNotFiredIn_46 : decode cX0_whyNotFiredIn 46 = .ok (.iconst 5, 1) := by decide +kernel
theorem dX0_whyNotFiredIn_47 : decode cX0_whyNotFiredIn 47 = .ok (.ireturn, 1) := by decide +kernel
theorem dX0_whyNotFiredIn_48 : decode cX0_whyNotFiredIn 48 = .ok (.aload_n 0, 1) := by decide +kernel
theorem dX0_whyNotFiredIn_49 : decode cX0_whyNotFiredIn 49 = .ok (.getfield 15, 3) := by decide +kernel
theorem dX0_whyNotFiredIn_52 : decode cX0_whyNotFiredIn 52 = .ok (.aload_n 0, 1) := by decide +kernel
theorem dX0_whyNotFiredIn_53 : decode cX0_whyNotFiredIn 53 = .ok (.getfield 43, 3) := by decide +kernel
theorem dX0_whyNotFiredIn_56 : decode cX0_whyNotFiredIn 56 = .ok (.if_icmp .le 8, 3) := by decide +kernel
theorem dX0_whyNotFiredIn_59 : decode cX0_whyNotFiredIn 59 = .ok (.bipush 6, 2) := by decide +kernel
theorem dX0_whyNotFiredIn_61 : decode cX0_whyNotFiredIn 61 = .ok (.goto 4, 3) := by decide +kernel
theorem dX0_whyNotFiredIn_64 : decode cX0_whyNotFiredIn 64 = .ok (.iconst 0, 1) := by decide +kernel
theorem dX0_whyNotFiredIn_65 : decode cX0_whyNotFiredIn 65 = .ok (.ireturn, 1) := by decide +kernel
theorem dX0_whyNotInspectedBy_0 : decode cX0_whyNotInspectedBy 0 = .ok (.aload_n 0, 1) := by decide +kernel
theorem dX0_whyNotInspectedBy_1 : decode cX0_whyNotInspectedBy 1 = .ok (.getfield 21, 3) := by decide +kernel
theorem dX0_whyNotInspectedBy_4 : decode cX0_whyNotInspectedBy 4 = .ok (.iconst 2, 1) := by decide +kernel
theorem dX0_whyNotInspectedBy_5 : decode cX0_whyNotInspectedBy 5 = .ok (.if_icmp .ne 5, 3) := by decide +kernel
theorem dX0_whyNotInspectedBy_8 : decode cX0_whyNotInspectedBy 8 = .ok (.iconst 1, 1) := by decide +kernel
theorem dX0_whyNotInspectedBy_9 : decode cX0_whyNotInspectedBy 9 = .ok (.ireturn, 1) := by decide +kernel
theorem dX0_whyNotInspectedBy_10 : decode cX0_whyNotInspectedBy 10 = .ok (.aload_n 0, 1) := by decide +kernel
theorem dX0_whyNotInspectedBy_11 : decode cX0_whyNotInspectedBy 11 = .ok (.getfield 21, 3) := by decide +kernel
theorem dX0_whyNotInspectedBy_14 : decode cX0_whyNotInspectedBy 14 = .ok (.iconst 1, 1) := by decide +kernel
theorem dX0_whyNotInspectedBy_15 : decode cX0_whyNotInspectedBy 15 = .ok (.if_icmp .ne 5, 3) := by decide +kernel
theorem dX0_whyNotInspectedBy_18 : decode cX0_whyNotInspectedBy 18 = .ok (.iconst 2, 1) := by decide +kernel
theorem dX0_whyNotInspectedBy_19 : decode cX0_whyNotInspectedBy 19 = .ok (.ireturn, 1) := by decide +kernel
theorem dX0_whyNotInspectedBy_20 : decode cX0_whyNotInspectedBy 20 = .ok (.aload_n 0, 1) := by decide +kernel
theorem dX0_whyNotInspectedBy_21 : decode cX0_whyNotInspectedBy 21 = .ok (.getfield 24, 3) := by decide +kernel
theorem dX0_whyNotInspectedBy_24 : decode cX0_whyNotInspectedBy 24 = .ok (.ifCond .ne 5, 3) := by decide +kernel
theorem dX0_whyNotInspectedBy_27 : decode cX0_whyNotInspectedBy 27 = .ok (.iconst 3, 1) := by decide +kernel
theorem dX0_whyNotInspectedBy_28 : decode cX0_whyNotInspectedBy 28 = .ok (.ireturn, 1) := by decide +kernel
theorem dX0_whyNotInspectedBy_29 : decode cX0_whyNotInspectedBy 29 = .ok (.aload_n 0, 1) := by decide +kernel
theorem dX0_whyNotInspectedBy_30 : decode cX0_whyNotInspectedBy 30 = .ok (.getfield 30, 3) := by decide +kernel
theorem dX0_whyNotInspectedBy_33 : decode cX0_whyNotInspectedBy 33 = .ok (.ifCond .eq 5, 3) := by decide +kernel
theorem dX0_whyNotInspectedBy_36 : decode cX0_whyNotInspectedBy 36 = .ok (.iconst 4, 1) := by decide +kernel
theorem dX0_whyNotInspectedBy_37 : decode cX0_whyNotInspectedBy 37 = .ok (.ireturn, 1) := by decide +kernel
theorem dX0_whyNotInspectedBy_38 : decode cX0_whyNotInspectedBy 38 = .ok (.aload_n 1, 1) := by decide +kernel
theorem dX0_whyNotInspectedBy_39 : decode cX0_whyNotInspectedBy 39 = .ok (.invokevirtual 59, 3) := by decide +kernel
theorem dX0_whyNotInspectedBy_42 : decode cX0_whyNotInspectedBy 42 = .ok (.iconst 1, 1) := by decide +kernel
theorem dX0_whyNotInspectedBy_43 : decode cX0_whyNotInspectedBy 43 = .ok (.if_icmp .ge 7, 3) := by decide +kernel
theorem dX0_whyNotInspectedBy_46 : decode cX0_whyNotInspectedBy 46 = .ok (.iconst 5, 1) := by decide +kernel
theorem dX0_whyNotInspectedBy_47 : decode cX0_whyNotInspectedBy 47 = .ok (.goto 4, 3) := by decide +kernel
theorem dX0_whyNotInspectedBy_50 : decode cX0_whyNotInspectedBy 50 = .ok (.iconst 0, 1) := by decide +kernel
theorem dX0_whyNotInspectedBy_51 : decode cX0_whyNotInspectedBy 51 = .ok (.ireturn, 1) := by decide +kernel
theorem dX0_takePaper_0 : decode cX0_takePaper 0 = .ok (.aload_n 0, 1) := by decide +kernel
theorem dX0_takePaper_1 : decode cX0_takePaper 1 = .ok (.iconst 1, 1) := by decide +kernel
theorem dX0_takePaper_2 : decode cX0_takePaper 2 = .ok (.putfield 34, 3) := by decide +kernel
theorem dX0_takePaper_5 : decode cX0_takePaper 5 = .ok (.aload_n 0, 1) := by decide +kernel
theorem dX0_takePaper_6 : decode cX0_takePaper 6 = .ok (.iload_n 1, 1) := by decide +kernel
theorem dX0_takePaper_7 : decode cX0_takePaper 7 = .ok (.putfield 40, 3) := by decide +kernel
theorem dX0_takePaper_10 : decode cX0_takePaper 10 = .ok (.aload_n 0, 1) := by decide +kernel
theorem dX0_takePaper_11 : decode cX0_takePaper 11 = .ok (.iload_n 2, 1) := by decide +kernel
theorem dX0_takePaper_12 : decode cX0_takePaper 12 = .ok (.putfield 43, 3) := by decide +kernel
theorem dX0_takePaper_15 : decode cX0_takePaper 15 = .ok (.aload_n 0, 1) := by decide +kernel
theorem dX0_takePaper_16 : decode cX0_takePaper 16 = .ok (.iload_n 3, 1) := by decide +kernel
theorem dX0_takePaper_17 : decode cX0_takePaper 17 = .ok (.putfield 46, 3) := by decide +kernel
theorem dX0_takePaper_20 : decode cX0_takePaper 20 = .ok (.return_, 1) := by decide +kernel
theorem dX0_refusePaper_0 : decode cX0_refusePaper 0 = .ok (.aload_n 0, 1) := by decide +kernel
theorem dX0_refusePaper_1 : decode cX0_refusePaper 1 = .ok (.iconst 0, 1) := by decide +kernel
theorem dX0_refusePaper_2 : decode cX0_refusePaper 2 = .ok (.putfield 34, 3) := by decide +kernel
theorem dX0_refusePaper_5 : decode cX0_refusePaper 5 = .ok (.aload_n 0, 1) := by decide +kernel
theorem dX0_refusePaper_6 : decode cX0_refusePaper 6 = .ok (.iconst 1, 1) := by decide +kernel
theorem dX0_refusePaper_7 : decode cX0_refusePaper 7 = .ok (.putfield 30, 3) := by decide +kernel
theorem dX0_refusePaper_10 : decode cX0_refusePaper 10 = .ok (.return_, 1) := by decide +kernel
theorem dX0_becomeCold_0 : decode cX0_becomeCold 0 = .ok (.aload_n 0, 1) := by decide +kernel
theorem dX0_becomeCold_1 : decode cX0_becomeCold 1 = .ok (.iconst 0, 1) := by decide +kernel
theorem dX0_becomeCold_2 : decode cX0_becomeCold 2 = .ok (.putfield 21, 3) := by decide +kernel
theorem dX0_becomeCold_5 : decode cX0_becomeCold 5 = .ok (.aload_n 0, 1) := by decide +kernel
theorem dX0_becomeCold_6 : decode cX0_becomeCold 6 = .ok (.iconst 0, 1) := by decide +kernel
theorem dX0_becomeCold_7 : decode cX0_becomeCold 7 = .ok (.putfield 24, 3) := by decide +kernel
theorem dX0_becomeCold_10 : decode cX0_becomeCold 10 = .ok (.return_, 1) := by decide +kernel
theorem dX0_age_0 : decode cX0_age 0 = .ok (.aload_n 0, 1) := by decide +kernel
theorem dX0_age_1 : decode cX0_age 1 = .ok (.getfield 21, 3) := by decide +kernel
theorem dX0_age_4 : decode cX0_age 4 = .ok (.iconst 1, 1) := by decide +kernel
theorem dX0_age_5 : decode cX0_age 5 = .ok (.if_icmp .ne 30, 3) := by decide +kernel
theorem dX0_age_8 : decode cX0_age 8 = .ok (.aload_n 0, 1) := by decide +kernel
theorem dX0_age_9 : decode cX0_age 9 = .ok (.sipush 200, 3) := by decide +kernel
theorem dX0_age_12 : decode cX0_age 12 = .ok (.aload_n 0, 1) := by decide +kernel
theorem dX0_age_13 : decode cX0_age 13 = .ok (.getfield 18, 3) := by decide +kernel
theorem dX0_age_16 : decode cX0_age 16 = .ok (.iconst 1, 1) := by decide +kernel
theorem dX0_age_17 : decode cX0_age 17 = .ok (.iadd, 1) := by decide +kernel
theorem dX0_age_18 : decode cX0_age 18 = .ok (.aload_n 0, 1) := by decide +kernel
theorem dX0_age_19 : decode cX0_age 19 = .ok (.getfield 15, 3) := by decide +kernel
theorem dX0_age_22 : decode cX0_age 22 = .ok (.bipush 10, 2) := by decide +kernel
theorem dX0_age_24 : decode cX0_age 24 = .ok (.idiv, 1) := by decide +kernel
theorem dX0_age_25 : decode cX0_age 25 = .ok (.iadd, 1) := by decide +kernel
theorem dX0_age_26 : decode cX0_age 26 = .ok (.invokestatic 65, 3) := by decide +kernel
theorem dX0_age_29 : decode cX0_age 29 = .ok (.putfield 18, 3) := by decide +kernel
theorem dX0_age_32 : decode cX0_age 32 = .ok (.goto 20, 3) := by decide +kernel
theorem dX0_age_35 : decode cX0_age 35 = .ok (.aload_n 0, 1) := by decide +kernel
theorem dX0_age_36 : decode cX0_age 36 = .ok (.getfield 21, 3) := by decide +kernel
theorem dX0_age_39 : decode cX0_age 39 = .ok (.ifCond .ne 13, 3) := by decide +kernel
theorem dX0_age_42 : decode cX0_age 42 = .ok (.aload_n 0, 1) := by decide +kernel
theorem dX0_age_43 : decode cX0_age 43 = .ok (.dup, 1) := by decide +kernel
theorem dX0_age_44 : decode cX0_age 44 = .ok (.getfield 24, 3) := by decide +kernel
theorem dX0_age_47 : decode cX0_age 47 = .ok (.iconst 1, 1) := by decide +kernel
theorem dX0_age_48 : decode cX0_age 48 = .ok (.iadd, 1) := by decide +kernel
theorem dX0_age_49 : decode cX0_age 49 = .ok (.putfield 24, 3) := by decide +kernel
theorem dX0_age_52 : decode cX0_age 52 = .ok (.return_, 1) := by decide +kernel
theorem dX0_endRepairIn_0 : decode cX0_endRepairIn 0 = .ok (.aload_n 0, 1) := by decide +kernel
theorem dX0_endRepairIn_1 : decode cX0_endRepairIn 1 = .ok (.getfield 21, 3) := by decide +kernel
theorem dX0_endRepairIn_4 : decode cX0_endRepairIn 4 = .ok (.iconst 2, 1) := by decide +kernel
theorem dX0_endRepairIn_5 : decode cX0_endRepairIn 5 = .ok (.if_icmp .ne 11, 3) := by decide +kernel
theorem dX0_endRepairIn_8 : decode cX0_endRepairIn 8 = .ok (.aload_n 0, 1) := by decide +kernel
theorem dX0_endRepairIn_9 : decode cX0_endRepairIn 9 = .ok (.getfield 27, 3) := by decide +kernel
theorem dX0_endRepairIn_12 : decode cX0_endRepairIn 12 = .ok (.iload_n 1, 1) := by decide +kernel
theorem dX0_endRepairIn_13 : decode cX0_endRepairIn 13 = .ok (.if_icmp .le 4, 3) := by decide +kernel
theorem dX0_endRepairIn_16 : decode cX0_endRepairIn 16 = .ok (.return_, 1) := by decide +kernel
theorem dX0_endRepairIn_17 : decode cX0_endRepairIn 17 = .ok (.aload_n 0, 1) := by decide +kernel
theorem dX0_endRepairIn_18 : decode cX0_endRepairIn 18 = .ok (.invokevirtual 71, 3) := by decide +kernel
theorem dX0_endRepairIn_21 : decode cX0_endRepairIn 21 = .ok (.aload_n 0, 1) := by decide +kernel
theorem dX0_endRepairIn_22 : decode cX0_endRepairIn 22 = .ok (.aload_n 0, 1) := by decide +kernel
theorem dX0_endRepairIn_23 : decode cX0_endRepairIn 23 = .ok (.getfield 18, 3) := by decide +kernel
theorem dX0_endRepairIn_26 : decode cX0_endRepairIn 26 = .ok (.iconst 4, 1) := by decide +kernel
theorem dX0_endRepairIn_27 : decode cX0_endRepairIn 27 = .ok (.idiv, 1) := by decide +kernel
theorem dX0_endRepairIn_28 : decode cX0_endRepairIn 28 = .ok (.putfield 18, 3) := by decide +kernel
theorem dX0_endRepairIn_31 : decode cX0_endRepairIn 31 = .ok (.aload_n 0, 1) := by decide +kernel
theorem dX0_endRepairIn_32 : decode cX0_endRepairIn 32 = .ok (.iconst 0, 1) := by decide +kernel
theorem dX0_endRepairIn_33 : decode cX0_endRepairIn 33 = .ok (.putfield 30, 3) := by decide +kernel
theorem dX0_endRepairIn_36 : decode cX0_endRepairIn 36 = .ok (.aload_n 0, 1) := by decide +kernel
theorem dX0_endRepairIn_37 : decode cX0_endRepairIn 37 = .ok (.iconst 0, 1) := by decide +kernel
theorem dX0_endRepairIn_38 : decode cX0_endRepairIn 38 = .ok (.putfield 34, 3) := by decide +kernel
theorem dX0_endRepairIn_41 : decode cX0_endRepairIn 41 = .ok (.return_, 1) := by decide +kernel
theorem dX0_dropWhatIsPastIn_0 : decode cX0_dropWhatIsPastIn 0 = .ok (.aload_n 0, 1) := by decide +kernel
theorem dX0_dropWhatIsPastIn_1 : decode cX0_dropWhatIsPastIn 1 = .ok (.getfield 34, 3) := by decide +kernel
theorem dX0_dropWhatIsPastIn_4 : decode cX0_dropWhatIsPastIn 4 = .ok (.ifCond .eq 16, 3) := by decide +kernel
theorem dX0_dropWhatIsPastIn_7 : decode cX0_dropWhatIsPastIn 7 = .ok (.aload_n 0, 1) := by decide +kernel
theorem dX0_dropWhatIsPastIn_8 : decode cX0_dropWhatIsPastIn 8 = .ok (.getfield 46, 3) := by decide +kernel
theorem dX0_dropWhatIsPastIn_11 : decode cX0_dropWhatIsPastIn 11 = .ok (.iload_n 1, 1) := by decide +kernel
theorem dX0_dropWhatIsPastIn_12 : decode cX0_dropWhatIsPastIn 12 = .ok (.if_icmp .ge 8, 3) := by decide +kernel
theorem dX0_dropWhatIsPastIn_15 : decode cX0_dropWhatIsPastIn 15 = .ok (.aload_n 0, 1) := by decide +kernel
theorem dX0_dropWhatIsPastIn_16 : decode cX0_dropWhatIsPastIn 16 = .ok (.iconst 0, 1) := by decide +kernel
theorem dX0_dropWhatIsPastIn_17 : decode cX0_dropWhatIsPastIn 17 = .ok (.putfield 34, 3) := by decide +kernel
theorem dX0_dropWhatIsPastIn_20 : decode cX0_dropWhatIsPastIn 20 = .ok (.aload_n 0, 1) := by decide +kernel
theorem dX0_dropWhatIsPastIn_21 : decode cX0_dropWhatIsPastIn 21 = .ok (.getfield 37, 3) := by decide +kernel
theorem dX0_dropWhatIsPastIn_24 : decode cX0_dropWhatIsPastIn 24 = .ok (.ifCond .eq 16, 3) := by decide +kernel
theorem dX0_dropWhatIsPastIn_27 : decode cX0_dropWhatIsPastIn 27 = .ok (.aload_n 0, 1) := by decide +kernel
theorem dX0_dropWhatIsPastIn_28 : decode cX0_dropWhatIsPastIn 28 = .ok (.getfield 52, 3) := by decide +kernel
theorem dX0_dropWhatIsPastIn_31 : decode cX0_dropWhatIsPastIn 31 = .ok (.iload_n 1, 1) := by decide +kernel
theorem dX0_dropWhatIsPastIn_32 : decode cX0_dropWhatIsPastIn 32 = .ok (.if_icmp .ge 8, 3) := by decide +kernel
theorem dX0_dropWhatIsPastIn_35 : decode cX0_dropWhatIsPastIn 35 = .ok (.aload_n 0, 1) := by decide +kernel
theorem dX0_dropWhatIsPastIn_36 : decode cX0_dropWhatIsPastIn 36 = .ok (.iconst 0, 1) := by decide +kernel
theorem dX0_dropWhatIsPastIn_37 : decode cX0_dropWhatIsPastIn 37 = .ok (.putfield 37, 3) := by decide +kernel
theorem dX0_dropWhatIsPastIn_40 : decode cX0_dropWhatIsPastIn 40 = .ok (.return_, 1) := by decide +kernel
theorem dX0_mustGoOutIn_0 : decode cX0_mustGoOutIn 0 = .ok (.aload_n 0, 1) := by decide +kernel
theorem dX0_mustGoOutIn_1 : decode cX0_mustGoOutIn 1 = .ok (.getfield 21, 3) := by decide +kernel
theorem dX0_mustGoOutIn_4 : decode cX0_mustGoOutIn 4 = .ok (.iconst 1, 1) := by decide +kernel
theorem dX0_mustGoOutIn_5 : decode cX0_mustGoOutIn 5 = .ok (.if_icmp .ne 22, 3) := by decide +kernel
theorem dX0_mustGoOutIn_8 : decode cX0_mustGoOutIn 8 = .ok (.aload_n 0, 1) := by decide +kernel
theorem dX0_mustGoOutIn_9 : decode cX0_mustGoOutIn 9 = .ok (.getfield 34, 3) := by decide +kernel
theorem dX0_mustGoOutIn_12 : decode cX0_mustGoOutIn 12 = .ok (.ifCond .eq 11, 3) := by decide +kernel
theorem dX0_mustGoOutIn_15 : decode cX0_mustGoOutIn 15 = .ok (.aload_n 0, 1) := by decide +kernel
theorem dX0_mustGoOutIn_16 : decode cX0_mustGoOutIn 16 = .ok (.iload_n 1, 1) := by decide +kernel
theorem dX0_mustGoOutIn_17 : decode cX0_mustGoOutIn 17 = .ok (.invokevirtual 55, 3) := by decide +kernel
theorem dX0_mustGoOutIn_20 : decode cX0_mustGoOutIn 20 = .ok (.ifCond .eq 7, 3) := by decide +kernel
theorem dX0_mustGoOutIn_23 : decode cX0_mustGoOutIn 23 = .ok (.iconst 1, 1) := by decide +kernel
theorem dX0_mustGoOutIn_24 : decode cX0_mustGoOutIn 24 = .ok (.goto 4, 3) := by decide +kernel
theorem dX0_mustGoOutIn_27 : decode cX0_mustGoOutIn 27 = .ok (.iconst 0, 1) := by decide +kernel
theorem dX0_mustGoOutIn_28 : decode cX0_mustGoOutIn 28 = .ok (.ireturn, 1) := by decide +kernel
theorem dX0_weeksUntilPutOut_0 : decode cX0_weeksUntilPutOut 0 = .ok (.aload_n 0, 1) := by decide +kernel
theorem dX0_weeksUntilPutOut_1 : decode cX0_weeksUntilPutOut 1 = .ok (.getfield 21, 3) := by decide +kernel
theorem dX0_weeksUntilPutOut_4 : decode cX0_weeksUntilPutOut 4 = .ok (.iconst 1, 1) := by decide +kernel
theorem dX0_weeksUntilPutOut_5 : decode cX0_weeksUntilPutOut 5 = .ok (.if_icmp .eq 6, 3) := by decide +kernel
theorem dX0_weeksUntilPutOut_8 : decode cX0_weeksUntilPutOut 8 = .ok (.ldc 74, 2) := by decide +kernel
theorem dX0_weeksUntilPutOut_10 : decode cX0_weeksUntilPutOut 10 = .ok (.ireturn, 1) := by decide +kernel
theorem dX0_weeksUntilPutOut_11 : decode cX0_weeksUntilPutOut 11 = .ok (.aload_n 0, 1) := by decide +kernel
theorem dX0_weeksUntilPutOut_12 : decode cX0_weeksUntilPutOut 12 = .ok (.getfield 46, 3) := by decide +kernel
theorem dX0_weeksUntilPutOut_15 : decode cX0_weeksUntilPutOut 15 = .ok (.iconst 1, 1) := by decide +kernel
theorem dX0_weeksUntilPutOut_16 : decode cX0_weeksUntilPutOut 16 = .ok (.iadd, 1) := by decide +kernel
theorem dX0_weeksUntilPutOut_17 : decode cX0_weeksUntilPutOut 17 = .ok (.iload_n 1, 1) := by decide +kernel
theorem dX0_weeksUntilPutOut_18 : decode cX0_weeksUntilPutOut 18 = .ok (.isub, 1) := by decide +kernel
theorem dX0_weeksUntilPutOut_19 : decode cX0_weeksUntilPutOut 19 = .ok (.istore_n 2, 1) := by decide +kernel
theorem dX0_weeksUntilPutOut_20 : decode cX0_weeksUntilPutOut 20 = .ok (.aload_n 0, 1) := by decide +kernel
theorem dX0_weeksUntilPutOut_21 : decode cX0_weeksUntilPutOut 21 = .ok (.getfield 37, 3) := by decide +kernel
theorem dX0_weeksUntilPutOut_24 : decode cX0_weeksUntilPutOut 24 = .ok (.ifCond .eq 16, 3) := by decide +kernel
theorem dX0_weeksUntilPutOut_27 : decode cX0_weeksUntilPutOut 27 = .ok (.iload_n 2, 1) := by decide +kernel
theorem dX0_weeksUntilPutOut_28 : decode cX0_weeksUntilPutOut 28 = .ok (.aload_n 0, 1) := by decide +kernel
theorem dX0_weeksUntilPutOut_29 : decode cX0_weeksUntilPutOut 29 = .ok (.getfield 49, 3) := by decide +kernel
theorem dX0_weeksUntilPutOut_32 : decode cX0_weeksUntilPutOut 32 = .ok (.iload_n 1, 1) := by decide +kernel
theorem dX0_weeksUntilPutOut_33 : decode cX0_weeksUntilPutOut 33 = .ok (.isub, 1) := by decide +kernel
theorem dX0_weeksUntilPutOut_34 : decode cX0_weeksUntilPutOut 34 = .ok (.invokestatic 65, 3) := by decide +kernel
theorem dX0_weeksUntilPutOut_37 : decode cX0_weeksUntilPutOut 37 = .ok (.goto 4, 3) := by decide +kernel
theorem dX0_weeksUntilPutOut_40 : decode cX0_weeksUntilPutOut 40 = .ok (.iload_n 2, 1) := by decide +kernel
theorem dX0_weeksUntilPutOut_41 : decode cX0_weeksUntilPutOut 41 = .ok (.ireturn, 1) := by decide +kernel
theorem dX0_fact_0 : decode cX0_fact 0 = .ok (.iload_n 1, 1) := by decide +kernel
theorem dX0_fact_1 : decode cX0_fact 1 = .ok (.tableswitch 164 0 9 #[55, 60, 65, 70, 75, 92, 112, 125, 142, 159], 55) := by decide +kernel
theorem dX0_fact_56 : decode cX0_fact 56 = .ok (.aload_n 0, 1) := by decide +kernel
theorem dX0_fact_57 : decode cX0_fact 57 = .ok (.getfield 9, 3) := by decide +kernel
theorem dX0_fact_60 : decode cX0_fact 60 = .ok (.ireturn, 1) := by decide +kernel
theorem dX0_fact_61 : decode cX0_fact 61 = .ok (.aload_n 0, 1) := by decide +kernel
theorem dX0_fact_62 : decode cX0_fact 62 = .ok (.getfield 15, 3) := by decide +kernel
theorem dX0_fact_65 : decode cX0_fact 65 = .ok (.ireturn, 1) := by decide +kernel
theorem dX0_fact_66 : decode cX0_fact 66 = .ok (.aload_n 0, 1) := by decide +kernel
theorem dX0_fact_67 : decode cX0_fact 67 = .ok (.getfield 18, 3) := by decide +kernel
theorem dX0_fact_70 : decode cX0_fact 70 = .ok (.ireturn, 1) := by decide +kernel
theorem dX0_fact_71 : decode cX0_fact 71 = .ok (.aload_n 0, 1) := by decide +kernel
theorem dX0_fact_72 : decode cX0_fact 72 = .ok (.getfield 21, 3) := by decide +kernel
theorem dX0_fact_75 : decode cX0_fact 75 = .ok (.ireturn, 1) := by decide +kernel
theorem dX0_fact_76 : decode cX0_fact 76 = .ok (.aload_n 0, 1) := by decide +kernel
theorem dX0_fact_77 : decode cX0_fact 77 = .ok (.getfield 21, 3) := by decide +kernel
theorem dX0_fact_80 : decode cX0_fact 80 = .ok (.ifCond .ne 10, 3) := by decide +kernel
theorem dX0_fact_83 : decode cX0_fact 83 = .ok (.aload_n 0, 1) := by decide +kernel
theorem dX0_fact_84 : decode cX0_fact 84 = .ok (.getfield 24, 3) := by decide +kernel
theorem dX0_fact_87 : decode cX0_fact 87 = .ok (.goto 5, 3) := by decide +kernel
theorem dX0_fact_90 : decode cX0_fact 90 = .ok (.ldc 75, 2) := by decide +kernel
theorem dX0_fact_92 : decode cX0_fact 92 = .ok (.ireturn, 1) := by decide +kernel
theorem dX0_fact_93 : decode cX0_fact 93 = .ok (.aload_n 0, 1) := by decide +kernel
theorem dX0_fact_94 : decode cX0_fact 94 = .ok (.getfield 21, 3) := by decide +kernel
theorem dX0_fact_97 : decode cX0_fact 97 = .ok (.iconst 2, 1) := by decide +kernel
theorem dX0_fact_98 : decode cX0_fact 98 = .ok (.if_icmp .ne 12, 3) := by decide +kernel
theorem dX0_fact_101 : decode cX0_fact 101 = .ok (.aload_n 0, 1) := by decide +kernel
theorem dX0_fact_102 : decode cX0_fact 102 = .ok (.getfield 27, 3) := by decide +kernel
theorem dX0_fact_105 : decode cX0_fact 105 = .ok (.iload_n 2, 1) := by decide +kernel
theorem dX0_fact_106 : decode cX0_fact 106 = .ok (.isub, 1) := by decide +kernel
theorem dX0_fact_107 : decode cX0_fact 107 = .ok (.goto 5, 3) := by decide +kernel
theorem dX0_fact_110 : decode cX0_fact 110 = .ok (.ldc 75, 2) := by decide +kernel
theorem dX0_fact_112 : decode cX0_fact 112 = .ok (.ireturn, 1) := by decide +kernel
theorem dX0_fact_113 : decode cX0_fact 113 = .ok (.aload_n 0, 1) := by decide +kernel
theorem dX0_fact_114 : decode cX0_fact 114 = .ok (.getfield 30, 3) := by decide +kernel
theorem dX0_fact_117 : decode cX0_fact 117 = .ok (.ifCond .eq 7, 3) := by decide +kernel
theorem dX0_fact_120 : decode cX0_fact 120 = .ok (.iconst 1, 1) := by decide +kernel
theorem dX0_fact_121 : decode cX0_fact 121 = .ok (.goto 4, 3) := by decide +kernel
theorem dX0_fact_124 : decode cX0_fact 124 = .ok (.iconst 0, 1) := by decide +kernel
theorem dX0_fact_125 : decode cX0_fact 125 = .ok (.ireturn, 1) := by decide +kernel
theorem dX0_fact_126 : decode cX0_fact 126 = .ok (.aload_n 0, 1) := by decide +kernel
theorem dX0_fact_127 : decode cX0_fact 127 = .ok (.getfield 37, 3) := by decide +kernel
theorem dX0_fact_130 : decode cX0_fact 130 = .ok (.ifCond .eq 10, 3) := by decide +kernel
theorem dX0_fact_133 : decode cX0_fact 133 = .ok (.aload_n 0, 1) := by decide +kernel
theorem dX0_fact_134 : decode cX0_fact 134 = .ok (.getfield 49, 3) := by decide +kernel
theorem dX0_fact_137 : decode cX0_fact 137 = .ok (.goto 5, 3) := by decide +kernel
theorem dX0_fact_140 : decode cX0_fact 140 = .ok (.ldc 75, 2) := by decide +kernel
theorem dX0_fact_142 : decode cX0_fact 142 = .ok (.ireturn, 1) := by decide +kernel
theorem dX0_fact_143 : decode cX0_fact 143 = .ok (.aload_n 0, 1) := by decide +kernel
theorem dX0_fact_144 : decode cX0_fact 144 = .ok (.getfield 37, 3) := by decide +kernel
theorem dX0_fact_147 : decode cX0_fact 147 = .ok (.ifCond .eq 10, 3) := by decide +kernel
theorem dX0_fact_150 : decode cX0_fact 150 = .ok (.aload_n 0, 1) := by decide +kernel
theorem dX0_fact_151 : decode cX0_fact 151 = .ok (.getfield 52, 3) := by decide +kernel
theorem dX0_fact_154 : decode cX0_fact 154 = .ok (.goto 5, 3) := by decide +kernel
theorem dX0_fact_157 : decode cX0_fact 157 = .ok (.ldc 75, 2) := by decide +kernel
theorem dX0_fact_159 : decode cX0_fact 159 = .ok (.ireturn, 1) := by decide +kernel
theorem dX0_fact_160 : decode cX0_fact 160 = .ok (.aload_n 0, 1) := by decide +kernel
theorem dX0_fact_161 : decode cX0_fact 161 = .ok (.invokevirtual 76, 3) := by decide +kernel
theorem dX0_fact_164 : decode cX0_fact 164 = .ok (.ireturn, 1) := by decide +kernel
theorem dX0_fact_165 : decode cX0_fact 165 = .ok (.ldc 79, 2) := by decide +kernel
theorem dX0_fact_167 : decode cX0_fact 167 = .ok (.ireturn, 1) := by decide +kernel
theorem dX0_factOfPaper_0 : decode cX0_factOfPaper 0 = .ok (.iload_n 1, 1) := by decide +kernel
theorem dX0_factOfPaper_1 : decode cX0_factOfPaper 1 = .ok (.ifCond .lt 8, 3) := by decide +kernel
theorem dX0_factOfPaper_4 : decode cX0_factOfPaper 4 = .ok (.iload_n 1, 1) := by decide +kernel
theorem dX0_factOfPaper_5 : decode cX0_factOfPaper 5 = .ok (.iconst 2, 1) := by decide +kernel
theorem dX0_factOfPaper_6 : decode cX0_factOfPaper 6 = .ok (.if_icmp .le 6, 3) := by decide +kernel
theorem dX0_factOfPaper_9 : decode cX0_factOfPaper 9 = .ok (.ldc 79, 2) := by decide +kernel
theorem dX0_factOfPaper_11 : decode cX0_factOfPaper 11 = .ok (.ireturn, 1) := by decide +kernel
theorem dX0_factOfPaper_12 : decode cX0_factOfPaper 12 = .ok (.aload_n 0, 1) := by decide +kernel
theorem dX0_factOfPaper_13 : decode cX0_factOfPaper 13 = .ok (.getfield 34, 3) := by decide +kernel
theorem dX0_factOfPaper_16 : decode cX0_factOfPaper 16 = .ok (.ifCond .ne 6, 3) := by decide +kernel
theorem dX0_factOfPaper_19 : decode cX0_factOfPaper 19 = .ok (.ldc 75, 2) := by decide +kernel
theorem dX0_factOfPaper_21 : decode cX0_factOfPaper 21 = .ok (.ireturn, 1) := by decide +kernel
theorem dX0_factOfPaper_22 : decode cX0_factOfPaper 22 = .ok (.iload_n 1, 1) := by decide +kernel
theorem dX0_factOfPaper_23 : decode cX0_factOfPaper 23 = .ok (.ifCond .ne 8, 3) := by decide +kernel
theorem dX0_factOfPaper_26 : decode cX0_factOfPaper 26 = .ok (.aload_n 0, 1) := by decide +kernel
theorem dX0_factOfPaper_27 : decode cX0_factOfPaper 27 = .ok (.getfield 40, 3) := by decide +kernel
theorem dX0_factOfPaper_30 : decode cX0_factOfPaper 30 = .ok (.ireturn, 1) := by decide +kernel
theorem dX0_factOfPaper_31 : decode cX0_factOfPaper 31 = .ok (.iload_n 1, 1) := by decide +kernel
theorem dX0_factOfPaper_32 : decode cX0_factOfPaper 32 = .ok (.iconst 1, 1) := by decide +kernel
theorem dX0_factOfPaper_33 : decode cX0_factOfPaper 33 = .ok (.if_icmp .ne 10, 3) := by decide +kernel
theorem dX0_factOfPaper_36 : decode cX0_factOfPaper 36 = .ok (.aload_n 0, 1) := by decide +kernel
theorem dX0_factOfPaper_37 : decode cX0_factOfPaper 37 = .ok (.getfield 43, 3) := by decide +kernel
theorem dX0_factOfPaper_40 : decode cX0_factOfPaper 40 = .ok (.goto 7, 3) := by decide +kernel
theorem dX0_factOfPaper_43 : decode cX0_factOfPaper 43 = .ok (.aload_n 0, 1) := by decide +kernel
theorem dX0_factOfPaper_44 : decode cX0_factOfPaper 44 = .ok (.getfield 46, 3) := by decide +kernel
theorem dX0_factOfPaper_47 : decode cX0_factOfPaper 47 = .ok (.ireturn, 1) := by decide +kernel
theorem dX1_init_0 : decode cX1_init 0 = .ok (.aload_n 0, 1) := by decide +kernel
theorem dX1_init_1 : decode cX1_init 1 = .ok (.invokespecial 3, 3) := by decide +kernel
theorem dX1_init_4 : decode cX1_init 4 = .ok (.aload_n 0, 1) := by decide +kernel
theorem dX1_init_5 : decode cX1_init 5 = .ok (.iconst 4, 1) := by decide +kernel
theorem dX1_init_6 : decode cX1_init 6 = .ok (.anewarray 9, 3) := by decide +kernel
theorem dX1_init_9 : decode cX1_init 9 = .ok (.putfield 11, 3) := by decide +kernel
theorem dX1_init_12 : decode cX1_init 12 = .ok (.iconst 0, 1) := by decide +kernel
theorem dX1_init_13 : decode cX1_init 13 = .ok (.istore_n 1, 1) := by decide +kernel
theorem dX1_init_14 : decode cX1_init 14 = .ok (.iload_n 1, 1) := by decide +kernel
theorem dX1_init_15 : decode cX1_init 15 = .ok (.aload_n 0, 1) := by decide +kernel
theorem dX1_init_16 : decode cX1_init 16 = .ok (.getfield 11, 3) := by decide +kernel
theorem dX1_init_19 : decode cX1_init 19 = .ok (.arraylength, 1) := by decide +kernel
theorem dX1_init_20 : decode cX1_init 20 = .ok (.if_icmp .ge 22, 3) := by decide +kernel
theorem dX1_init_23 : decode cX1_init 23 = .ok (.aload_n 0, 1) := by decide +kernel
theorem dX1_init_24 : decode cX1_init 24 = .ok (.getfield 11, 3) := by decide +kernel
theorem dX1_init_27 : decode cX1_init 27 = .ok (.iload_n 1, 1) := by decide +kernel
theorem dX1_init_28 : decode cX1_init 28 = .ok (.new 9, 3) := by decide +kernel
theorem dX1_init_31 : decode cX1_init 31 = .ok (.dup, 1) := by decide +kernel
theorem dX1_init_32 : decode cX1_init 32 = .ok (.invokespecial 17, 3) := by decide +kernel
theorem dX1_init_35 : decode cX1_init 35 = .ok (.aastore, 1) := by decide +kernel
theorem dX1_init_36 : decode cX1_init 36 = .ok (.iinc 1 1, 3) := by decide +kernel
theorem dX1_init_39 : decode cX1_init 39 = .ok (.goto (-25), 3) := by decide +kernel
theorem dX1_init_42 : decode cX1_init 42 = .ok (.return_, 1) := by decide +kernel
theorem dX1_size_0 : decode cX1_size 0 = .ok (.aload_n 0, 1) := by decide +kernel
theorem dX1_size_1 : decode cX1_size 1 = .ok (.getfield 18, 3) := by decide +kernel
theorem dX1_size_4 : decode cX1_size 4 = .ok (.ireturn, 1) := by decide +kernel
theorem dX1_stateAt_0 : decode cX1_stateAt 0 = .ok (.iload_n 1, 1) := by decide +kernel
theorem dX1_stateAt_1 : decode cX1_stateAt 1 = .ok (.ifCond .lt 21, 3) := by decide +kernel
theorem dX1_stateAt_4 : decode cX1_stateAt 4 = .ok (.iload_n 1, 1) := by decide +kernel
theorem dX1_stateAt_5 : decode cX1_stateAt 5 = .ok (.aload_n 0, 1) := by decide +kernel
theorem dX1_stateAt_6 : decode cX1_stateAt 6 = .ok (.getfield 11, 3) := by decide +kernel
theorem dX1_stateAt_9 : decode cX1_stateAt 9 = .ok (.arraylength, 1) := by decide +kernel
theorem dX1_stateAt_10 : decode cX1_stateAt 10 = .ok (.if_icmp .ge 12, 3) := by decide +kernel
theorem dX1_stateAt_13 : decode cX1_stateAt 13 = .ok (.aload_n 0, 1) := by decide +kernel
theorem dX1_stateAt_14 : decode cX1_stateAt 14 = .ok (.getfield 11, 3) := by decide +kernel
theorem dX1_stateAt_17 : decode cX1_stateAt 17 = .ok (.iload_n 1, 1) := by decide +kernel
theorem dX1_stateAt_18 : decode cX1_stateAt 18 = .ok (.aaload, 1) := by decide +kernel
theorem dX1_stateAt_19 : decode cX1_stateAt 19 = .ok (.goto 4, 3) := by decide +kernel
theorem dX1_stateAt_22 : decode cX1_stateAt 22 = .ok (.aconst_null, 1) := by decide +kernel
theorem dX1_stateAt_23 : decode cX1_stateAt 23 = .ok (.areturn, 1) := by decide +kernel
theorem dX1_keep_0 : decode cX1_keep 0 = .ok (.aload_n 0, 1) := by decide +kernel
theorem dX1_keep_1 : decode cX1_keep 1 = .ok (.aload_n 0, 1) := by decide +kernel
theorem dX1_keep_2 : decode cX1_keep 2 = .ok (.getfield 22, 3) := by decide +kernel
theorem dX1_keep_5 : decode cX1_keep 5 = .ok (.invokevirtual 25, 3) := by decide +kernel
theorem dX1_keep_8 : decode cX1_keep 8 = .ok (.astore_n 2, 1) := by decide +kernel
theorem dX1_keep_9 : decode cX1_keep 9 = .ok (.aload_n 2, 1) := by decide +kernel
theorem dX1_keep_10 : decode cX1_keep 10 = .ok (.ifnonnull 4, 3) := by decide +kernel
theorem dX1_keep_13 : decode cX1_keep 13 = .ok (.return_, 1) := by decide +kernel
theorem dX1_keep_14 : decode cX1_keep 14 = .ok (.aload_n 2, 1) := by decide +kernel
theorem dX1_keep_15 : decode cX1_keep 15 = .ok (.aload_n 1, 1) := by decide +kernel
theorem dX1_keep_16 : decode cX1_keep 16 = .ok (.invokevirtual 29, 3) := by decide +kernel
theorem dX1_keep_19 : decode cX1_keep 19 = .ok (.aload_n 0, 1) := by decide +kernel
theorem dX1_keep_20 : decode cX1_keep 20 = .ok (.aload_n 0, 1) := by decide +kernel
theorem dX1_keep_21 : decode cX1_keep 21 = .ok (.getfield 22, 3) := by decide +kernel
theorem dX1_keep_24 : decode cX1_keep 24 = .ok (.iconst 1, 1) := by decide +kernel
theorem dX1_keep_25 : decode cX1_keep 25 = .ok (.iadd, 1) := by decide +kernel
theorem dX1_keep_26 : decode cX1_keep 26 = .ok (.iconst 4, 1) := by decide +kernel
theorem dX1_keep_27 : decode cX1_keep 27 = .ok (.irem, 1) := by decide +kernel
theorem dX1_keep_28 : decode cX1_keep 28 = .ok (.putfield 22, 3) := by decide +kernel
theorem dX1_keep_31 : decode cX1_keep 31 = .ok (.aload_n 0, 1) := by decide +kernel
theorem dX1_keep_32 : decode cX1_keep 32 = .ok (.aload_n 0, 1) := by decide +kernel
theorem dX1_keep_33 : decode cX1_keep 33 = .ok (.getfield 18, 3) := by decide +kernel
theorem dX1_keep_36 : decode cX1_keep 36 = .ok (.iconst 1, 1) := by decide +kernel
theorem dX1_keep_37 : decode cX1_keep 37 = .ok (.iadd, 1) := by decide +kernel
theorem dX1_keep_38 : decode cX1_keep 38 = .ok (.iconst 4, 1) := by decide +kernel
theorem dX1_keep_39 : decode cX1_keep 39 = .ok (.invokestatic 33, 3) := by decide +kernel
theorem dX1_keep_42 : decode cX1_keep 42 = .ok (.putfield 18, 3) := by decide +kernel
theorem dX1_keep_45 : decode cX1_keep 45 = .ok (.return_, 1) := by decide +kernel
theorem dX1_bringBack_0 : decode cX1_bringBack 0 = .ok (.aload_n 0, 1) := by decide +kernel
theorem dX1_bringBack_1 : decode cX1_bringBack 1 = .ok (.getfield 22, 3) := by decide +kernel
theorem dX1_bringBack_4 : decode cX1_bringBack 4 = .ok (.iconst 4, 1) := by decide +kernel
theorem dX1_bringBack_5 : decode cX1_bringBack 5 = .ok (.iadd, 1) := by decide +kernel
theorem dX1_bringBack_6 : decode cX1_bringBack 6 = .ok (.iconst 1, 1) := by decide +kernel
theorem dX1_bringBack_7 : decode cX1_bringBack 7 = .ok (.isub, 1) := by decide +kernel
theorem dX1_bringBack_8 : decode cX1_bringBack 8 = .ok (.iconst 4, 1) := by decide +kernel
theorem dX1_bringBack_9 : decode cX1_bringBack 9 = .ok (.irem, 1) := by decide +kernel
theorem dX1_bringBack_10 : decode cX1_bringBack 10 = .ok (.istore_n 2, 1) := by decide +kernel
theorem dX1_bringBack_11 : decode cX1_bringBack 11 = .ok (.aload_n 0, 1) := by decide +kernel
theorem dX1_bringBack_12 : decode cX1_bringBack 12 = .ok (.iload_n 2, 1) := by decide +kernel
theorem dX1_bringBack_13 : decode cX1_bringBack 13 = .ok (.invokevirtual 25, 3) := by decide +kernel
theorem dX1_bringBack_16 : decode cX1_bringBack 16 = .ok (.astore_n 3, 1) := by decide +kernel
theorem dX1_bringBack_17 : decode cX1_bringBack 17 = .ok (.aload_n 0, 1) := by decide +kernel
theorem dX1_bringBack_18 : decode cX1_bringBack 18 = .ok (.getfield 18, 3) := by decide +kernel
theorem dX1_bringBack_21 : decode cX1_bringBack 21 = .ok (.iconst 1, 1) := by decide +kernel
theorem dX1_bringBack_22 : decode cX1_bringBack 22 = .ok (.if_icmp .lt 7, 3) := by decide +kernel
theorem dX1_bringBack_25 : decode cX1_bringBack 25 = .ok (.aload_n 3, 1) := by decide +kernel
theorem dX1_bringBack_26 : decode cX1_bringBack 26 = .ok (.ifnonnull 6, 3) := by decide +kernel
theorem dX1_bringBack_29 : decode cX1_bringBack 29 = .ok (.ldc 39, 2) := by decide +kernel
theorem dX1_bringBack_31 : decode cX1_bringBack 31 = .ok (.ireturn, 1) := by decide +kernel
theorem dX1_bringBack_32 : decode cX1_bringBack 32 = .ok (.aload_n 1, 1) := by decide +kernel
theorem dX1_bringBack_33 : decode cX1_bringBack 33 = .ok (.aload_n 3, 1) := by decide +kernel
theorem dX1_bringBack_34 : decode cX1_bringBack 34 = .ok (.invokevirtual 29, 3) := by decide +kernel
theorem dX1_bringBack_37 : decode cX1_bringBack 37 = .ok (.aload_n 0, 1) := by decide +kernel
theorem dX1_bringBack_38 : decode cX1_bringBack 38 = .ok (.iload_n 2, 1) := by decide +kernel
theorem dX1_bringBack_39 : decode cX1_bringBack 39 = .ok (.putfield 22, 3) := by decide +kernel
theorem dX1_bringBack_42 : decode cX1_bringBack 42 = .ok (.aload_n 0, 1) := by decide +kernel
theorem dX1_bringBack_43 : decode cX1_bringBack 43 = .ok (.dup, 1) := by decide +kernel
theorem dX1_bringBack_44 : decode cX1_bringBack 44 = .ok (.getfield 18, 3) := by decide +kernel
theorem dX1_bringBack_47 : decode cX1_bringBack 47 = .ok (.iconst 1, 1) := by decide +kernel
theorem dX1_bringBack_48 : decode cX1_bringBack 48 = .ok (.isub, 1) := by decide +kernel
theorem dX1_bringBack_49 : decode cX1_bringBack 49 = .ok (.putfield 18, 3) := by decide +kernel
theorem dX1_bringBack_52 : decode cX1_bringBack 52 = .ok (.aload_n 0, 1) := by decide +kernel
theorem dX1_bringBack_53 : decode cX1_bringBack 53 = .ok (.getfield 18, 3) := by decide +kernel
theorem dX1_bringBack_56 : decode cX1_bringBack 56 = .ok (.ireturn, 1) := by decide +kernel
theorem dX2_init_0 : decode cX2_init 0 = .ok (.aload_n 0, 1) := by decide +kernel
theorem dX2_init_1 : decode cX2_init 1 = .ok (.invokespecial 3, 3) := by decide +kernel
theorem dX2_init_4 : decode cX2_init 4 = .ok (.aload_n 0, 1) := by decide +kernel
theorem dX2_init_5 : decode cX2_init 5 = .ok (.bipush 8, 2) := by decide +kernel
theorem dX2_init_7 : decode cX2_init 7 = .ok (.anewarray 9, 3) := by decide +kernel
theorem dX2_init_10 : decode cX2_init 10 = .ok (.putfield 11, 3) := by decide +kernel
theorem dX2_init_13 : decode cX2_init 13 = .ok (.aload_n 0, 1) := by decide +kernel
theorem dX2_init_14 : decode cX2_init 14 = .ok (.bipush 6, 2) := by decide +kernel
theorem dX2_init_16 : decode cX2_init 16 = .ok (.anewarray 17, 3) := by decide +kernel
theorem dX2_init_19 : decode cX2_init 19 = .ok (.putfield 19, 3) := by decide +kernel
theorem dX2_init_22 : decode cX2_init 22 = .ok (.aload_n 0, 1) := by decide +kernel
theorem dX2_init_23 : decode cX2_init 23 = .ok (.iconst 4, 1) := by decide +kernel
theorem dX2_init_24 : decode cX2_init 24 = .ok (.newarray .int, 2) := by decide +kernel
theorem dX2_init_26 : decode cX2_init 26 = .ok (.dup, 1) := by decide +kernel
theorem dX2_init_27 : decode cX2_init 27 = .ok (.iconst 0, 1) := by decide +kernel
theorem dX2_init_28 : decode cX2_init 28 = .ok (.bipush 120, 2) := by decide +kernel
theorem dX2_init_30 : decode cX2_init 30 = .ok (.iastore, 1) := by decide +kernel
theorem dX2_init_31 : decode cX2_init 31 = .ok (.dup, 1) := by decide +kernel
theorem dX2_init_32 : decode cX2_init 32 = .ok (.iconst 1, 1) := by decide +kernel
theorem dX2_init_33 : decode cX2_init 33 = .ok (.bipush 90, 2) := by decide +kernel
theorem dX2_init_35 : decode cX2_init 35 = .ok (.iastore, 1) := by decide +kernel
theorem dX2_init_36 : decode cX2_init 36 = .ok (.dup, 1) := by decide +kernel
theorem dX2_init_37 : decode cX2_init 37 = .ok (.iconst 2, 1) := by decide +kernel
theorem dX2_init_38 : decode cX2_init 38 = .ok (.bipush 8, 2) := by decide +kernel
theorem dX2_init_40 : decode cX2_init 40 = .ok (.iastore, 1) := by decide +kernel
theorem dX2_init_41 : decode cX2_init 41 = .ok (.dup, 1) := by decide +kernel
theorem dX2_init_42 : decode cX2_init 42 = .ok (.iconst 3, 1) := by decide +kernel
theorem dX2_init_43 : decode cX2_init 43 = .ok (.bipush 15, 2) := by decide +kernel
theorem dX2_init_45 : decode cX2_init 45 = .ok (.iastore, 1) := by decide +kernel
theorem dX2_init_46 : decode cX2_init 46 = .ok (.putfield 23, 3) := by decide +kernel
theorem dX2_init_49 : decode cX2_init 49 = .ok (.aload_n 0, 1) := by decide +kernel
theorem dX2_init_50 : decode cX2_init 50 = .ok (.iconst 4, 1) := by decide +kernel
theorem dX2_init_51 : decode cX2_init 51 = .ok (.newarray .int, 2) := by decide +kernel
theorem dX2_init_53 : decode cX2_init 53 = .ok (.dup, 1) := by decide +kernel
theorem dX2_init_54 : decode cX2_init 54 = .ok (.iconst 0, 1) := by decide +kernel
theorem dX2_init_55 : decode cX2_init 55 = .ok (.iconst 0, 1) := by decide +kernel
theorem dX2_init_56 : decode cX2_init 56 = .ok (.iastore, 1) := by decide +kernel
theorem dX2_init_57 : decode cX2_init 57 = .ok (.dup, 1) := by decide +kernel
theorem dX2_init_58 : decode cX2_init 58 = .ok (.iconst 1, 1) := by decide +kernel
theorem dX2_init_59 : decode cX2_init 59 = .ok (.iconst 0, 1) := by decide +kernel
theorem dX2_init_60 : decode cX2_init 60 = .ok (.iastore, 1) := by decide +kernel
theorem dX2_init_61 : decode cX2_init 61 = .ok (.dup, 1) := by decide +kernel
theorem dX2_init_62 : decode cX2_init 62 = .ok (.iconst 2, 1) := by decide +kernel
theorem dX2_init_63 : decode cX2_init 63 = .ok (.iconst 0, 1) := by decide +kernel
theorem dX2_init_64 : decode cX2_init 64 = .ok (.iastore, 1) := by decide +kernel
theorem dX2_init_65 : decode cX2_init 65 = .ok (.dup, 1) := by decide +kernel
theorem dX2_init_66 : decode cX2_init 66 = .ok (.iconst 3, 1) := by decide +kernel
theorem dX2_init_67 : decode cX2_init 67 = .ok (.iconst 0, 1) := by decide +kernel
theorem dX2_init_68 : decode cX2_init 68 = .ok (.iastore, 1) := by decide +kernel
theorem dX2_init_69 : decode cX2_init 69 = .ok (.putfield 27, 3) := by decide +kernel
theorem dX2_init_72 : decode cX2_init 72 = .ok (.iconst 0, 1) := by decide +kernel
theorem dX2_init_73 : decode cX2_init 73 = .ok (.istore_n 1, 1) := by decide +kernel
theorem dX2_init_74 : decode cX2_init 74 = .ok (.iload_n 1, 1) := by decide +kernel
theorem dX2_init_75 : decode cX2_init 75 = .ok (.aload_n 0, 1) := by decide +kernel
theorem dX2_init_76 : decode cX2_init 76 = .ok (.getfield 11, 3) := by decide +kernel
theorem dX2_init_79 : decode cX2_init 79 = .ok (.arraylength, 1) := by decide +kernel
theorem dX2_init_80 : decode cX2_init 80 = .ok (.if_icmp .ge 22, 3) := by decide +kernel
theorem dX2_init_83 : decode cX2_init 83 = .ok (.aload_n 0, 1) := by decide +kernel
theorem dX2_init_84 : decode cX2_init 84 = .ok (.getfield 11, 3) := by decide +kernel
theorem dX2_init_87 : decode cX2_init 87 = .ok (.iload_n 1, 1) := by decide +kernel
theorem dX2_init_88 : decode cX2_init 88 = .ok (.new 9, 3) := by decide +kernel
theorem dX2_init_91 : decode cX2_init 91 = .ok (.dup, 1) := by decide +kernel
theorem dX2_init_92 : decode cX2_init 92 = .ok (.invokespecial 30, 3) := by decide +kernel
theorem dX2_init_95 : decode cX2_init 95 = .ok (.aastore, 1) := by decide +kernel
theorem dX2_init_96 : decode cX2_init 96 = .ok (.iinc 1 1, 3) := by decide +kernel
theorem dX2_init_99 : decode cX2_init 99 = .ok (.goto (-25), 3) := by decide +kernel
theorem dX2_init_102 : decode cX2_init 102 = .ok (.iconst 0, 1) := by decide +kernel
theorem dX2_init_103 : decode cX2_init 103 = .ok (.istore_n 1, 1) := by decide +kernel
theorem dX2_init_104 : decode cX2_init 104 = .ok (.iload_n 1, 1) := by decide +kernel
theorem dX2_init_105 : decode cX2_init 105 = .ok (.aload_n 0, 1) := by decide +kernel
theorem dX2_init_106 : decode cX2_init 106 = .ok (.getfield 19, 3) := by decide +kernel
theorem dX2_init_109 : decode cX2_init 109 = .ok (.arraylength, 1) := by decide +kernel
theorem dX2_init_110 : decode cX2_init 110 = .ok (.if_icmp .ge 22, 3) := by decide +kernel
theorem dX2_init_113 : decode cX2_init 113 = .ok (.aload_n 0, 1) := by decide +kernel
theorem dX2_init_114 : decode cX2_init 114 = .ok (.getfield 19, 3) := by decide +kernel
theorem dX2_init_117 : decode cX2_init 117 = .ok (.iload_n 1, 1) := by decide +kernel
theorem dX2_init_118 : decode cX2_init 118 = .ok (.new 17, 3) := by decide +kernel
theorem dX2_init_121 : decode cX2_init 121 = .ok (.dup, 1) := by decide +kernel
theorem dX2_init_122 : decode cX2_init 122 = .ok (.invokespecial 31, 3) := by decide +kernel
theorem dX2_init_125 : decode cX2_init 125 = .ok (.aastore, 1) := by decide +kernel
theorem dX2_init_126 : decode cX2_init 126 = .ok (.iinc 1 1, 3) := by decide +kernel
theorem dX2_init_129 : decode cX2_init 129 = .ok (.goto (-25), 3) := by decide +kernel
theorem dX2_init_132 : decode cX2_init 132 = .ok (.return_, 1) := by decide +kernel
theorem dX2_copyFrom_0 : decode cX2_copyFrom 0 = .ok (.aload_n 0, 1) := by decide +kernel
theorem dX2_copyFrom_1 : decode cX2_copyFrom 1 = .ok (.aload_n 1, 1) := by decide +kernel
theorem dX2_copyFrom_2 : decode cX2_copyFrom 2 = .ok (.getfield 32, 3) := by decide +kernel
theorem dX2_copyFrom_5 : decode cX2_copyFrom 5 = .ok (.putfield 32, 3) := by decide +kernel
theorem dX2_copyFrom_8 : decode cX2_copyFrom 8 = .ok (.aload_n 0, 1) := by decide +kernel
theorem dX2_copyFrom_9 : decode cX2_copyFrom 9 = .ok (.aload_n 1, 1) := by decide +kernel
theorem dX2_copyFrom_10 : decode cX2_copyFrom 10 = .ok (.getfield 36, 3) := by decide +kernel
theorem dX2_copyFrom_13 : decode cX2_copyFrom 13 = .ok (.putfield 36, 3) := by decide +kernel
theorem dX2_copyFrom_16 : decode cX2_copyFrom 16 = .ok (.aload_n 0, 1) := by decide +kernel
theorem dX2_copyFrom_17 : decode cX2_copyFrom 17 = .ok (.aload_n 1, 1) := by decide +kernel
theorem dX2_copyFrom_18 : decode cX2_copyFrom 18 = .ok (.getfield 39, 3) := by decide +kernel
theorem dX2_copyFrom_21 : decode cX2_copyFrom 21 = .ok (.putfield 39, 3) := by decide +kernel
theorem dX2_copyFrom_24 : decode cX2_copyFrom 24 = .ok (.aload_n 0, 1) := by decide +kernel
theorem dX2_copyFrom_25 : decode cX2_copyFrom 25 = .ok (.aload_n 1, 1) := by decide +kernel
theorem dX2_copyFrom_26 : decode cX2_copyFrom 26 = .ok (.getfield 42, 3) := by decide +kernel
theorem dX2_copyFrom_29 : decode cX2_copyFrom 29 = .ok (.putfield 42, 3) := by decide +kernel
theorem dX2_copyFrom_32 : decode cX2_copyFrom 32 = .ok (.aload_n 0, 1) := by decide +kernel
theorem dX2_copyFrom_33 : decode cX2_copyFrom 33 = .ok (.aload_n 1, 1) := by decide +kernel
theorem dX2_copyFrom_34 : decode cX2_copyFrom 34 = .ok (.getfield 45, 3) := by decide +kernel
theorem dX2_copyFrom_37 : decode cX2_copyFrom 37 = .ok (.putfield 45, 3) := by decide +kernel
theorem dX2_copyFrom_40 : decode cX2_copyFrom 40 = .ok (.aload_n 1, 1) := by decide +kernel
theorem dX2_copyFrom_41 : decode cX2_copyFrom 41 = .ok (.getfield 23, 3) := by decide +kernel
theorem dX2_copyFrom_44 : decode cX2_copyFrom 44 = .ok (.aload_n 0, 1) := by decide +kernel
theorem dX2_copyFrom_45 : decode cX2_copyFrom 45 = .ok (.getfield 23, 3) := by decide +kernel
theorem dX2_copyFrom_48 : decode cX2_copyFrom 48 = .ok (.invokestatic 48, 3) := by decide +kernel
theorem dX2_copyFrom_51 : decode cX2_copyFrom 51 = .ok (.aload_n 1, 1) := by decide +kernel
theorem dX2_copyFrom_52 : decode cX2_copyFrom 52 = .ok (.getfield 27, 3) := by decide +kernel
theorem dX2_copyFrom_55 : decode cX2_copyFrom 55 = .ok (.aload_n 0, 1) := by decide +kernel
theorem dX2_copyFrom_56 : decode cX2_copyFrom 56 = .ok (.getfield 27, 3) := by decide +kernel
theorem dX2_copyFrom_59 : decode cX2_copyFrom 59 = .ok (.invokestatic 48, 3) := by decide +kernel
theorem dX2_copyFrom_62 : decode cX2_copyFrom 62 = .ok (.iconst 0, 1) := by decide +kernel
theorem dX2_copyFrom_63 : decode cX2_copyFrom 63 = .ok (.istore_n 2, 1) := by decide +kernel
theorem dX2_copyFrom_64 : decode cX2_copyFrom 64 = .ok (.iload_n 2, 1) := by decide +kernel
theorem dX2_copyFrom_65 : decode cX2_copyFrom 65 = .ok (.aload_n 0, 1) := by decide +kernel
theorem dX2_copyFrom_66 : decode cX2_copyFrom 66 = .ok (.getfield 32, 3) := by decide +kernel
theorem dX2_copyFrom_69 : decode cX2_copyFrom 69 = .ok (.if_icmp .ge 37, 3) := by decide +kernel
theorem dX2_copyFrom_72 : decode cX2_copyFrom 72 = .ok (.aload_n 1, 1) := by decide +kernel
theorem dX2_copyFrom_73 : decode cX2_copyFrom 73 = .ok (.iload_n 2, 1) := by decide +kernel
theorem dX2_copyFrom_74 : decode cX2_copyFrom 74 = .ok (.invokevirtual 52, 3) := by decide +kernel
theorem dX2_copyFrom_77 : decode cX2_copyFrom 77 = .ok (.astore_n 3, 1) := by decide +kernel
theorem dX2_copyFrom_78 : decode cX2_copyFrom 78 = .ok (.aload_n 0, 1) := by decide +kernel
theorem dX2_copyFrom_79 : decode cX2_copyFrom 79 = .ok (.iload_n 2, 1) := by decide +kernel
theorem dX2_copyFrom_80 : decode cX2_copyFrom 80 = .ok (.invokevirtual 52, 3) := by decide +kernel
theorem dX2_copyFrom_83 : decode cX2_copyFrom 83 = .ok (.astore 4, 2) := by decide +kernel
theorem dX2_copyFrom_85 : decode cX2_copyFrom 85 = .ok (.aload_n 3, 1) := by decide +kernel
theorem dX2_copyFrom_86 : decode cX2_copyFrom 86 = .ok (.ifnull 14, 3) := by decide +kernel
theorem dX2_copyFrom_89 : decode cX2_copyFrom 89 = .ok (.aload 4, 2) := by decide +kernel
theorem dX2_copyFrom_91 : decode cX2_copyFrom 91 = .ok (.ifnull 9, 3) := by decide +kernel
theorem dX2_copyFrom_94 : decode cX2_copyFrom 94 = .ok (.aload 4, 2) := by decide +kernel
theorem dX2_copyFrom_96 : decode cX2_copyFrom 96 = .ok (.aload_n 3, 1) := by decide +kernel
theorem dX2_copyFrom_97 : decode cX2_copyFrom 97 = .ok (.invokevirtual 56, 3) := by decide +kernel
theorem dX2_copyFrom_100 : decode cX2_copyFrom 100 = .ok (.iinc 2 1, 3) := by decide +kernel
theorem dX2_copyFrom_103 : decode cX2_copyFrom 103 = .ok (.goto (-39), 3) := by decide +kernel
theorem dX2_copyFrom_106 : decode cX2_copyFrom 106 = .ok (.iconst 0, 1) := by decide +kernel
theorem dX2_copyFrom_107 : decode cX2_copyFrom 107 = .ok (.istore_n 2, 1) := by decide +kernel
theorem dX2_copyFrom_108 : decode cX2_copyFrom 108 = .ok (.iload_n 2, 1) := by decide +kernel
theorem dX2_copyFrom_109 : decode cX2_copyFrom 109 = .ok (.aload_n 0, 1) := by decide +kernel
theorem dX2_copyFrom_110 : decode cX2_copyFrom 110 = .ok (.getfield 36, 3) := by decide +kernel
theorem dX2_copyFrom_113 : decode cX2_copyFrom 113 = .ok (.if_icmp .ge 37, 3) := by decide +kernel
theorem dX2_copyFrom_116 : decode cX2_copyFrom 116 = .ok (.aload_n 1, 1) := by decide +kernel
theorem dX2_copyFrom_117 : decode cX2_copyFrom 117 = .ok (.iload_n 2, 1) := by decide +kernel
theorem dX2_copyFrom_118 : decode cX2_copyFrom 118 = .ok (.invokevirtual 60, 3) := by decide +kernel
theorem dX2_copyFrom_121 : decode cX2_copyFrom 121 = .ok (.astore_n 3, 1) := by decide +kernel
theorem dX2_copyFrom_122 : decode cX2_copyFrom 122 = .ok (.aload_n 0, 1) := by decide +kernel
theorem dX2_copyFrom_123 : decode cX2_copyFrom 123 = .ok (.iload_n 2, 1) := by decide +kernel
theorem dX2_copyFrom_124 : decode cX2_copyFrom 124 = .ok (.invokevirtual 60, 3) := by decide +kernel
theorem dX2_copyFrom_127 : decode cX2_copyFrom 127 = .ok (.astore 4, 2) := by decide +kernel
theorem dX2_copyFrom_129 : decode cX2_copyFrom 129 = .ok (.aload_n 3, 1) := by decide +kernel
theorem dX2_copyFrom_130 : decode cX2_copyFrom 130 = .ok (.ifnull 14, 3) := by decide +kernel
theorem dX2_copyFrom_133 : decode cX2_copyFrom 133 = .ok (.aload 4, 2) := by decide +kernel
theorem dX2_copyFrom_135 : decode cX2_copyFrom 135 = .ok (.ifnull 9, 3) := by decide +kernel
theorem dX2_copyFrom_138 : decode cX2_copyFrom 138 = .ok (.aload 4, 2) := by decide +kernel
theorem dX2_copyFrom_140 : decode cX2_copyFrom 140 = .ok (.aload_n 3, 1) := by decide +kernel
theorem dX2_copyFrom_141 : decode cX2_copyFrom 141 = .ok (.invokevirtual 64, 3) := by decide +kernel
theorem dX2_copyFrom_144 : decode cX2_copyFrom 144 = .ok (.iinc 2 1, 3) := by decide +kernel
theorem dX2_copyFrom_147 : decode cX2_copyFrom 147 = .ok (.goto (-39), 3) := by decide +kernel
theorem dX2_copyFrom_150 : decode cX2_copyFrom 150 = .ok (.return_, 1) := by decide +kernel
theorem dX2_copyNumbers_0 : decode cX2_copyNumbers 0 = .ok (.iconst 0, 1) := by decide +kernel
theorem dX2_copyNumbers_1 : decode cX2_copyNumbers 1 = .ok (.istore_n 2, 1) := by decide +kernel
theorem dX2_copyNumbers_2 : decode cX2_copyNumbers 2 = .ok (.iload_n 2, 1) := by decide +kernel
theorem dX2_copyNumbers_3 : decode cX2_copyNumbers 3 = .ok (.aload_n 0, 1) := by decide +kernel
theorem dX2_copyNumbers_4 : decode cX2_copyNumbers 4 = .ok (.arraylength, 1) := by decide +kernel
theorem dX2_copyNumbers_5 : decode cX2_copyNumbers 5 = .ok (.if_icmp .ge 21, 3) := by decide +kernel
theorem dX2_copyNumbers_8 : decode cX2_copyNumbers 8 = .ok (.iload_n 2, 1) := by decide +kernel
theorem dX2_copyNumbers_9 : decode cX2_copyNumbers 9 = .ok (.aload_n 1, 1) := by decide +kernel
theorem dX2_copyNumbers_10 : decode cX2_copyNumbers 10 = .ok (.arraylength, 1) := by decide +kernel
theorem dX2_copyNumbers_11 : decode cX2_copyNumbers 11 = .ok (.if_icmp .ge 15, 3) := by decide +kernel
theorem dX2_copyNumbers_14 : decode cX2_copyNumbers 14 = .ok (.aload_n 1, 1) := by decide +kernel
theorem dX2_copyNumbers_15 : decode cX2_copyNumbers 15 = .ok (.iload_n 2, 1) := by decide +kernel
theorem dX2_copyNumbers_16 : decode cX2_copyNumbers 16 = .ok (.aload_n 0, 1) := by decide +kernel
theorem dX2_copyNumbers_17 : decode cX2_copyNumbers 17 = .ok (.iload_n 2, 1) := by decide +kernel
theorem dX2_copyNumbers_18 : decode cX2_copyNumbers 18 = .ok (.iaload, 1) := by decide +kernel
theorem dX2_copyNumbers_19 : decode cX2_copyNumbers 19 = .ok (.iastore, 1) := by decide +kernel
theorem dX2_copyNumbers_20 : decode cX2_copyNumbers 20 = .ok (.iinc 2 1, 3) := by decide +kernel
theorem dX2_copyNumbers_23 : decode cX2_copyNumbers 23 = .ok (.goto (-21), 3) := by decide +kernel
theorem dX2_copyNumbers_26 : decode cX2_copyNumbers 26 = .ok (.return_, 1) := by decide +kernel
theorem dX2_boilerAt_0 : decode cX2_boilerAt 0 = .ok (.iload_n 1, 1) := by decide +kernel
theorem dX2_boilerAt_1 : decode cX2_boilerAt 1 = .ok (.ifCond .lt 24, 3) := by decide +kernel
theorem dX2_boilerAt_4 : decode cX2_boilerAt 4 = .ok (.iload_n 1, 1) := by decide +kernel
theorem dX2_boilerAt_5 : decode cX2_boilerAt 5 = .ok (.aload_n 0, 1) := by decide +kernel
theorem dX2_boilerAt_6 : decode cX2_boilerAt 6 = .ok (.getfield 32, 3) := by decide +kernel
theorem dX2_boilerAt_9 : decode cX2_boilerAt 9 = .ok (.if_icmp .ge 16, 3) := by decide +kernel
theorem dX2_boilerAt_12 : decode cX2_boilerAt 12 = .ok (.iload_n 1, 1) := by decide +kernel
theorem dX2_boilerAt_13 : decode cX2_boilerAt 13 = .ok (.aload_n 0, 1) := by decide +kernel
theorem dX2_boilerAt_14 : decode cX2_boilerAt 14 = .ok (.getfield 11, 3) := by decide +kernel
theorem dX2_boilerAt_17 : decode cX2_boilerAt 17 = .ok (.arraylength, 1) := by decide +kernel
theorem dX2_boilerAt_18 : decode cX2_boilerAt 18 = .ok (.if_icmp .ge 7, 3) := by decide +kernel
theorem dX2_boilerAt_21 : decode cX2_boilerAt 21 = .ok (.iconst 1, 1) := by decide +kernel
theorem dX2_boilerAt_22 : decode cX2_boilerAt 22 = .ok (.goto 4, 3) := by decide +kernel
theorem dX2_boilerAt_25 : decode cX2_boilerAt 25 = .ok (.iconst 0, 1) := by decide +kernel
theorem dX2_boilerAt_26 : decode cX2_boilerAt 26 = .ok (.istore_n 2, 1) := by decide +kernel
theorem dX2_boilerAt_27 : decode cX2_boilerAt 27 = .ok (.iload_n 2, 1) := by decide +kernel
theorem dX2_boilerAt_28 : decode cX2_boilerAt 28 = .ok (.ifCond .eq 12, 3) := by decide +kernel
theorem dX2_boilerAt_31 : decode cX2_boilerAt 31 = .ok (.aload_n 0, 1) := by decide +kernel
theorem dX2_boilerAt_32 : decode cX2_boilerAt 32 = .ok (.getfield 11, 3) := by decide +kernel
theorem dX2_boilerAt_35 : decode cX2_boilerAt 35 = .ok (.iload_n 1, 1) := by decide +kernel
theorem dX2_boilerAt_36 : decode cX2_boilerAt 36 = .ok (.aaload, 1) := by decide +kernel
theorem dX2_boilerAt_37 : decode cX2_boilerAt 37 = .ok (.goto 4, 3) := by decide +kernel
theorem dX2_boilerAt_40 : decode cX2_boilerAt 40 = .ok (.aconst_null, 1) := by decide +kernel
theorem dX2_boilerAt_41 : decode cX2_boilerAt 41 = .ok (.areturn, 1) := by decide +kernel
theorem dX2_inspectorAt_0 : decode cX2_inspectorAt 0 = .ok (.iload_n 1, 1) := by decide +kernel
theorem dX2_inspectorAt_1 : decode cX2_inspectorAt 1 = .ok (.ifCond .lt 24, 3) := by decide +kernel
theorem dX2_inspectorAt_4 : decode cX2_inspectorAt 4 = .ok (.iload_n 1, 1) := by decide +kernel
theorem dX2_inspectorAt_5 : decode cX2_inspectorAt 5 = .ok (.aload_n 0, 1) := by decide +kernel
theorem dX2_inspectorAt_6 : decode cX2_inspectorAt 6 = .ok (.getfield 36, 3) := by decide +kernel
theorem dX2_inspectorAt_9 : decode cX2_inspectorAt 9 = .ok (.if_icmp .ge 16, 3) := by decide +kernel
theorem dX2_inspectorAt_12 : decode cX2_inspectorAt 12 = .ok (.iload_n 1, 1) := by decide +kernel
theorem dX2_inspectorAt_13 : decode cX2_inspectorAt 13 = .ok (.aload_n 0, 1) := by decide +kernel
theorem dX2_inspectorAt_14 : decode cX2_inspectorAt 14 = .ok (.getfield 19, 3) := by decide +kernel
theorem dX2_inspectorAt_17 : decode cX2_inspectorAt 17 = .ok (.arraylength, 1) := by decide +kernel
theorem dX2_inspectorAt_18 : decode cX2_inspectorAt 18 = .ok (.if_icmp .ge 7, 3) := by decide +kernel
theorem dX2_inspectorAt_21 : decode cX2_inspectorAt 21 = .ok (.iconst 1, 1) := by decide +kernel
theorem dX2_inspectorAt_22 : decode cX2_inspectorAt 22 = .ok (.goto 4, 3) := by decide +kernel
theorem dX2_inspectorAt_25 : decode cX2_inspectorAt 25 = .ok (.iconst 0, 1) := by decide +kernel
theorem dX2_inspectorAt_26 : decode cX2_inspectorAt 26 = .ok (.istore_n 2, 1) := by decide +kernel
theorem dX2_inspectorAt_27 : decode cX2_inspectorAt 27 = .ok (.iload_n 2, 1) := by decide +kernel
theorem dX2_inspectorAt_28 : decode cX2_inspectorAt 28 = .ok (.ifCond .eq 12, 3) := by decide +kernel
theorem dX2_inspectorAt_31 : decode cX2_inspectorAt 31 = .ok (.aload_n 0, 1) := by decide +kernel
theorem dX2_inspectorAt_32 : decode cX2_inspectorAt 32 = .ok (.getfield 19, 3) := by decide +kernel
theorem dX2_inspectorAt_35 : decode cX2_inspectorAt 35 = .ok (.iload_n 1, 1) := by decide +kernel
theorem dX2_inspectorAt_36 : decode cX2_inspectorAt 36 = .ok (.aaload, 1) := by decide +kernel
theorem dX2_inspectorAt_37 : decode cX2_inspectorAt 37 = .ok (.goto 4, 3) := by decide +kernel
theorem dX2_inspectorAt_40 : decode cX2_inspectorAt 40 = .ok (.aconst_null, 1) := by decide +kernel
theorem dX2_inspectorAt_41 : decode cX2_inspectorAt 41 = .ok (.areturn, 1) := by decide +kernel
theorem dX2_settingAt_0 : decode cX2_settingAt 0 = .ok (.iload_n 1, 1) := by decide +kernel
theorem dX2_settingAt_1 : decode cX2_settingAt 1 = .ok (.ifCond .lt 16, 3) := by decide +kernel
theorem dX2_settingAt_4 : decode cX2_settingAt 4 = .ok (.iload_n 1, 1) := by decide +kernel
theorem dX2_settingAt_5 : decode cX2_settingAt 5 = .ok (.aload_n 0, 1) := by decide +kernel
theorem dX2_settingAt_6 : decode cX2_settingAt 6 = .ok (.getfield 23, 3) := by decide +kernel
theorem dX2_settingAt_9 : decode cX2_settingAt 9 = .ok (.arraylength, 1) := by decide +kernel
theorem dX2_settingAt_10 : decode cX2_settingAt 10 = .ok (.if_icmp .ge 7, 3) := by decide +kernel
theorem dX2_settingAt_13 : decode cX2_settingAt 13 = .ok (.iconst 1, 1) := by decide +kernel
theorem dX2_settingAt_14 : decode cX2_settingAt 14 = .ok (.goto 4, 3) := by decide +kernel
theorem dX2_settingAt_17 : decode cX2_settingAt 17 = .ok (.iconst 0, 1) := by decide +kernel
theorem dX2_settingAt_18 : decode cX2_settingAt 18 = .ok (.istore_n 2, 1) := by decide +kernel
theorem dX2_settingAt_19 : decode cX2_settingAt 19 = .ok (.iload_n 2, 1) := by decide +kernel
theorem dX2_settingAt_20 : decode cX2_settingAt 20 = .ok (.ifCond .eq 12, 3) := by decide +kernel
theorem dX2_settingAt_23 : decode cX2_settingAt 23 = .ok (.aload_n 0, 1) := by decide +kernel
theorem dX2_settingAt_24 : decode cX2_settingAt 24 = .ok (.getfield 23, 3) := by decide +kernel
theorem dX2_settingAt_27 : decode cX2_settingAt 27 = .ok (.iload_n 1, 1) := by decide +kernel
theorem dX2_settingAt_28 : decode cX2_settingAt 28 = .ok (.iaload, 1) := by decide +kernel
theorem dX2_settingAt_29 : decode cX2_settingAt 29 = .ok (.goto 5, 3) := by decide +kernel
theorem dX2_settingAt_32 : decode cX2_settingAt 32 = .ok (.ldc 67, 2) := by decide +kernel
theorem dX2_settingAt_34 : decode cX2_settingAt 34 = .ok (.ireturn, 1) := by decide +kernel
theorem dX2_balanceOf_0 : decode cX2_balanceOf 0 = .ok (.iload_n 1, 1) := by decide +kernel
theorem dX2_balanceOf_1 : decode cX2_balanceOf 1 = .ok (.ifCond .lt 16, 3) := by decide +kernel
theorem dX2_balanceOf_4 : decode cX2_balanceOf 4 = .ok (.iload_n 1, 1) := by decide +kernel
theorem dX2_balanceOf_5 : decode cX2_balanceOf 5 = .ok (.aload_n 0, 1) := by decide +kernel
theorem dX2_balanceOf_6 : decode cX2_balanceOf 6 = .ok (.getfield 27, 3) := by decide +kernel
theorem dX2_balanceOf_9 : decode cX2_balanceOf 9 = .ok (.arraylength, 1) := by decide +kernel
theorem dX2_balanceOf_10 : decode cX2_balanceOf 10 = .ok (.if_icmp .ge 7, 3) := by decide +kernel
theorem dX2_balanceOf_13 : decode cX2_balanceOf 13 = .ok (.iconst 1, 1) := by decide +kernel
theorem dX2_balanceOf_14 : decode cX2_balanceOf 14 = .ok (.goto 4, 3) := by decide +kernel
theorem dX2_balanceOf_17 : decode cX2_balanceOf 17 = .ok (.iconst 0, 1) := by decide +kernel
theorem dX2_balanceOf_18 : decode cX2_balanceOf 18 = .ok (.istore_n 2, 1) := by decide +kernel
theorem dX2_balanceOf_19 : decode cX2_balanceOf 19 = .ok (.iload_n 2, 1) := by decide +kernel
theorem dX2_balanceOf_20 : decode cX2_balanceOf 20 = .ok (.ifCond .eq 12, 3) := by decide +kernel
theorem dX2_balanceOf_23 : decode cX2_balanceOf 23 = .ok (.aload_n 0, 1) := by decide +kernel
theorem dX2_balanceOf_24 : decode cX2_balanceOf 24 = .ok (.getfield 27, 3) := by decide +kernel
theorem dX2_balanceOf_27 : decode cX2_balanceOf 27 = .ok (.iload_n 1, 1) := by decide +kernel
theorem dX2_balanceOf_28 : decode cX2_balanceOf 28 = .ok (.iaload, 1) := by decide +kernel
theorem dX2_balanceOf_29 : decode cX2_balanceOf 29 = .ok (.goto 5, 3) := by decide +kernel
theorem dX2_balanceOf_32 : decode cX2_balanceOf 32 = .ok (.ldc 67, 2) := by decide +kernel
theorem dX2_balanceOf_34 : decode cX2_balanceOf 34 = .ok (.ireturn, 1) := by decide +kernel
theorem dX2_ownerPays_0 : decode cX2_ownerPays 0 = .ok (.iload_n 1, 1) := by decide +kernel
theorem dX2_ownerPays_1 : decode cX2_ownerPays 1 = .ok (.ifCond .lt 21, 3) := by decide +kernel
theorem dX2_ownerPays_4 : decode cX2_ownerPays 4 = .ok (.iload_n 1, 1) := by decide +kernel
theorem dX2_ownerPays_5 : decode cX2_ownerPays 5 = .ok (.aload_n 0, 1) := by decide +kernel
theorem dX2_ownerPays_6 : decode cX2_ownerPays 6 = .ok (.getfield 27, 3) := by decide +kernel
theorem dX2_ownerPays_9 : decode cX2_ownerPays 9 = .ok (.arraylength, 1) := by decide +kernel
theorem dX2_ownerPays_10 : decode cX2_ownerPays 10 = .ok (.if_icmp .ge 12, 3) := by decide +kernel
theorem dX2_ownerPays_13 : decode cX2_ownerPays 13 = .ok (.iconst 3, 1) := by decide +kernel
theorem dX2_ownerPays_14 : decode cX2_ownerPays 14 = .ok (.aload_n 0, 1) := by decide +kernel
theorem dX2_ownerPays_15 : decode cX2_ownerPays 15 = .ok (.getfield 27, 3) := by decide +kernel
theorem dX2_ownerPays_18 : decode cX2_ownerPays 18 = .ok (.arraylength, 1) := by decide +kernel
theorem dX2_ownerPays_19 : decode cX2_ownerPays 19 = .ok (.if_icmp .lt 4, 3) := by decide +kernel
theorem dX2_ownerPays_22 : decode cX2_ownerPays 22 = .ok (.return_, 1) := by decide +kernel
theorem dX2_ownerPays_23 : decode cX2_ownerPays 23 = .ok (.aload_n 0, 1) := by decide +kernel
theorem dX2_ownerPays_24 : decode cX2_ownerPays 24 = .ok (.getfield 27, 3) := by decide +kernel
theorem dX2_ownerPays_27 : decode cX2_ownerPays 27 = .ok (.iconst 3, 1) := by decide +kernel
theorem dX2_ownerPays_28 : decode cX2_ownerPays 28 = .ok (.dup2, 1) := by decide +kernel
theorem dX2_ownerPays_29 : decode cX2_ownerPays 29 = .ok (.iaload, 1) := by decide +kernel
theorem dX2_ownerPays_30 : decode cX2_ownerPays 30 = .ok (.iload_n 2, 1) := by decide +kernel
theorem dX2_ownerPays_31 : decode cX2_ownerPays 31 = .ok (.isub, 1) := by decide +kernel
theorem dX2_ownerPays_32 : decode cX2_ownerPays 32 = .ok (.iastore, 1) := by decide +kernel
theorem dX2_ownerPays_33 : decode cX2_ownerPays 33 = .ok (.aload_n 0, 1) := by decide +kernel
theorem dX2_ownerPays_34 : decode cX2_ownerPays 34 = .ok (.getfield 27, 3) := by decide +kernel
theorem dX2_ownerPays_37 : decode cX2_ownerPays 37 = .ok (.iload_n 1, 1) := by decide +kernel
theorem dX2_ownerPays_38 : decode cX2_ownerPays 38 = .ok (.dup2, 1) := by decide +kernel
theorem dX2_ownerPays_39 : decode cX2_ownerPays 39 = .ok (.iaload, 1) := by decide +kernel
theorem dX2_ownerPays_40 : decode cX2_ownerPays 40 = .ok (.iload_n 2, 1) := by decide +kernel
theorem dX2_ownerPays_41 : decode cX2_ownerPays 41 = .ok (.iadd, 1) := by decide +kernel
theorem dX2_ownerPays_42 : decode cX2_ownerPays 42 = .ok (.iastore, 1) := by decide +kernel
theorem dX2_ownerPays_43 : decode cX2_ownerPays 43 = .ok (.return_, 1) := by decide +kernel
theorem dX2_addBoiler_0 : decode cX2_addBoiler 0 = .ok (.iload_n 1, 1) := by decide +kernel
theorem dX2_addBoiler_1 : decode cX2_addBoiler 1 = .ok (.iconst 2, 1) := by decide +kernel
theorem dX2_addBoiler_2 : decode cX2_addBoiler 2 = .ok (.if_icmp .lt 9, 3) := by decide +kernel
theorem dX2_addBoiler_5 : decode cX2_addBoiler 5 = .ok (.iload_n 1, 1) := by decide +kernel
theorem dX2_addBoiler_6 : decode cX2_addBoiler 6 = .ok (.bipush 40, 2) := by decide +kernel
theorem dX2_addBoiler_8 : decode cX2_addBoiler 8 = .ok (.if_icmp .le 6, 3) := by decide +kernel
theorem dX2_addBoiler_11 : decode cX2_addBoiler 11 = .ok (.ldc 67, 2) := by decide +kernel
theorem dX2_addBoiler_13 : decode cX2_addBoiler 13 = .ok (.ireturn, 1) := by decide +kernel
theorem dX2_addBoiler_14 : decode cX2_addBoiler 14 = .ok (.aload_n 0, 1) := by decide +kernel
theorem dX2_addBoiler_15 : decode cX2_addBoiler 15 = .ok (.getfield 32, 3) := by decide +kernel
theorem dX2_addBoiler_18 : decode cX2_addBoiler 18 = .ok (.bipush 8, 2) := by decide +kernel
theorem dX2_addBoiler_20 : decode cX2_addBoiler 20 = .ok (.if_icmp .lt 6, 3) := by decide +kernel
theorem dX2_addBoiler_23 : decode cX2_addBoiler 23 = .ok (.ldc 68, 2) := by decide +kernel
theorem dX2_addBoiler_25 : decode cX2_addBoiler 25 = .ok (.ireturn, 1) := by decide +kernel
theorem dX2_addBoiler_26 : decode cX2_addBoiler 26 = .ok (.aload_n 0, 1) := by decide +kernel
theorem dX2_addBoiler_27 : decode cX2_addBoiler 27 = .ok (.getfield 32, 3) := by decide +kernel
theorem dX2_addBoiler_30 : decode cX2_addBoiler 30 = .ok (.istore_n 2, 1) := by decide +kernel
theorem dX2_addBoiler_31 : decode cX2_addBoiler 31 = .ok (.aload_n 0, 1) := by decide +kernel
theorem dX2_addBoiler_32 : decode cX2_addBoiler 32 = .ok (.dup, 1) := by decide +kernel
theorem dX2_addBoiler_33 : decode cX2_addBoiler 33 = .ok (.getfield 32, 3) := by decide +kernel
theorem dX2_addBoiler_36 : decode cX2_addBoiler 36 = .ok (.iconst 1, 1) := by decide +kernel
theorem dX2_addBoiler_37 : decode cX2_addBoiler 37 = .ok (.iadd, 1) := by decide +kernel
theorem dX2_addBoiler_38 : decode cX2_addBoiler 38 = .ok (.putfield 32, 3) := by decide +kernel
theorem dX2_addBoiler_41 : decode cX2_addBoiler 41 = .ok (.aload_n 0, 1) := by decide +kernel
theorem dX2_addBoiler_42 : decode cX2_addBoiler 42 = .ok (.iload_n 2, 1) := by decide +kernel
theorem dX2_addBoiler_43 : decode cX2_addBoiler 43 = .ok (.invokevirtual 52, 3) := by decide +kernel
theorem dX2_addBoiler_46 : decode cX2_addBoiler 46 = .ok (.astore_n 3, 1) := by decide +kernel
theorem dX2_addBoiler_47 : decode cX2_addBoiler 47 = .ok (.aload_n 3, 1) := by decide +kernel
theorem dX2_addBoiler_48 : decode cX2_addBoiler 48 = .ok (.ifnull 8, 3) := by decide +kernel
theorem dX2_addBoiler_51 : decode cX2_addBoiler 51 = .ok (.aload_n 3, 1) := by decide +kernel
theorem dX2_addBoiler_52 : decode cX2_addBoiler 52 = .ok (.iload_n 1, 1) := by decide +kernel
theorem dX2_addBoiler_53 : decode cX2_addBoiler 53 = .ok (.invokevirtual 69, 3) := by decide +kernel
theorem dX2_addBoiler_56 : decode cX2_addBoiler 56 = .ok (.iload_n 2, 1) := by decide +kernel
theorem dX2_addBoiler_57 : decode cX2_addBoiler 57 = .ok (.ireturn, 1) := by decide +kernel
theorem dX2_addInspector_0 : decode cX2_addInspector 0 = .ok (.iload_n 1, 1) := by decide +kernel
theorem dX2_addInspector_1 : decode cX2_addInspector 1 = .ok (.invokestatic 73, 3) := by decide +kernel
theorem dX2_addInspector_4 : decode cX2_addInspector 4 = .ok (.ifCond .eq 13, 3) := by decide +kernel
theorem dX2_addInspector_7 : decode cX2_addInspector 7 = .ok (.iload_n 2, 1) := by decide +kernel
theorem dX2_addInspector_8 : decode cX2_addInspector 8 = .ok (.iconst 1, 1) := by decide +kernel
theorem dX2_addInspector_9 : decode cX2_addInspector 9 = .ok (.if_icmp .lt 8, 3) := by decide +kernel
theorem dX2_addInspector_12 : decode cX2_addInspector 12 = .ok (.iload_n 2, 1) := by decide +kernel
theorem dX2_addInspector_13 : decode cX2_addInspector 13 = .ok (.iconst 3, 1) := by decide +kernel
theorem dX2_addInspector_14 : decode cX2_addInspector 14 = .ok (.if_icmp .le 6, 3) := by decide +kernel
theorem dX2_addInspector_17 : decode cX2_addInspector 17 = .ok (.ldc 67, 2) := by decide +kernel
theorem dX2_addInspector_19 : decode cX2_addInspector 19 = .ok (.ireturn, 1) := by decide +kernel
theorem dX2_addInspector_20 : decode cX2_addInspector 20 = .ok (.aload_n 0, 1) := by decide +kernel
theorem dX2_addInspector_21 : decode cX2_addInspector 21 = .ok (.getfield 36, 3) := by decide +kernel
theorem dX2_addInspector_24 : decode cX2_addInspector 24 = .ok (.bipush 6, 2) := by decide +kernel
theorem dX2_addInspector_26 : decode cX2_addInspector 26 = .ok (.if_icmp .lt 6, 3) := by decide +kernel
theorem dX2_addInspector_29 : decode cX2_addInspector 29 = .ok (.ldc 68, 2) := by decide +kernel
theorem dX2_addInspector_31 : decode cX2_addInspector 31 = .ok (.ireturn, 1) := by decide +kernel
theorem dX2_addInspector_32 : decode cX2_addInspector 32 = .ok (.aload_n 0, 1) := by decide +kernel
theorem dX2_addInspector_33 : decode cX2_addInspector 33 = .ok (.getfield 36, 3) := by decide +kernel
theorem dX2_addInspector_36 : decode cX2_addInspector 36 = .ok (.istore_n 3, 1) := by decide +kernel
theorem dX2_addInspector_37 : decode cX2_addInspector 37 = .ok (.aload_n 0, 1) := by decide +kernel
theorem dX2_addInspector_38 : decode cX2_addInspector 38 = .ok (.dup, 1) := by decide +kernel
theorem dX2_addInspector_39 : decode cX2_addInspector 39 = .ok (.getfield 36, 3) := by decide +kernel
theorem dX2_addInspector_42 : decode cX2_addInspector 42 = .ok (.iconst 1, 1) := by decide +kernel
theorem dX2_addInspector_43 : decode cX2_addInspector 43 = .ok (.iadd, 1) := by decide +kernel
theorem dX2_addInspector_44 : decode cX2_addInspector 44 = .ok (.putfield 36, 3) := by decide +kernel
theorem dX2_addInspector_47 : decode cX2_addInspector 47 = .ok (.aload_n 0, 1) := by decide +kernel
theorem dX2_addInspector_48 : decode cX2_addInspector 48 = .ok (.iload_n 3, 1) := by decide +kernel
theorem dX2_addInspector_49 : decode cX2_addInspector 49 = .ok (.invokevirtual 60, 3) := by decide +kernel
theorem dX2_addInspector_52 : decode cX2_addInspector 52 = .ok (.astore 4, 2) := by decide +kernel
theorem dX2_addInspector_54 : decode cX2_addInspector 54 = .ok (.aload 4, 2) := by decide +kernel
theorem dX2_addInspector_56 : decode cX2_addInspector 56 = .ok (.ifnull 10, 3) := by decide +kernel
theorem dX2_addInspector_59 : decode cX2_addInspector 59 = .ok (.aload 4, 2) := by decide +kernel
theorem dX2_addInspector_61 : decode cX2_addInspector 61 = .ok (.iload_n 1, 1) := by decide +kernel
theorem dX2_addInspector_62 : decode cX2_addInspector 62 = .ok (.iload_n 2, 1) := by decide +kernel
theorem dX2_addInspector_63 : decode cX2_addInspector 63 = .ok (.invokevirtual 77, 3) := by decide +kernel
theorem dX2_addInspector_66 : decode cX2_addInspector 66 = .ok (.iload_n 3, 1) := by decide +kernel
theorem dX2_addInspector_67 : decode cX2_addInspector 67 = .ok (.ireturn, 1) := by decide +kernel
theorem dX2_changePressure_0 : decode cX2_changePressure 0 = .ok (.aload_n 0, 1) := by decide +kernel
theorem dX2_changePressure_1 : decode cX2_changePressure 1 = .ok (.iload_n 1, 1) := by decide +kernel
theorem dX2_changePressure_2 : decode cX2_changePressure 2 = .ok (.invokevirtual 52, 3) := by decide +kernel
theorem dX2_changePressure_5 : decode cX2_changePressure 5 = .ok (.astore_n 3, 1) := by decide +kernel
theorem dX2_changePressure_6 : decode cX2_changePressure 6 = .ok (.aload_n 3, 1) := by decide +kernel
theorem dX2_changePressure_7 : decode cX2_changePressure 7 = .ok (.ifnull 16, 3) := by decide +kernel
theorem dX2_changePressure_10 : decode cX2_changePressure 10 = .ok (.iload_n 2, 1) := by decide +kernel
theorem dX2_changePressure_11 : decode cX2_changePressure 11 = .ok (.iconst 1, 1) := by decide +kernel
theorem dX2_changePressure_12 : decode cX2_changePressure 12 = .ok (.if_icmp .lt 11, 3) := by decide +kernel
theorem dX2_changePressure_15 : decode cX2_changePressure 15 = .ok (.iload_n 2, 1) := by decide +kernel
theorem dX2_changePressure_16 : decode cX2_changePressure 16 = .ok (.aload_n 3, 1) := by decide +kernel
theorem dX2_changePressure_17 : decode cX2_changePressure 17 = .ok (.getfield 80, 3) := by decide +kernel
theorem dX2_changePressure_20 : decode cX2_changePressure 20 = .ok (.if_icmp .le 6, 3) := by decide +kernel
theorem dX2_changePressure_23 : decode cX2_changePressure 23 = .ok (.ldc 67, 2) := by decide +kernel
theorem dX2_changePressure_25 : decode cX2_changePressure 25 = .ok (.ireturn, 1) := by decide +kernel
theorem dX2_changePressure_26 : decode cX2_changePressure 26 = .ok (.aload_n 3, 1) := by decide +kernel
theorem dX2_changePressure_27 : decode cX2_changePressure 27 = .ok (.getfield 83, 3) := by decide +kernel
theorem dX2_changePressure_30 : decode cX2_changePressure 30 = .ok (.iconst 1, 1) := by decide +kernel
theorem dX2_changePressure_31 : decode cX2_changePressure 31 = .ok (.if_icmp .ne 14, 3) := by decide +kernel
theorem dX2_changePressure_34 : decode cX2_changePressure 34 = .ok (.iload_n 2, 1) := by decide +kernel
theorem dX2_changePressure_35 : decode cX2_changePressure 35 = .ok (.aload_n 3, 1) := by decide +kernel
theorem dX2_changePressure_36 : decode cX2_changePressure 36 = .ok (.getfield 86, 3) := by decide +kernel
theorem dX2_changePressure_39 : decode cX2_changePressure 39 = .ok (.if_icmp .le 6, 3) := by decide +kernel
theorem dX2_changePressure_42 : decode cX2_changePressure 42 = .ok (.ldc 89, 2) := by decide +kernel
theorem dX2_changePressure_44 : decode cX2_changePressure 44 = .ok (.ireturn, 1) := by decide +kernel
theorem dX2_changePressure_45 : decode cX2_changePressure 45 = .ok (.aload_n 3, 1) := by decide +kernel
theorem dX2_changePressure_46 : decode cX2_changePressure 46 = .ok (.getfield 90, 3) := by decide +kernel
theorem dX2_changePressure_49 : decode cX2_changePressure 49 = .ok (.istore 4, 2) := by decide +kernel
theorem dX2_changePressure_51 : decode cX2_changePressure 51 = .ok (.aload_n 3, 1) := by decide +kernel
theorem dX2_changePressure_52 : decode cX2_changePressure 52 = .ok (.iload_n 2, 1) := by decide +kernel
theorem dX2_changePressure_53 : decode cX2_changePressure 53 = .ok (.putfield 90, 3) := by decide +kernel
theorem dX2_changePressure_56 : decode cX2_changePressure 56 = .ok (.iload 4, 2) := by decide +kernel
theorem dX2_changePressure_58 : decode cX2_changePressure 58 = .ok (.ireturn, 1) := by decide +kernel
theorem dX2_examine_0 : decode cX2_examine 0 = .ok (.aload_n 0, 1) := by decide +kernel
theorem dX2_examine_1 : decode cX2_examine 1 = .ok (.iload_n 1, 1) := by decide +kernel
theorem dX2_examine_2 : decode cX2_examine 2 = .ok (.invokevirtual 52, 3) := by decide +kernel
theorem dX2_examine_5 : decode cX2_examine 5 = .ok (.astore_n 3, 1) := by decide +kernel
theorem dX2_examine_6 : decode cX2_examine 6 = .ok (.aload_n 0, 1) := by decide +kernel
theorem dX2_examine_7 : decode cX2_examine 7 = .ok (.iload_n 2, 1) := by decide +kernel
theorem dX2_examine_8 : decode cX2_examine 8 = .ok (.invokevirtual 60, 3) := by decide +kernel
theorem dX2_examine_11 : decode cX2_examine 11 = .ok (.astore 4, 2) := by decide +kernel
theorem dX2_examine_13 : decode cX2_examine 13 = .ok (.aload_n 3, 1) := by decide +kernel
theorem dX2_examine_14 : decode cX2_examine 14 = .ok (.ifnull 8, 3) := by decide +kernel
theorem dX2_examine_17 : decode cX2_examine 17 = .ok (.aload 4, 2) := by decide +kernel
theorem dX2_examine_19 : decode cX2_examine 19 = .ok (.ifnonnull 6, 3) := by decide +kernel
theorem dX2_examine_22 : decode cX2_examine 22 = .ok (.ldc 67, 2) := by decide +kernel
theorem dX2_examine_24 : decode cX2_examine 24 = .ok (.ireturn, 1) := by decide +kernel
theorem dX2_examine_25 : decode cX2_examine 25 = .ok (.aload_n 3, 1) := by decide +kernel
theorem dX2_examine_26 : decode cX2_examine 26 = .ok (.aload 4, 2) := by decide +kernel
theorem dX2_examine_28 : decode cX2_examine 28 = .ok (.invokevirtual 93, 3) := by decide +kernel
theorem dX2_examine_31 : decode cX2_examine 31 = .ok (.ifCond .eq 6, 3) := by decide +kernel
theorem dX2_examine_34 : decode cX2_examine 34 = .ok (.ldc 89, 2) := by decide +kernel
theorem dX2_examine_36 : decode cX2_examine 36 = .ok (.ireturn, 1) := by decide +kernel
theorem dX2_examine_37 : decode cX2_examine 37 = .ok (.aload_n 0, 1) := by decide +kernel
theorem dX2_examine_38 : decode cX2_examine 38 = .ok (.aload_n 3, 1) := by decide +kernel
theorem dX2_examine_39 : decode cX2_examine 39 = .ok (.aload 4, 2) := by decide +kernel
theorem dX2_examine_41 : decode cX2_examine 41 = .ok (.getfield 97, 3) := by decide +kernel
theorem dX2_examine_44 : decode cX2_examine 44 = .ok (.invokevirtual 100, 3) := by decide +kernel
theorem dX2_examine_47 : decode cX2_examine 47 = .ok (.istore 5, 2) := by decide +kernel
theorem dX2_examine_49 : decode cX2_examine 49 = .ok (.iload 5, 2) := by decide +kernel
theorem dX2_examine_51 : decode cX2_examine 51 = .ok (.ifCond .le 31, 3) := by decide +kernel
theorem dX2_examine_54 : decode cX2_examine 54 = .ok (.aload_n 0, 1) := by decide +kernel
theorem dX2_examine_55 : decode cX2_examine 55 = .ok (.aload_n 3, 1) := by decide +kernel
theorem dX2_examine_56 : decode cX2_examine 56 = .ok (.aload 4, 2) := by decide +kernel
theorem dX2_examine_58 : decode cX2_examine 58 = .ok (.getfield 97, 3) := by decide +kernel
theorem dX2_examine_61 : decode cX2_examine 61 = .ok (.invokevirtual 104, 3) := by decide +kernel
theorem dX2_examine_64 : decode cX2_examine 64 = .ok (.istore 6, 2) := by decide +kernel
theorem dX2_examine_66 : decode cX2_examine 66 = .ok (.aload_n 3, 1) := by decide +kernel
theorem dX2_examine_67 : decode cX2_examine 67 = .ok (.aload 4, 2) := by decide +kernel
theorem dX2_examine_69 : decode cX2_examine 69 = .ok (.getfield 97, 3) := by decide +kernel
theorem dX2_examine_72 : decode cX2_examine 72 = .ok (.iload 5, 2) := by decide +kernel
theorem dX2_examine_74 : decode cX2_examine 74 = .ok (.iload 6, 2) := by decide +kernel
theorem dX2_examine_76 : decode cX2_examine 76 = .ok (.invokevirtual 107, 3) := by decide +kernel
theorem dX2_examine_79 : decode cX2_examine 79 = .ok (.goto 7, 3) := by decide +kernel
theorem dX2_examine_82 : decode cX2_examine 82 = .ok (.aload_n 3, 1) := by decide +kernel
theorem dX2_examine_83 : decode cX2_examine 83 = .ok (.invokevirtual 111, 3) := by decide +kernel
theorem dX2_examine_86 : decode cX2_examine 86 = .ok (.aload 4, 2) := by decide +kernel
theorem dX2_examine_88 : decode cX2_examine 88 = .ok (.iload 5, 2) := by decide +kernel
theorem dX2_examine_90 : decode cX2_examine 90 = .ok (.ifCond .le 7, 3) := by decide +kernel
theorem dX2_examine_93 : decode cX2_examine 93 = .ok (.iconst 1, 1) := by decide +kernel
theorem dX2_examine_94 : decode cX2_examine 94 = .ok (.goto 4, 3) := by decide +kernel
theorem dX2_examine_97 : decode cX2_examine 97 = .ok (.iconst 0, 1) := by decide +kernel
theorem dX2_examine_98 : decode cX2_examine 98 = .ok (.invokevirtual 114, 3) := by decide +kernel
theorem dX2_examine_101 : decode cX2_examine 101 = .ok (.aload_n 0, 1) := by decide +kernel
theorem dX2_examine_102 : decode cX2_examine 102 = .ok (.aload 4, 2) := by decide +kernel
theorem dX2_examine_104 : decode cX2_examine 104 = .ok (.getfield 97, 3) := by decide +kernel
theorem dX2_examine_107 : decode cX2_examine 107 = .ok (.aload_n 0, 1) := by decide +kernel
theorem dX2_examine_108 : decode cX2_examine 108 = .ok (.iconst 2, 1) := by decide +kernel
theorem dX2_examine_109 : decode cX2_examine 109 = .ok (.invokevirtual 118, 3) := by decide +kernel
theorem dX2_examine_112 : decode cX2_examine 112 = .ok (.invokevirtual 122, 3) := by decide +kernel
theorem dX2_examine_115 : decode cX2_examine 115 = .ok (.iload 5, 2) := by decide +kernel
theorem dX2_examine_117 : decode cX2_examine 117 = .ok (.ireturn, 1) := by decide +kernel
theorem dX2_light_0 : decode cX2_light 0 = .ok (.aload_n 0, 1) := by decide +kernel
theorem dX2_light_1 : decode cX2_light 1 = .ok (.iload_n 1, 1) := by decide +kernel
theorem dX2_light_2 : decode cX2_light 2 = .ok (.invokevirtual 52, 3) := by decide +kernel
theorem dX2_light_5 : decode cX2_light 5 = .ok (.astore_n 2, 1) := by decide +kernel
theorem dX2_light_6 : decode cX2_light 6 = .ok (.aload_n 2, 1) := by decide +kernel
theorem dX2_light_7 : decode cX2_light 7 = .ok (.ifnonnull 6, 3) := by decide +kernel
theorem dX2_light_10 : decode cX2_light 10 = .ok (.ldc 67, 2) := by decide +kernel
theorem dX2_light_12 : decode cX2_light 12 = .ok (.ireturn, 1) := by decide +kernel
theorem dX2_light_13 : decode cX2_light 13 = .ok (.aload_n 2, 1) := by decide +kernel
theorem dX2_light_14 : decode cX2_light 14 = .ok (.aload_n 0, 1) := by decide +kernel
theorem dX2_light_15 : decode cX2_light 15 = .ok (.getfield 39, 3) := by decide +kernel
theorem dX2_light_18 : decode cX2_light 18 = .ok (.invokevirtual 125, 3) := by decide +kernel
theorem dX2_light_21 : decode cX2_light 21 = .ok (.ifCond .eq 6, 3) := by decide +kernel
theorem dX2_light_24 : decode cX2_light 24 = .ok (.ldc 89, 2) := by decide +kernel
theorem dX2_light_26 : decode cX2_light 26 = .ok (.ireturn, 1) := by decide +kernel
theorem dX2_light_27 : decode cX2_light 27 = .ok (.aload_n 2, 1) := by decide +kernel
theorem dX2_light_28 : decode cX2_light 28 = .ok (.iconst 1, 1) := by decide +kernel
theorem dX2_light_29 : decode cX2_light 29 = .ok (.putfield 83, 3) := by decide +kernel
theorem dX2_light_32 : decode cX2_light 32 = .ok (.aload_n 2, 1) := by decide +kernel
theorem dX2_light_33 : decode cX2_light 33 = .ok (.getfield 128, 3) := by decide +kernel
theorem dX2_light_36 : decode cX2_light 36 = .ok (.aload_n 0, 1) := by decide +kernel
theorem dX2_light_37 : decode cX2_light 37 = .ok (.getfield 39, 3) := by decide +kernel
theorem dX2_light_40 : decode cX2_light 40 = .ok (.isub, 1) := by decide +kernel
theorem dX2_light_41 : decode cX2_light 41 = .ok (.iconst 1, 1) := by decide +kernel
theorem dX2_light_42 : decode cX2_light 42 = .ok (.iadd, 1) := by decide +kernel
theorem dX2_light_43 : decode cX2_light 43 = .ok (.ireturn, 1) := by decide +kernel
theorem dX2_putOut_0 : decode cX2_putOut 0 = .ok (.aload_n 0, 1) := by decide +kernel
theorem dX2_putOut_1 : decode cX2_putOut 1 = .ok (.iload_n 1, 1) := by decide +kernel
theorem dX2_putOut_2 : decode cX2_putOut 2 = .ok (.invokevirtual 52, 3) := by decide +kernel
theorem dX2_putOut_5 : decode cX2_putOut 5 = .ok (.astore_n 2, 1) := by decide +kernel
theorem dX2_putOut_6 : decode cX2_putOut 6 = .ok (.aload_n 2, 1) := by decide +kernel
theorem dX2_putOut_7 : decode cX2_putOut 7 = .ok (.ifnonnull 6, 3) := by decide +kernel
theorem dX2_putOut_10 : decode cX2_putOut 10 = .ok (.ldc 67, 2) := by decide +kernel
theorem dX2_putOut_12 : decode cX2_putOut 12 = .ok (.ireturn, 1) := by decide +kernel
theorem dX2_putOut_13 : decode cX2_putOut 13 = .ok (.aload_n 2, 1) := by decide +kernel
theorem dX2_putOut_14 : decode cX2_putOut 14 = .ok (.getfield 83, 3) := by decide +kernel
theorem dX2_putOut_17 : decode cX2_putOut 17 = .ok (.iconst 1, 1) := by decide +kernel
theorem dX2_putOut_18 : decode cX2_putOut 18 = .ok (.if_icmp .eq 6, 3) := by decide +kernel
theorem dX2_putOut_21 : decode cX2_putOut 21 = .ok (.ldc 89, 2) := by decide +kernel
theorem dX2_putOut_23 : decode cX2_putOut 23 = .ok (.ireturn, 1) := by decide +kernel
theorem dX2_putOut_24 : decode cX2_putOut 24 = .ok (.aload_n 2, 1) := by decide +kernel
theorem dX2_putOut_25 : decode cX2_putOut 25 = .ok (.invokevirtual 131, 3) := by decide +kernel
theorem dX2_putOut_28 : decode cX2_putOut 28 = .ok (.aload_n 2, 1) := by decide +kernel
theorem dX2_putOut_29 : decode cX2_putOut 29 = .ok (.getfield 134, 3) := by decide +kernel
theorem dX2_putOut_32 : decode cX2_putOut 32 = .ok (.ireturn, 1) := by decide +kernel
theorem dX2_planShutdown_0 : decode cX2_planShutdown 0 = .ok (.aload_n 0, 1) := by decide +kernel
theorem dX2_planShutdown_1 : decode cX2_planShutdown 1 = .ok (.iload_n 1, 1) := by decide +kernel
theorem dX2_planShutdown_2 : decode cX2_planShutdown 2 = .ok (.invokevirtual 52, 3) := by decide +kernel
theorem dX2_planShutdown_5 : decode cX2_planShutdown 5 = .ok (.astore 4, 2) := by decide +kernel
theorem dX2_planShutdown_7 : decode cX2_planShutdown 7 = .ok (.aload 4, 2) := by decide +kernel
theorem dX2_planShutdown_9 : decode cX2_planShutdown 9 = .ok (.ifnull 18, 3) := by decide +kernel
theorem dX2_planShutdown_12 : decode cX2_planShutdown 12 = .ok (.iload_n 2, 1) := by decide +kernel
theorem dX2_planShutdown_13 : decode cX2_planShutdown 13 = .ok (.aload_n 0, 1) := by decide +kernel
theorem dX2_planShutdown_14 : decode cX2_planShutdown 14 = .ok (.getfield 39, 3) := by decide +kernel
theorem dX2_planShutdown_17 : decode cX2_planShutdown 17 = .ok (.if_icmp .lt 10, 3) := by decide +kernel
theorem dX2_planShutdown_20 : decode cX2_planShutdown 20 = .ok (.iload_n 2, 1) := by decide +kernel
theorem dX2_planShutdown_21 : decode cX2_planShutdown 21 = .ok (.sipush 9999, 3) := by decide +kernel
theorem dX2_planShutdown_24 : decode cX2_planShutdown 24 = .ok (.if_icmp .le 6, 3) := by decide +kernel
theorem dX2_planShutdown_27 : decode cX2_planShutdown 27 = .ok (.ldc 67, 2) := by decide +kernel
theorem dX2_planShutdown_29 : decode cX2_planShutdown 29 = .ok (.ireturn, 1) := by decide +kernel
theorem dX2_planShutdown_30 : decode cX2_planShutdown 30 = .ok (.iload_n 3, 1) := by decide +kernel
theorem dX2_planShutdown_31 : decode cX2_planShutdown 31 = .ok (.iconst 1, 1) := by decide +kernel
theorem dX2_planShutdown_32 : decode cX2_planShutdown 32 = .ok (.if_icmp .lt 9, 3) := by decide +kernel
theorem dX2_planShutdown_35 : decode cX2_planShutdown 35 = .ok (.iload_n 3, 1) := by decide +kernel
theorem dX2_planShutdown_36 : decode cX2_planShutdown 36 = .ok (.bipush 20, 2) := by decide +kernel
theorem dX2_planShutdown_38 : decode cX2_planShutdown 38 = .ok (.if_icmp .le 6, 3) := by decide +kernel
theorem dX2_planShutdown_41 : decode cX2_planShutdown 41 = .ok (.ldc 67, 2) := by decide +kernel
theorem dX2_planShutdown_43 : decode cX2_planShutdown 43 = .ok (.ireturn, 1) := by decide +kernel
theorem dX2_planShutdown_44 : decode cX2_planShutdown 44 = .ok (.iload_n 2, 1) := by decide +kernel
theorem dX2_planShutdown_45 : decode cX2_planShutdown 45 = .ok (.aload_n 0, 1) := by decide +kernel
theorem dX2_planShutdown_46 : decode cX2_planShutdown 46 = .ok (.getfield 39, 3) := by decide +kernel
theorem dX2_planShutdown_49 : decode cX2_planShutdown 49 = .ok (.if_icmp .ne 15, 3) := by decide +kernel
theorem dX2_planShutdown_52 : decode cX2_planShutdown 52 = .ok (.aload 4, 2) := by decide +kernel
theorem dX2_planShutdown_54 : decode cX2_planShutdown 54 = .ok (.getfield 83, 3) := by decide +kernel
theorem dX2_planShutdown_57 : decode cX2_planShutdown 57 = .ok (.iconst 1, 1) := by decide +kernel
theorem dX2_planShutdown_58 : decode cX2_planShutdown 58 = .ok (.if_icmp .ne 6, 3) := by decide +kernel
theorem dX2_planShutdown_61 : decode cX2_planShutdown 61 = .ok (.ldc 89, 2) := by decide +kernel
theorem dX2_planShutdown_63 : decode cX2_planShutdown 63 = .ok (.ireturn, 1) := by decide +kernel
theorem dX2_planShutdown_64 : decode cX2_planShutdown 64 = .ok (.aload 4, 2) := by decide +kernel
theorem dX2_planShutdown_66 : decode cX2_planShutdown 66 = .ok (.iconst 1, 1) := by decide +kernel
theorem dX2_planShutdown_67 : decode cX2_planShutdown 67 = .ok (.putfield 137, 3) := by decide +kernel
theorem dX2_planShutdown_70 : decode cX2_planShutdown 70 = .ok (.aload 4, 2) := by decide +kernel
theorem dX2_planShutdown_72 : decode cX2_planShutdown 72 = .ok (.iload_n 2, 1) := by decide +kernel
theorem dX2_planShutdown_73 : decode cX2_planShutdown 73 = .ok (.putfield 141, 3) := by decide +kernel
theorem dX2_planShutdown_76 : decode cX2_planShutdown 76 = .ok (.aload 4, 2) := by decide +kernel
theorem dX2_planShutdown_78 : decode cX2_planShutdown 78 = .ok (.iload_n 2, 1) := by decide +kernel
theorem dX2_planShutdown_79 : decode cX2_planShutdown 79 = .ok (.iload_n 3, 1) := by decide +kernel
theorem dX2_planShutdown_80 : decode cX2_planShutdown 80 = .ok (.iadd, 1) := by decide +kernel
theorem dX2_planShutdown_81 : decode cX2_planShutdown 81 = .ok (.iconst 1, 1) := by decide +kernel
theorem dX2_planShutdown_82 : decode cX2_planShutdown 82 = .ok (.isub, 1) := by decide +kernel
theorem dX2_planShutdown_83 : decode cX2_planShutdown 83 = .ok (.putfield 144, 3) := by decide +kernel
theorem dX2_planShutdown_86 : decode cX2_planShutdown 86 = .ok (.aload 4, 2) := by decide +kernel
theorem dX2_planShutdown_88 : decode cX2_planShutdown 88 = .ok (.getfield 144, 3) := by decide +kernel
theorem dX2_planShutdown_91 : decode cX2_planShutdown 91 = .ok (.ireturn, 1) := by decide +kernel
theorem dX2_sendToRepair_0 : decode cX2_sendToRepair 0 = .ok (.aload_n 0, 1) := by decide +kernel
theorem dX2_sendToRepair_1 : decode cX2_sendToRepair 1 = .ok (.iload_n 1, 1) := by decide +kernel
theorem dX2_sendToRepair_2 : decode cX2_sendToRepair 2 = .ok (.invokevirtual 52, 3) := by decide +kernel
theorem dX2_sendToRepair_5 : decode cX2_sendToRepair 5 = .ok (.astore_n 2, 1) := by decide +kernel
theorem dX2_sendToRepair_6 : decode cX2_sendToRepair 6 = .ok (.aload_n 2, 1) := by decide +kernel
theorem dX2_sendToRepair_7 : decode cX2_sendToRepair 7 = .ok (.ifnonnull 6, 3) := by decide +kernel
theorem dX2_sendToRepair_10 : decode cX2_sendToRepair 10 = .ok (.ldc 67, 2) := by decide +kernel
theorem dX2_sendToRepair_12 : decode cX2_sendToRepair 12 = .ok (.ireturn, 1) := by decide +kernel
theorem dX2_sendToRepair_13 : decode cX2_sendToRepair 13 = .ok (.aload_n 2, 1) := by decide +kernel
theorem dX2_sendToRepair_14 : decode cX2_sendToRepair 14 = .ok (.getfield 83, 3) := by decide +kernel
theorem dX2_sendToRepair_17 : decode cX2_sendToRepair 17 = .ok (.ifCond .eq 6, 3) := by decide +kernel
theorem dX2_sendToRepair_20 : decode cX2_sendToRepair 20 = .ok (.ldc 89, 2) := by decide +kernel
theorem dX2_sendToRepair_22 : decode cX2_sendToRepair 22 = .ok (.ireturn, 1) := by decide +kernel
theorem dX2_sendToRepair_23 : decode cX2_sendToRepair 23 = .ok (.aload_n 2, 1) := by decide +kernel
theorem dX2_sendToRepair_24 : decode cX2_sendToRepair 24 = .ok (.getfield 134, 3) := by decide +kernel
theorem dX2_sendToRepair_27 : decode cX2_sendToRepair 27 = .ok (.bipush 10, 2) := by decide +kernel
theorem dX2_sendToRepair_29 : decode cX2_sendToRepair 29 = .ok (.idiv, 1) := by decide +kernel
theorem dX2_sendToRepair_30 : decode cX2_sendToRepair 30 = .ok (.iconst 1, 1) := by decide +kernel
theorem dX2_sendToRepair_31 : decode cX2_sendToRepair 31 = .ok (.iadd, 1) := by decide +kernel
theorem dX2_sendToRepair_32 : decode cX2_sendToRepair 32 = .ok (.istore_n 3, 1) := by decide +kernel
theorem dX2_sendToRepair_33 : decode cX2_sendToRepair 33 = .ok (.aload_n 2, 1) := by decide +kernel
theorem dX2_sendToRepair_34 : decode cX2_sendToRepair 34 = .ok (.iconst 2, 1) := by decide +kernel
theorem dX2_sendToRepair_35 : decode cX2_sendToRepair 35 = .ok (.putfield 83, 3) := by decide +kernel
theorem dX2_sendToRepair_38 : decode cX2_sendToRepair 38 = .ok (.aload_n 2, 1) := by decide +kernel
theorem dX2_sendToRepair_39 : decode cX2_sendToRepair 39 = .ok (.aload_n 0, 1) := by decide +kernel
theorem dX2_sendToRepair_40 : decode cX2_sendToRepair 40 = .ok (.getfield 39, 3) := by decide +kernel
theorem dX2_sendToRepair_43 : decode cX2_sendToRepair 43 = .ok (.iload_n 3, 1) := by decide +kernel
theorem dX2_sendToRepair_44 : decode cX2_sendToRepair 44 = .ok (.iadd, 1) := by decide +kernel
theorem dX2_sendToRepair_45 : decode cX2_sendToRepair 45 = .ok (.putfield 147, 3) := by decide +kernel
theorem dX2_sendToRepair_48 : decode cX2_sendToRepair 48 = .ok (.aload_n 0, 1) := by decide +kernel
theorem dX2_sendToRepair_49 : decode cX2_sendToRepair 49 = .ok (.dup, 1) := by decide +kernel
theorem dX2_sendToRepair_50 : decode cX2_sendToRepair 50 = .ok (.getfield 45, 3) := by decide +kernel
theorem dX2_sendToRepair_53 : decode cX2_sendToRepair 53 = .ok (.iload_n 3, 1) := by decide +kernel
theorem dX2_sendToRepair_54 : decode cX2_sendToRepair 54 = .ok (.iadd, 1) := by decide +kernel
theorem dX2_sendToRepair_55 : decode cX2_sendToRepair 55 = .ok (.putfield 45, 3) := by decide +kernel
theorem dX2_sendToRepair_58 : decode cX2_sendToRepair 58 = .ok (.aload_n 0, 1) := by decide +kernel
theorem dX2_sendToRepair_59 : decode cX2_sendToRepair 59 = .ok (.iconst 2, 1) := by decide +kernel
theorem dX2_sendToRepair_60 : decode cX2_sendToRepair 60 = .ok (.iload_n 3, 1) := by decide +kernel
theorem dX2_sendToRepair_61 : decode cX2_sendToRepair 61 = .ok (.aload_n 0, 1) := by decide +kernel
theorem dX2_sendToRepair_62 : decode cX2_sendToRepair 62 = .ok (.iconst 3, 1) := by decide +kernel
theorem dX2_sendToRepair_63 : decode cX2_sendToRepair 63 = .ok (.invokevirtual 118, 3) := by decide +kernel
theorem dX2_sendToRepair_66 : decode cX2_sendToRepair 66 = .ok (.imul, 1) := by decide +kernel
theorem dX2_sendToRepair_67 : decode cX2_sendToRepair 67 = .ok (.invokevirtual 122, 3) := by decide +kernel
theorem dX2_sendToRepair_70 : decode cX2_sendToRepair 70 = .ok (.iload_n 3, 1) := by decide +kernel
theorem dX2_sendToRepair_71 : decode cX2_sendToRepair 71 = .ok (.ireturn, 1) := by decide +kernel
theorem dX2_letWeeksPass_0 : decode cX2_letWeeksPass 0 = .ok (.iload_n 1, 1) := by decide +kernel
theorem dX2_letWeeksPass_1 : decode cX2_letWeeksPass 1 = .ok (.iconst 1, 1) := by decide +kernel
theorem dX2_letWeeksPass_2 : decode cX2_letWeeksPass 2 = .ok (.if_icmp .lt 9, 3) := by decide +kernel
theorem dX2_letWeeksPass_5 : decode cX2_letWeeksPass 5 = .ok (.iload_n 1, 1) := by decide +kernel
theorem dX2_letWeeksPass_6 : decode cX2_letWeeksPass 6 = .ok (.bipush 60, 2) := by decide +kernel
theorem dX2_letWeeksPass_8 : decode cX2_letWeeksPass 8 = .ok (.if_icmp .le 6, 3) := by decide +kernel
theorem dX2_letWeeksPass_11 : decode cX2_letWeeksPass 11 = .ok (.ldc 67, 2) := by decide +kernel
theorem dX2_letWeeksPass_13 : decode cX2_letWeeksPass 13 = .ok (.ireturn, 1) := by decide +kernel
theorem dX2_letWeeksPass_14 : decode cX2_letWeeksPass 14 = .ok (.aload_n 0, 1) := by decide +kernel
theorem dX2_letWeeksPass_15 : decode cX2_letWeeksPass 15 = .ok (.getfield 39, 3) := by decide +kernel
theorem dX2_letWeeksPass_18 : decode cX2_letWeeksPass 18 = .ok (.iload_n 1, 1) := by decide +kernel
theorem dX2_letWeeksPass_19 : decode cX2_letWeeksPass 19 = .ok (.iadd, 1) := by decide +kernel
theorem dX2_letWeeksPass_20 : decode cX2_letWeeksPass 20 = .ok (.sipush 9999, 3) := by decide +kernel
theorem dX2_letWeeksPass_23 : decode cX2_letWeeksPass 23 = .ok (.if_icmp .le 6, 3) := by decide +kernel
theorem dX2_letWeeksPass_26 : decode cX2_letWeeksPass 26 = .ok (.ldc 68, 2) := by decide +kernel
theorem dX2_letWeeksPass_28 : decode cX2_letWeeksPass 28 = .ok (.ireturn, 1) := by decide +kernel
theorem dX2_letWeeksPass_29 : decode cX2_letWeeksPass 29 = .ok (.iconst 0, 1) := by decide +kernel
theorem dX2_letWeeksPass_30 : decode cX2_letWeeksPass 30 = .ok (.istore_n 2, 1) := by decide +kernel
theorem dX2_letWeeksPass_31 : decode cX2_letWeeksPass 31 = .ok (.iconst 0, 1) := by decide +kernel
theorem dX2_letWeeksPass_32 : decode cX2_letWeeksPass 32 = .ok (.istore_n 3, 1) := by decide +kernel
theorem dX2_letWeeksPass_33 : decode cX2_letWeeksPass 33 = .ok (.iload_n 3, 1) := by decide +kernel
theorem dX2_letWeeksPass_34 : decode cX2_letWeeksPass 34 = .ok (.iload_n 1, 1) := by decide +kernel
theorem dX2_letWeeksPass_35 : decode cX2_letWeeksPass 35 = .ok (.if_icmp .ge 16, 3) := by decide +kernel
theorem dX2_letWeeksPass_38 : decode cX2_letWeeksPass 38 = .ok (.iload_n 2, 1) := by decide +kernel
theorem dX2_letWeeksPass_39 : decode cX2_letWeeksPass 39 = .ok (.aload_n 0, 1) := by decide +kernel
theorem dX2_letWeeksPass_40 : decode cX2_letWeeksPass 40 = .ok (.invokevirtual 150, 3) := by decide +kernel
theorem dX2_letWeeksPass_43 : decode cX2_letWeeksPass 43 = .ok (.iadd, 1) := by decide +kernel
theorem dX2_letWeeksPass_44 : decode cX2_letWeeksPass 44 = .ok (.istore_n 2, 1) := by decide +kernel
theorem dX2_letWeeksPass_45 : decode cX2_letWeeksPass 45 = .ok (.iinc 3 1, 3) := by decide +kernel
theorem dX2_letWeeksPass_48 : decode cX2_letWeeksPass 48 = .ok (.goto (-15), 3) := by decide +kernel
theorem dX2_letWeeksPass_51 : decode cX2_letWeeksPass 51 = .ok (.aload_n 0, 1) := by decide +kernel
theorem dX2_letWeeksPass_52 : decode cX2_letWeeksPass 52 = .ok (.dup, 1) := by decide +kernel
theorem dX2_letWeeksPass_53 : decode cX2_letWeeksPass 53 = .ok (.getfield 42, 3) := by decide +kernel
theorem dX2_letWeeksPass_56 : decode cX2_letWeeksPass 56 = .ok (.iload_n 2, 1) := by decide +kernel
theorem dX2_letWeeksPass_57 : decode cX2_letWeeksPass 57 = .ok (.iadd, 1) := by decide +kernel
theorem dX2_letWeeksPass_58 : decode cX2_letWeeksPass 58 = .ok (.putfield 42, 3) := by decide +kernel
theorem dX2_letWeeksPass_61 : decode cX2_letWeeksPass 61 = .ok (.iload_n 2, 1) := by decide +kernel
theorem dX2_letWeeksPass_62 : decode cX2_letWeeksPass 62 = .ok (.ireturn, 1) := by decide +kernel
theorem dX2_letOneWeekPass_0 : decode cX2_letOneWeekPass 0 = .ok (.aload_n 0, 1) := by decide +kernel
theorem dX2_letOneWeekPass_1 : decode cX2_letOneWeekPass 1 = .ok (.dup, 1) := by decide +kernel
theorem dX2_letOneWeekPass_2 : decode cX2_letOneWeekPass 2 = .ok (.getfield 39, 3) := by decide +kernel
theorem dX2_letOneWeekPass_5 : decode cX2_letOneWeekPass 5 = .ok (.iconst 1, 1) := by decide +kernel
theorem dX2_letOneWeekPass_6 : decode cX2_letOneWeekPass 6 = .ok (.iadd, 1) := by decide +kernel
theorem dX2_letOneWeekPass_7 : decode cX2_letOneWeekPass 7 = .ok (.putfield 39, 3) := by decide +kernel
theorem dX2_letOneWeekPass_10 : decode cX2_letOneWeekPass 10 = .ok (.iconst 0, 1) := by decide +kernel
theorem dX2_letOneWeekPass_11 : decode cX2_letOneWeekPass 11 = .ok (.istore_n 1, 1) := by decide +kernel
theorem dX2_letOneWeekPass_12 : decode cX2_letOneWeekPass 12 = .ok (.iload_n 1, 1) := by decide +kernel
theorem dX2_letOneWeekPass_13 : decode cX2_letOneWeekPass 13 = .ok (.aload_n 0, 1) := by decide +kernel
theorem dX2_letOneWeekPass_14 : decode cX2_letOneWeekPass 14 = .ok (.getfield 36, 3) := by decide +kernel
theorem dX2_letOneWeekPass_17 : decode cX2_letOneWeekPass 17 = .ok (.if_icmp .ge 23, 3) := by decide +kernel
theorem dX2_letOneWeekPass_20 : decode cX2_letOneWeekPass 20 = .ok (.aload_n 0, 1) := by decide +kernel
theorem dX2_letOneWeekPass_21 : decode cX2_letOneWeekPass 21 = .ok (.iload_n 1, 1) := by decide +kernel
theorem dX2_letOneWeekPass_22 : decode cX2_letOneWeekPass 22 = .ok (.invokevirtual 60, 3) := by decide +kernel
theorem dX2_letOneWeekPass_25 : decode cX2_letOneWeekPass 25 = .ok (.astore_n 2, 1) := by decide +kernel
theorem dX2_letOneWeekPass_26 : decode cX2_letOneWeekPass 26 = .ok (.aload_n 2, 1) := by decide +kernel
theorem dX2_letOneWeekPass_27 : decode cX2_letOneWeekPass 27 = .ok (.ifnull 7, 3) := by decide +kernel
theorem dX2_letOneWeekPass_30 : decode cX2_letOneWeekPass 30 = .ok (.aload_n 2, 1) := by decide +kernel
theorem dX2_letOneWeekPass_31 : decode cX2_letOneWeekPass 31 = .ok (.invokevirtual 154, 3) := by decide +kernel
theorem dX2_letOneWeekPass_34 : decode cX2_letOneWeekPass 34 = .ok (.iinc 1 1, 3) := by decide +kernel
theorem dX2_letOneWeekPass_37 : decode cX2_letOneWeekPass 37 = .ok (.goto (-25), 3) := by decide +kernel
theorem dX2_letOneWeekPass_40 : decode cX2_letOneWeekPass 40 = .ok (.iconst 0, 1) := by decide +kernel
theorem dX2_letOneWeekPass_41 : decode cX2_letOneWeekPass 41 = .ok (.istore_n 1, 1) := by decide +kernel
theorem dX2_letOneWeekPass_42 : decode cX2_letOneWeekPass 42 = .ok (.iconst 0, 1) := by decide +kernel
theorem dX2_letOneWeekPass_43 : decode cX2_letOneWeekPass 43 = .ok (.istore_n 2, 1) := by decide +kernel
theorem dX2_letOneWeekPass_44 : decode cX2_letOneWeekPass 44 = .ok (.iload_n 2, 1) := by decide +kernel
theorem dX2_letOneWeekPass_45 : decode cX2_letOneWeekPass 45 = .ok (.aload_n 0, 1) := by decide +kernel
theorem dX2_letOneWeekPass_46 : decode cX2_letOneWeekPass 46 = .ok (.getfield 32, 3) := by decide +kernel
theorem dX2_letOneWeekPass_49 : decode cX2_letOneWeekPass 49 = .ok (.if_icmp .ge 60, 3) := by decide +kernel
theorem dX2_letOneWeekPass_52 : decode cX2_letOneWeekPass 52 = .ok (.aload_n 0, 1) := by decide +kernel
theorem dX2_letOneWeekPass_53 : decode cX2_letOneWeekPass 53 = .ok (.iload_n 2, 1) := by decide +kernel
theorem dX2_letOneWeekPass_54 : decode cX2_letOneWeekPass 54 = .ok (.invokevirtual 52, 3) := by decide +kernel
theorem dX2_letOneWeekPass_57 : decode cX2_letOneWeekPass 57 = .ok (.astore_n 3, 1) := by decide +kernel
theorem dX2_letOneWeekPass_58 : decode cX2_letOneWeekPass 58 = .ok (.aload_n 3, 1) := by decide +kernel
theorem dX2_letOneWeekPass_59 : decode cX2_letOneWeekPass 59 = .ok (.ifnonnull 6, 3) := by decide +kernel
theorem dX2_letOneWeekPass_62 : decode cX2_letOneWeekPass 62 = .ok (.goto 41, 3) := by decide +kernel
theorem dX2_letOneWeekPass_65 : decode cX2_letOneWeekPass 65 = .ok (.aload_n 3, 1) := by decide +kernel
theorem dX2_letOneWeekPass_66 : decode cX2_letOneWeekPass 66 = .ok (.invokevirtual 157, 3) := by decide +kernel
theorem dX2_letOneWeekPass_69 : decode cX2_letOneWeekPass 69 = .ok (.aload_n 3, 1) := by decide +kernel
theorem dX2_letOneWeekPass_70 : decode cX2_letOneWeekPass 70 = .ok (.aload_n 0, 1) := by decide +kernel
theorem dX2_letOneWeekPass_71 : decode cX2_letOneWeekPass 71 = .ok (.getfield 39, 3) := by decide +kernel
theorem dX2_letOneWeekPass_74 : decode cX2_letOneWeekPass 74 = .ok (.invokevirtual 160, 3) := by decide +kernel
theorem dX2_letOneWeekPass_77 : decode cX2_letOneWeekPass 77 = .ok (.aload_n 3, 1) := by decide +kernel
theorem dX2_letOneWeekPass_78 : decode cX2_letOneWeekPass 78 = .ok (.aload_n 0, 1) := by decide +kernel
theorem dX2_letOneWeekPass_79 : decode cX2_letOneWeekPass 79 = .ok (.getfield 39, 3) := by decide +kernel
theorem dX2_letOneWeekPass_82 : decode cX2_letOneWeekPass 82 = .ok (.invokevirtual 163, 3) := by decide +kernel
theorem dX2_letOneWeekPass_85 : decode cX2_letOneWeekPass 85 = .ok (.aload_n 3, 1) := by decide +kernel
theorem dX2_letOneWeekPass_86 : decode cX2_letOneWeekPass 86 = .ok (.aload_n 0, 1) := by decide +kernel
theorem dX2_letOneWeekPass_87 : decode cX2_letOneWeekPass 87 = .ok (.getfield 39, 3) := by decide +kernel
theorem dX2_letOneWeekPass_90 : decode cX2_letOneWeekPass 90 = .ok (.invokevirtual 166, 3) := by decide +kernel
theorem dX2_letOneWeekPass_93 : decode cX2_letOneWeekPass 93 = .ok (.ifCond .eq 10, 3) := by decide +kernel
theorem dX2_letOneWeekPass_96 : decode cX2_letOneWeekPass 96 = .ok (.aload_n 3, 1) := by decide +kernel
theorem dX2_letOneWeekPass_97 : decode cX2_letOneWeekPass 97 = .ok (.invokevirtual 131, 3) := by decide +kernel
theorem dX2_letOneWeekPass_100 : decode cX2_letOneWeekPass 100 = .ok (.iinc 1 1, 3) := by decide +kernel
theorem dX2_letOneWeekPass_103 : decode cX2_letOneWeekPass 103 = .ok (.iinc 2 1, 3) := by decide +kernel
theorem dX2_letOneWeekPass_106 : decode cX2_letOneWeekPass 106 = .ok (.goto (-62), 3) := by decide +kernel
theorem dX2_letOneWeekPass_109 : decode cX2_letOneWeekPass 109 = .ok (.iload_n 1, 1) := by decide +kernel
theorem dX2_letOneWeekPass_110 : decode cX2_letOneWeekPass 110 = .ok (.ireturn, 1) := by decide +kernel
theorem dX2_changeSetting_0 : decode cX2_changeSetting 0 = .ok (.iload_n 1, 1) := by decide +kernel
theorem dX2_changeSetting_1 : decode cX2_changeSetting 1 = .ok (.ifCond .lt 20, 3) := by decide +kernel
theorem dX2_changeSetting_4 : decode cX2_changeSetting 4 = .ok (.iload_n 1, 1) := by decide +kernel
theorem dX2_changeSetting_5 : decode cX2_changeSetting 5 = .ok (.aload_n 0, 1) := by decide +kernel
theorem dX2_changeSetting_6 : decode cX2_changeSetting 6 = .ok (.getfield 23, 3) := by decide +kernel
theorem dX2_changeSetting_9 : decode cX2_changeSetting 9 = .ok (.arraylength, 1) := by decide +kernel
theorem dX2_changeSetting_10 : decode cX2_changeSetting 10 = .ok (.if_icmp .ge 11, 3) := by decide +kernel
theorem dX2_changeSetting_13 : decode cX2_changeSetting 13 = .ok (.iload_n 1, 1) := by decide +kernel
theorem dX2_changeSetting_14 : decode cX2_changeSetting 14 = .ok (.getstatic 169, 3) := by decide +kernel
theorem dX2_changeSetting_17 : decode cX2_changeSetting 17 = .ok (.arraylength, 1) := by decide +kernel
theorem dX2_changeSetting_18 : decode cX2_changeSetting 18 = .ok (.if_icmp .lt 6, 3) := by decide +kernel
theorem dX2_changeSetting_21 : decode cX2_changeSetting 21 = .ok (.ldc 67, 2) := by decide +kernel
theorem dX2_changeSetting_23 : decode cX2_changeSetting 23 = .ok (.ireturn, 1) := by decide +kernel
theorem dX2_changeSetting_24 : decode cX2_changeSetting 24 = .ok (.iload_n 2, 1) := by decide +kernel
theorem dX2_changeSetting_25 : decode cX2_changeSetting 25 = .ok (.ifCond .lt 12, 3) := by decide +kernel
theorem dX2_changeSetting_28 : decode cX2_changeSetting 28 = .ok (.iload_n 2, 1) := by decide +kernel
theorem dX2_changeSetting_29 : decode cX2_changeSetting 29 = .ok (.getstatic 169, 3) := by decide +kernel
theorem dX2_changeSetting_32 : decode cX2_changeSetting 32 = .ok (.iload_n 1, 1) := by decide +kernel
theorem dX2_changeSetting_33 : decode cX2_changeSetting 33 = .ok (.iaload, 1) := by decide +kernel
theorem dX2_changeSetting_34 : decode cX2_changeSetting 34 = .ok (.if_icmp .le 6, 3) := by decide +kernel
theorem dX2_changeSetting_37 : decode cX2_changeSetting 37 = .ok (.ldc 67, 2) := by decide +kernel
theorem dX2_changeSetting_39 : decode cX2_changeSetting 39 = .ok (.ireturn, 1) := by decide +kernel
theorem dX2_changeSetting_40 : decode cX2_changeSetting 40 = .ok (.aload_n 0, 1) := by decide +kernel
theorem dX2_changeSetting_41 : decode cX2_changeSetting 41 = .ok (.getfield 23, 3) := by decide +kernel
theorem dX2_changeSetting_44 : decode cX2_changeSetting 44 = .ok (.iload_n 1, 1) := by decide +kernel
theorem dX2_changeSetting_45 : decode cX2_changeSetting 45 = .ok (.iaload, 1) := by decide +kernel
theorem dX2_changeSetting_46 : decode cX2_changeSetting 46 = .ok (.istore_n 3, 1) := by decide +kernel
theorem dX2_changeSetting_47 : decode cX2_changeSetting 47 = .ok (.aload_n 0, 1) := by decide +kernel
theorem dX2_changeSetting_48 : decode cX2_changeSetting 48 = .ok (.getfield 23, 3) := by decide +kernel
theorem dX2_changeSetting_51 : decode cX2_changeSetting 51 = .ok (.iload_n 1, 1) := by decide +kernel
theorem dX2_changeSetting_52 : decode cX2_changeSetting 52 = .ok (.iload_n 2, 1) := by decide +kernel
theorem dX2_changeSetting_53 : decode cX2_changeSetting 53 = .ok (.iastore, 1) := by decide +kernel
theorem dX2_changeSetting_54 : decode cX2_changeSetting 54 = .ok (.iload_n 3, 1) := by decide +kernel
theorem dX2_changeSetting_55 : decode cX2_changeSetting 55 = .ok (.ireturn, 1) := by decide +kernel
theorem dX2_obey_0 : decode cX2_obey 0 = .ok (.iload_n 1, 1) := by decide +kernel
theorem dX2_obey_1 : decode cX2_obey 1 = .ok (.lookupswitch 96 #[(98, 59), (102, 72), (105, 65), (111, 78), (114, 84), (119, 90)], 59) := by decide +kernel
theorem dX2_obey_60 : decode cX2_obey 60 = .ok (.aload_n 0, 1) := by decide +kernel
theorem dX2_obey_61 : decode cX2_obey 61 = .ok (.iload_n 2, 1) := by decide +kernel
theorem dX2_obey_62 : decode cX2_obey 62 = .ok (.invokevirtual 172, 3) := by decide +kernel
theorem dX2_obey_65 : decode cX2_obey 65 = .ok (.ireturn, 1) := by decide +kernel
theorem dX2_obey_66 : decode cX2_obey 66 = .ok (.aload_n 0, 1) := by decide +kernel
theorem dX2_obey_67 : decode cX2_obey 67 = .ok (.iload_n 2, 1) := by decide +kernel
theorem dX2_obey_68 : decode cX2_obey 68 = .ok (.iload_n 3, 1) := by decide +kernel
theorem dX2_obey_69 : decode cX2_obey 69 = .ok (.invokevirtual 175, 3) := by decide +kernel
theorem dX2_obey_72 : decode cX2_obey 72 = .ok (.ireturn, 1) := by decide +kernel
theorem dX2_obey_73 : decode cX2_obey 73 = .ok (.aload_n 0, 1) := by decide +kernel
theorem dX2_obey_74 : decode cX2_obey 74 = .ok (.iload_n 2, 1) := by decide +kernel
theorem dX2_obey_75 : decode cX2_obey 75 = .ok (.invokevirtual 179, 3) := by decide +kernel
theorem dX2_obey_78 : decode cX2_obey 78 = .ok (.ireturn, 1) := by decide +kernel
theorem dX2_obey_79 : decode cX2_obey 79 = .ok (.aload_n 0, 1) := by decide +kernel
theorem dX2_obey_80 : decode cX2_obey 80 = .ok (.iload_n 2, 1) := by decide +kernel
theorem dX2_obey_81 : decode cX2_obey 81 = .ok (.invokevirtual 182, 3) := by decide +kernel
theorem dX2_obey_84 : decode cX2_obey 84 = .ok (.ireturn, 1) := by decide +kernel
theorem dX2_obey_85 : decode cX2_obey 85 = .ok (.aload_n 0, 1) := by decide +kernel
theorem dX2_obey_86 : decode cX2_obey 86 = .ok (.iload_n 2, 1) := by decide +kernel
theorem dX2_obey_87 : decode cX2_obey 87 = .ok (.invokevirtual 185, 3) := by decide +kernel
theorem dX2_obey_90 : decode cX2_obey 90 = .ok (.ireturn, 1) := by decide +kernel
theorem dX2_obey_91 : decode cX2_obey 91 = .ok (.aload_n 0, 1) := by decide +kernel
theorem dX2_obey_92 : decode cX2_obey 92 = .ok (.iload_n 2, 1) := by decide +kernel
theorem dX2_obey_93 : decode cX2_obey 93 = .ok (.invokevirtual 188, 3) := by decide +kernel
theorem dX2_obey_96 : decode cX2_obey 96 = .ok (.ireturn, 1) := by decide +kernel
theorem dX2_obey_97 : decode cX2_obey 97 = .ok (.ldc 67, 2) := by decide +kernel
theorem dX2_obey_99 : decode cX2_obey 99 = .ok (.ireturn, 1) := by decide +kernel
theorem dX2_factOfBoiler_0 : decode cX2_factOfBoiler 0 = .ok (.aload_n 0, 1) := by decide +kernel
theorem dX2_factOfBoiler_1 : decode cX2_factOfBoiler 1 = .ok (.iload_n 1, 1) := by decide +kernel
theorem dX2_factOfBoiler_2 : decode cX2_factOfBoiler 2 = .ok (.invokevirtual 52, 3) := by decide +kernel
theorem dX2_factOfBoiler_5 : decode cX2_factOfBoiler 5 = .ok (.astore_n 3, 1) := by decide +kernel
theorem dX2_factOfBoiler_6 : decode cX2_factOfBoiler 6 = .ok (.aload_n 3, 1) := by decide +kernel
theorem dX2_factOfBoiler_7 : decode cX2_factOfBoiler 7 = .ok (.ifnonnull 8, 3) := by decide +kernel
end
section
theorem dX2_factOfBoiler_10 : decode cX2_factOfBoiler 10 = .ok (.ldc 67, 2) := by decide +kernel
theorem dX2_factOfBoiler_12 : decode cX2_factOfBoiler 12 = .ok (.goto 12, 3) := by decide +kernel
theorem dX2_factOfBoiler_15 : decode cX2_factOfBoiler 15 = .ok (.aload_n 3, 1) := by decide +kernel
theorem dX2_factOfBoiler_16 : decode cX2_factOfBoiler 16 = .ok (.iload_n 2, 1) := by decide +kernel
theorem dX2_factOfBoiler_17 : decode cX2_factOfBoiler 17 = .ok (.aload_n 0, 1) := by decide +kernel
theorem dX2_factOfBoiler_18 : decode cX2_factOfBoiler 18 = .ok (.getfield 39, 3) := by decide +kernel
theorem dX2_factOfBoiler_21 : decode cX2_factOfBoiler 21 = .ok (.invokevirtual 191, 3) := by decide +kernel
theorem dX2_factOfBoiler_24 : decode cX2_factOfBoiler 24 = .ok (.ireturn, 1) := by decide +kernel
theorem dX2_factOfPaper_0 : decode cX2_factOfPaper 0 = .ok (.aload_n 0, 1) := by decide +kernel
theorem dX2_factOfPaper_1 : decode cX2_factOfPaper 1 = .ok (.iload_n 1, 1) := by decide +kernel
theorem dX2_factOfPaper_2 : decode cX2_factOfPaper 2 = .ok (.invokevirtual 52, 3) := by decide +kernel
theorem dX2_factOfPaper_5 : decode cX2_factOfPaper 5 = .ok (.astore_n 3, 1) := by decide +kernel
theorem dX2_factOfPaper_6 : decode cX2_factOfPaper 6 = .ok (.aload_n 3, 1) := by decide +kernel
theorem dX2_factOfPaper_7 : decode cX2_factOfPaper 7 = .ok (.ifnonnull 8, 3) := by decide +kernel
theorem dX2_factOfPaper_10 : decode cX2_factOfPaper 10 = .ok (.ldc 67, 2) := by decide +kernel
theorem dX2_factOfPaper_12 : decode cX2_factOfPaper 12 = .ok (.goto 8, 3) := by decide +kernel
theorem dX2_factOfPaper_15 : decode cX2_factOfPaper 15 = .ok (.aload_n 3, 1) := by decide +kernel
theorem dX2_factOfPaper_16 : decode cX2_factOfPaper 16 = .ok (.iload_n 2, 1) := by decide +kernel
theorem dX2_factOfPaper_17 : decode cX2_factOfPaper 17 = .ok (.invokevirtual 194, 3) := by decide +kernel
theorem dX2_factOfPaper_20 : decode cX2_factOfPaper 20 = .ok (.ireturn, 1) := by decide +kernel
theorem dX2_factOfInspector_0 : decode cX2_factOfInspector 0 = .ok (.aload_n 0, 1) := by decide +kernel
theorem dX2_factOfInspector_1 : decode cX2_factOfInspector 1 = .ok (.iload_n 1, 1) := by decide +kernel
theorem dX2_factOfInspector_2 : decode cX2_factOfInspector 2 = .ok (.invokevirtual 60, 3) := by decide +kernel
theorem dX2_factOfInspector_5 : decode cX2_factOfInspector 5 = .ok (.astore_n 3, 1) := by decide +kernel
theorem dX2_factOfInspector_6 : decode cX2_factOfInspector 6 = .ok (.aload_n 3, 1) := by decide +kernel
theorem dX2_factOfInspector_7 : decode cX2_factOfInspector 7 = .ok (.ifnonnull 8, 3) := by decide +kernel
theorem dX2_factOfInspector_10 : decode cX2_factOfInspector 10 = .ok (.ldc 67, 2) := by decide +kernel
theorem dX2_factOfInspector_12 : decode cX2_factOfInspector 12 = .ok (.goto 8, 3) := by decide +kernel
theorem dX2_factOfInspector_15 : decode cX2_factOfInspector 15 = .ok (.aload_n 3, 1) := by decide +kernel
theorem dX2_factOfInspector_16 : decode cX2_factOfInspector 16 = .ok (.iload_n 2, 1) := by decide +kernel
theorem dX2_factOfInspector_17 : decode cX2_factOfInspector 17 = .ok (.invokevirtual 197, 3) := by decide +kernel
theorem dX2_factOfInspector_20 : decode cX2_factOfInspector 20 = .ok (.ireturn, 1) := by decide +kernel
theorem dX2_whyNotFired_0 : decode cX2_whyNotFired 0 = .ok (.aload_n 0, 1) := by decide +kernel
theorem dX2_whyNotFired_1 : decode cX2_whyNotFired 1 = .ok (.iload_n 1, 1) := by decide +kernel
theorem dX2_whyNotFired_2 : decode cX2_whyNotFired 2 = .ok (.invokevirtual 52, 3) := by decide +kernel
theorem dX2_whyNotFired_5 : decode cX2_whyNotFired 5 = .ok (.astore_n 2, 1) := by decide +kernel
theorem dX2_whyNotFired_6 : decode cX2_whyNotFired 6 = .ok (.aload_n 2, 1) := by decide +kernel
theorem dX2_whyNotFired_7 : decode cX2_whyNotFired 7 = .ok (.ifnonnull 8, 3) := by decide +kernel
theorem dX2_whyNotFired_10 : decode cX2_whyNotFired 10 = .ok (.ldc 67, 2) := by decide +kernel
theorem dX2_whyNotFired_12 : decode cX2_whyNotFired 12 = .ok (.goto 11, 3) := by decide +kernel
theorem dX2_whyNotFired_15 : decode cX2_whyNotFired 15 = .ok (.aload_n 2, 1) := by decide +kernel
theorem dX2_whyNotFired_16 : decode cX2_whyNotFired 16 = .ok (.aload_n 0, 1) := by decide +kernel
theorem dX2_whyNotFired_17 : decode cX2_whyNotFired 17 = .ok (.getfield 39, 3) := by decide +kernel
theorem dX2_whyNotFired_20 : decode cX2_whyNotFired 20 = .ok (.invokevirtual 125, 3) := by decide +kernel
theorem dX2_whyNotFired_23 : decode cX2_whyNotFired 23 = .ok (.ireturn, 1) := by decide +kernel
theorem dX2_whyNotInspected_0 : decode cX2_whyNotInspected 0 = .ok (.aload_n 0, 1) := by decide +kernel
theorem dX2_whyNotInspected_1 : decode cX2_whyNotInspected 1 = .ok (.iload_n 1, 1) := by decide +kernel
theorem dX2_whyNotInspected_2 : decode cX2_whyNotInspected 2 = .ok (.invokevirtual 52, 3) := by decide +kernel
theorem dX2_whyNotInspected_5 : decode cX2_whyNotInspected 5 = .ok (.astore_n 3, 1) := by decide +kernel
theorem dX2_whyNotInspected_6 : decode cX2_whyNotInspected 6 = .ok (.aload_n 0, 1) := by decide +kernel
theorem dX2_whyNotInspected_7 : decode cX2_whyNotInspected 7 = .ok (.iload_n 2, 1) := by decide +kernel
theorem dX2_whyNotInspected_8 : decode cX2_whyNotInspected 8 = .ok (.invokevirtual 60, 3) := by decide +kernel
theorem dX2_whyNotInspected_11 : decode cX2_whyNotInspected 11 = .ok (.astore 4, 2) := by decide +kernel
theorem dX2_whyNotInspected_13 : decode cX2_whyNotInspected 13 = .ok (.aload_n 3, 1) := by decide +kernel
theorem dX2_whyNotInspected_14 : decode cX2_whyNotInspected 14 = .ok (.ifnull 8, 3) := by decide +kernel
theorem dX2_whyNotInspected_17 : decode cX2_whyNotInspected 17 = .ok (.aload 4, 2) := by decide +kernel
theorem dX2_whyNotInspected_19 : decode cX2_whyNotInspected 19 = .ok (.ifnonnull 6, 3) := by decide +kernel
theorem dX2_whyNotInspected_22 : decode cX2_whyNotInspected 22 = .ok (.ldc 67, 2) := by decide +kernel
theorem dX2_whyNotInspected_24 : decode cX2_whyNotInspected 24 = .ok (.ireturn, 1) := by decide +kernel
theorem dX2_whyNotInspected_25 : decode cX2_whyNotInspected 25 = .ok (.aload_n 3, 1) := by decide +kernel
theorem dX2_whyNotInspected_26 : decode cX2_whyNotInspected 26 = .ok (.aload 4, 2) := by decide +kernel
theorem dX2_whyNotInspected_28 : decode cX2_whyNotInspected 28 = .ok (.invokevirtual 93, 3) := by decide +kernel
theorem dX2_whyNotInspected_31 : decode cX2_whyNotInspected 31 = .ok (.ireturn, 1) := by decide +kernel
theorem dX2_pressureOffered_0 : decode cX2_pressureOffered 0 = .ok (.aload_n 1, 1) := by decide +kernel
theorem dX2_pressureOffered_1 : decode cX2_pressureOffered 1 = .ok (.getfield 134, 3) := by decide +kernel
theorem dX2_pressureOffered_4 : decode cX2_pressureOffered 4 = .ok (.aload_n 0, 1) := by decide +kernel
theorem dX2_pressureOffered_5 : decode cX2_pressureOffered 5 = .ok (.iload_n 2, 1) := by decide +kernel
theorem dX2_pressureOffered_6 : decode cX2_pressureOffered 6 = .ok (.invokevirtual 118, 3) := by decide +kernel
theorem dX2_pressureOffered_9 : decode cX2_pressureOffered 9 = .ok (.if_icmp .le 5, 3) := by decide +kernel
theorem dX2_pressureOffered_12 : decode cX2_pressureOffered 12 = .ok (.iconst 0, 1) := by decide +kernel
theorem dX2_pressureOffered_13 : decode cX2_pressureOffered 13 = .ok (.ireturn, 1) := by decide +kernel
theorem dX2_pressureOffered_14 : decode cX2_pressureOffered 14 = .ok (.aload_n 1, 1) := by decide +kernel
theorem dX2_pressureOffered_15 : decode cX2_pressureOffered 15 = .ok (.invokevirtual 199, 3) := by decide +kernel
theorem dX2_pressureOffered_18 : decode cX2_pressureOffered 18 = .ok (.istore_n 3, 1) := by decide +kernel
theorem dX2_pressureOffered_19 : decode cX2_pressureOffered 19 = .ok (.iload_n 2, 1) := by decide +kernel
theorem dX2_pressureOffered_20 : decode cX2_pressureOffered 20 = .ok (.ifCond .ne 7, 3) := by decide +kernel
theorem dX2_pressureOffered_23 : decode cX2_pressureOffered 23 = .ok (.iload_n 3, 1) := by decide +kernel
theorem dX2_pressureOffered_24 : decode cX2_pressureOffered 24 = .ok (.goto 10, 3) := by decide +kernel
theorem dX2_pressureOffered_27 : decode cX2_pressureOffered 27 = .ok (.iload_n 3, 1) := by decide +kernel
theorem dX2_pressureOffered_28 : decode cX2_pressureOffered 28 = .ok (.bipush 9, 2) := by decide +kernel
theorem dX2_pressureOffered_30 : decode cX2_pressureOffered 30 = .ok (.imul, 1) := by decide +kernel
theorem dX2_pressureOffered_31 : decode cX2_pressureOffered 31 = .ok (.bipush 10, 2) := by decide +kernel
theorem dX2_pressureOffered_33 : decode cX2_pressureOffered 33 = .ok (.idiv, 1) := by decide +kernel
theorem dX2_pressureOffered_34 : decode cX2_pressureOffered 34 = .ok (.ireturn, 1) := by decide +kernel
theorem dX2_lastWeekOffered_0 : decode cX2_lastWeekOffered 0 = .ok (.aload_n 0, 1) := by decide +kernel
theorem dX2_lastWeekOffered_1 : decode cX2_lastWeekOffered 1 = .ok (.getfield 39, 3) := by decide +kernel
theorem dX2_lastWeekOffered_4 : decode cX2_lastWeekOffered 4 = .ok (.iload_n 2, 1) := by decide +kernel
theorem dX2_lastWeekOffered_5 : decode cX2_lastWeekOffered 5 = .ok (.ifCond .ne 15, 3) := by decide +kernel
theorem dX2_lastWeekOffered_8 : decode cX2_lastWeekOffered 8 = .ok (.bipush 52, 2) := by decide +kernel
theorem dX2_lastWeekOffered_10 : decode cX2_lastWeekOffered 10 = .ok (.aload_n 1, 1) := by decide +kernel
theorem dX2_lastWeekOffered_11 : decode cX2_lastWeekOffered 11 = .ok (.getfield 134, 3) := by decide +kernel
theorem dX2_lastWeekOffered_14 : decode cX2_lastWeekOffered 14 = .ok (.iconst 5, 1) := by decide +kernel
theorem dX2_lastWeekOffered_15 : decode cX2_lastWeekOffered 15 = .ok (.idiv, 1) := by decide +kernel
theorem dX2_lastWeekOffered_16 : decode cX2_lastWeekOffered 16 = .ok (.isub, 1) := by decide +kernel
theorem dX2_lastWeekOffered_17 : decode cX2_lastWeekOffered 17 = .ok (.goto 5, 3) := by decide +kernel
theorem dX2_lastWeekOffered_20 : decode cX2_lastWeekOffered 20 = .ok (.bipush 40, 2) := by decide +kernel
theorem dX2_lastWeekOffered_22 : decode cX2_lastWeekOffered 22 = .ok (.iadd, 1) := by decide +kernel
theorem dX2_lastWeekOffered_23 : decode cX2_lastWeekOffered 23 = .ok (.ireturn, 1) := by decide +kernel
theorem dX2_paperThatWouldBe_0 : decode cX2_paperThatWouldBe 0 = .ok (.aload_n 0, 1) := by decide +kernel
theorem dX2_paperThatWouldBe_1 : decode cX2_paperThatWouldBe 1 = .ok (.iload_n 1, 1) := by decide +kernel
theorem dX2_paperThatWouldBe_2 : decode cX2_paperThatWouldBe 2 = .ok (.invokevirtual 52, 3) := by decide +kernel
theorem dX2_paperThatWouldBe_5 : decode cX2_paperThatWouldBe 5 = .ok (.astore 4, 2) := by decide +kernel
theorem dX2_paperThatWouldBe_7 : decode cX2_paperThatWouldBe 7 = .ok (.aload 4, 2) := by decide +kernel
theorem dX2_paperThatWouldBe_9 : decode cX2_paperThatWouldBe 9 = .ok (.ifnull 19, 3) := by decide +kernel
theorem dX2_paperThatWouldBe_12 : decode cX2_paperThatWouldBe 12 = .ok (.iload_n 2, 1) := by decide +kernel
theorem dX2_paperThatWouldBe_13 : decode cX2_paperThatWouldBe 13 = .ok (.invokestatic 73, 3) := by decide +kernel
theorem dX2_paperThatWouldBe_16 : decode cX2_paperThatWouldBe 16 = .ok (.ifCond .eq 12, 3) := by decide +kernel
theorem dX2_paperThatWouldBe_19 : decode cX2_paperThatWouldBe 19 = .ok (.iload_n 3, 1) := by decide +kernel
theorem dX2_paperThatWouldBe_20 : decode cX2_paperThatWouldBe 20 = .ok (.ifCond .lt 8, 3) := by decide +kernel
theorem dX2_paperThatWouldBe_23 : decode cX2_paperThatWouldBe 23 = .ok (.iload_n 3, 1) := by decide +kernel
theorem dX2_paperThatWouldBe_24 : decode cX2_paperThatWouldBe 24 = .ok (.iconst 1, 1) := by decide +kernel
theorem dX2_paperThatWouldBe_25 : decode cX2_paperThatWouldBe 25 = .ok (.if_icmp .le 6, 3) := by decide +kernel
theorem dX2_paperThatWouldBe_28 : decode cX2_paperThatWouldBe 28 = .ok (.ldc 67, 2) := by decide +kernel
theorem dX2_paperThatWouldBe_30 : decode cX2_paperThatWouldBe 30 = .ok (.ireturn, 1) := by decide +kernel
theorem dX2_paperThatWouldBe_31 : decode cX2_paperThatWouldBe 31 = .ok (.aload_n 0, 1) := by decide +kernel
theorem dX2_paperThatWouldBe_32 : decode cX2_paperThatWouldBe 32 = .ok (.aload 4, 2) := by decide +kernel
theorem dX2_paperThatWouldBe_34 : decode cX2_paperThatWouldBe 34 = .ok (.iload_n 2, 1) := by decide +kernel
theorem dX2_paperThatWouldBe_35 : decode cX2_paperThatWouldBe 35 = .ok (.invokevirtual 100, 3) := by decide +kernel
theorem dX2_paperThatWouldBe_38 : decode cX2_paperThatWouldBe 38 = .ok (.istore 5, 2) := by decide +kernel
theorem dX2_paperThatWouldBe_40 : decode cX2_paperThatWouldBe 40 = .ok (.iload_n 3, 1) := by decide +kernel
theorem dX2_paperThatWouldBe_41 : decode cX2_paperThatWouldBe 41 = .ok (.ifCond .ne 6, 3) := by decide +kernel
theorem dX2_paperThatWouldBe_44 : decode cX2_paperThatWouldBe 44 = .ok (.iload 5, 2) := by decide +kernel
theorem dX2_paperThatWouldBe_46 : decode cX2_paperThatWouldBe 46 = .ok (.ireturn, 1) := by decide +kernel
theorem dX2_paperThatWouldBe_47 : decode cX2_paperThatWouldBe 47 = .ok (.iload 5, 2) := by decide +kernel
theorem dX2_paperThatWouldBe_49 : decode cX2_paperThatWouldBe 49 = .ok (.ifCond .le 13, 3) := by decide +kernel
theorem dX2_paperThatWouldBe_52 : decode cX2_paperThatWouldBe 52 = .ok (.aload_n 0, 1) := by decide +kernel
theorem dX2_paperThatWouldBe_53 : decode cX2_paperThatWouldBe 53 = .ok (.aload 4, 2) := by decide +kernel
theorem dX2_paperThatWouldBe_55 : decode cX2_paperThatWouldBe 55 = .ok (.iload_n 2, 1) := by decide +kernel
theorem dX2_paperThatWouldBe_56 : decode cX2_paperThatWouldBe 56 = .ok (.invokevirtual 104, 3) := by decide +kernel
theorem dX2_paperThatWouldBe_59 : decode cX2_paperThatWouldBe 59 = .ok (.goto 5, 3) := by decide +kernel
theorem dX2_paperThatWouldBe_62 : decode cX2_paperThatWouldBe 62 = .ok (.ldc 202, 2) := by decide +kernel
theorem dX2_paperThatWouldBe_64 : decode cX2_paperThatWouldBe 64 = .ok (.ireturn, 1) := by decide +kernel
theorem dX2_betterInsurer_0 : decode cX2_betterInsurer 0 = .ok (.aload_n 0, 1) := by decide +kernel
theorem dX2_betterInsurer_1 : decode cX2_betterInsurer 1 = .ok (.iload_n 1, 1) := by decide +kernel
theorem dX2_betterInsurer_2 : decode cX2_betterInsurer 2 = .ok (.invokevirtual 52, 3) := by decide +kernel
theorem dX2_betterInsurer_5 : decode cX2_betterInsurer 5 = .ok (.astore_n 2, 1) := by decide +kernel
theorem dX2_betterInsurer_6 : decode cX2_betterInsurer 6 = .ok (.aload_n 2, 1) := by decide +kernel
theorem dX2_betterInsurer_7 : decode cX2_betterInsurer 7 = .ok (.ifnonnull 6, 3) := by decide +kernel
theorem dX2_betterInsurer_10 : decode cX2_betterInsurer 10 = .ok (.ldc 67, 2) := by decide +kernel
theorem dX2_betterInsurer_12 : decode cX2_betterInsurer 12 = .ok (.ireturn, 1) := by decide +kernel
theorem dX2_betterInsurer_13 : decode cX2_betterInsurer 13 = .ok (.aload_n 0, 1) := by decide +kernel
theorem dX2_betterInsurer_14 : decode cX2_betterInsurer 14 = .ok (.aload_n 2, 1) := by decide +kernel
theorem dX2_betterInsurer_15 : decode cX2_betterInsurer 15 = .ok (.iconst 0, 1) := by decide +kernel
theorem dX2_betterInsurer_16 : decode cX2_betterInsurer 16 = .ok (.invokevirtual 100, 3) := by decide +kernel
theorem dX2_betterInsurer_19 : decode cX2_betterInsurer 19 = .ok (.aload_n 2, 1) := by decide +kernel
theorem dX2_betterInsurer_20 : decode cX2_betterInsurer 20 = .ok (.getfield 90, 3) := by decide +kernel
theorem dX2_betterInsurer_23 : decode cX2_betterInsurer 23 = .ok (.if_icmp .lt 7, 3) := by decide +kernel
theorem dX2_betterInsurer_26 : decode cX2_betterInsurer 26 = .ok (.iconst 1, 1) := by decide +kernel
theorem dX2_betterInsurer_27 : decode cX2_betterInsurer 27 = .ok (.goto 4, 3) := by decide +kernel
theorem dX2_betterInsurer_30 : decode cX2_betterInsurer 30 = .ok (.iconst 0, 1) := by decide +kernel
theorem dX2_betterInsurer_31 : decode cX2_betterInsurer 31 = .ok (.istore_n 3, 1) := by decide +kernel
theorem dX2_betterInsurer_32 : decode cX2_betterInsurer 32 = .ok (.aload_n 0, 1) := by decide +kernel
theorem dX2_betterInsurer_33 : decode cX2_betterInsurer 33 = .ok (.aload_n 2, 1) := by decide +kernel
theorem dX2_betterInsurer_34 : decode cX2_betterInsurer 34 = .ok (.iconst 1, 1) := by decide +kernel
theorem dX2_betterInsurer_35 : decode cX2_betterInsurer 35 = .ok (.invokevirtual 100, 3) := by decide +kernel
theorem dX2_betterInsurer_38 : decode cX2_betterInsurer 38 = .ok (.aload_n 2, 1) := by decide +kernel
theorem dX2_betterInsurer_39 : decode cX2_betterInsurer 39 = .ok (.getfield 90, 3) := by decide +kernel
theorem dX2_betterInsurer_42 : decode cX2_betterInsurer 42 = .ok (.if_icmp .lt 7, 3) := by decide +kernel
theorem dX2_betterInsurer_45 : decode cX2_betterInsurer 45 = .ok (.iconst 1, 1) := by decide +kernel
theorem dX2_betterInsurer_46 : decode cX2_betterInsurer 46 = .ok (.goto 4, 3) := by decide +kernel
theorem dX2_betterInsurer_49 : decode cX2_betterInsurer 49 = .ok (.iconst 0, 1) := by decide +kernel
theorem dX2_betterInsurer_50 : decode cX2_betterInsurer 50 = .ok (.istore 4, 2) := by decide +kernel
theorem dX2_betterInsurer_52 : decode cX2_betterInsurer 52 = .ok (.iload_n 3, 1) := by decide +kernel
theorem dX2_betterInsurer_53 : decode cX2_betterInsurer 53 = .ok (.ifCond .eq 22, 3) := by decide +kernel
theorem dX2_betterInsurer_56 : decode cX2_betterInsurer 56 = .ok (.iload 4, 2) := by decide +kernel
theorem dX2_betterInsurer_58 : decode cX2_betterInsurer 58 = .ok (.ifCond .eq 17, 3) := by decide +kernel
theorem dX2_betterInsurer_61 : decode cX2_betterInsurer 61 = .ok (.aload_n 0, 1) := by decide +kernel
theorem dX2_betterInsurer_62 : decode cX2_betterInsurer 62 = .ok (.aload_n 2, 1) := by decide +kernel
theorem dX2_betterInsurer_63 : decode cX2_betterInsurer 63 = .ok (.invokevirtual 203, 3) := by decide +kernel
theorem dX2_betterInsurer_66 : decode cX2_betterInsurer 66 = .ok (.ifCond .eq 7, 3) := by decide +kernel
theorem dX2_betterInsurer_69 : decode cX2_betterInsurer 69 = .ok (.iconst 1, 1) := by decide +kernel
theorem dX2_betterInsurer_70 : decode cX2_betterInsurer 70 = .ok (.goto 4, 3) := by decide +kernel
theorem dX2_betterInsurer_73 : decode cX2_betterInsurer 73 = .ok (.iconst 0, 1) := by decide +kernel
theorem dX2_betterInsurer_74 : decode cX2_betterInsurer 74 = .ok (.ireturn, 1) := by decide +kernel
theorem dX2_betterInsurer_75 : decode cX2_betterInsurer 75 = .ok (.iload_n 3, 1) := by decide +kernel
theorem dX2_betterInsurer_76 : decode cX2_betterInsurer 76 = .ok (.ifCond .eq 5, 3) := by decide +kernel
theorem dX2_betterInsurer_79 : decode cX2_betterInsurer 79 = .ok (.iconst 0, 1) := by decide +kernel
theorem dX2_betterInsurer_80 : decode cX2_betterInsurer 80 = .ok (.ireturn, 1) := by decide +kernel
theorem dX2_betterInsurer_81 : decode cX2_betterInsurer 81 = .ok (.iload 4, 2) := by decide +kernel
theorem dX2_betterInsurer_83 : decode cX2_betterInsurer 83 = .ok (.ifCond .eq 7, 3) := by decide +kernel
theorem dX2_betterInsurer_86 : decode cX2_betterInsurer 86 = .ok (.iconst 1, 1) := by decide +kernel
theorem dX2_betterInsurer_87 : decode cX2_betterInsurer 87 = .ok (.goto 5, 3) := by decide +kernel
theorem dX2_betterInsurer_90 : decode cX2_betterInsurer 90 = .ok (.ldc 202, 2) := by decide +kernel
theorem dX2_betterInsurer_92 : decode cX2_betterInsurer 92 = .ok (.ireturn, 1) := by decide +kernel
theorem dX2_isOneBetter_0 : decode cX2_isOneBetter 0 = .ok (.aload_n 0, 1) := by decide +kernel
theorem dX2_isOneBetter_1 : decode cX2_isOneBetter 1 = .ok (.aload_n 1, 1) := by decide +kernel
theorem dX2_isOneBetter_2 : decode cX2_isOneBetter 2 = .ok (.iconst 0, 1) := by decide +kernel
theorem dX2_isOneBetter_3 : decode cX2_isOneBetter 3 = .ok (.invokevirtual 104, 3) := by decide +kernel
theorem dX2_isOneBetter_6 : decode cX2_isOneBetter 6 = .ok (.istore_n 2, 1) := by decide +kernel
theorem dX2_isOneBetter_7 : decode cX2_isOneBetter 7 = .ok (.aload_n 0, 1) := by decide +kernel
theorem dX2_isOneBetter_8 : decode cX2_isOneBetter 8 = .ok (.aload_n 1, 1) := by decide +kernel
theorem dX2_isOneBetter_9 : decode cX2_isOneBetter 9 = .ok (.iconst 1, 1) := by decide +kernel
theorem dX2_isOneBetter_10 : decode cX2_isOneBetter 10 = .ok (.invokevirtual 104, 3) := by decide +kernel
theorem dX2_isOneBetter_13 : decode cX2_isOneBetter 13 = .ok (.istore_n 3, 1) := by decide +kernel
theorem dX2_isOneBetter_14 : decode cX2_isOneBetter 14 = .ok (.iload_n 2, 1) := by decide +kernel
theorem dX2_isOneBetter_15 : decode cX2_isOneBetter 15 = .ok (.iload_n 3, 1) := by decide +kernel
theorem dX2_isOneBetter_16 : decode cX2_isOneBetter 16 = .ok (.if_icmp .eq 14, 3) := by decide +kernel
theorem dX2_isOneBetter_19 : decode cX2_isOneBetter 19 = .ok (.iload_n 3, 1) := by decide +kernel
theorem dX2_isOneBetter_20 : decode cX2_isOneBetter 20 = .ok (.iload_n 2, 1) := by decide +kernel
theorem dX2_isOneBetter_21 : decode cX2_isOneBetter 21 = .ok (.if_icmp .le 7, 3) := by decide +kernel
theorem dX2_isOneBetter_24 : decode cX2_isOneBetter 24 = .ok (.iconst 1, 1) := by decide +kernel
theorem dX2_isOneBetter_25 : decode cX2_isOneBetter 25 = .ok (.goto 4, 3) := by decide +kernel
theorem dX2_isOneBetter_28 : decode cX2_isOneBetter 28 = .ok (.iconst 0, 1) := by decide +kernel
theorem dX2_isOneBetter_29 : decode cX2_isOneBetter 29 = .ok (.ireturn, 1) := by decide +kernel
theorem dX2_isOneBetter_30 : decode cX2_isOneBetter 30 = .ok (.aload_n 0, 1) := by decide +kernel
theorem dX2_isOneBetter_31 : decode cX2_isOneBetter 31 = .ok (.aload_n 1, 1) := by decide +kernel
theorem dX2_isOneBetter_32 : decode cX2_isOneBetter 32 = .ok (.iconst 1, 1) := by decide +kernel
theorem dX2_isOneBetter_33 : decode cX2_isOneBetter 33 = .ok (.invokevirtual 100, 3) := by decide +kernel
theorem dX2_isOneBetter_36 : decode cX2_isOneBetter 36 = .ok (.aload_n 0, 1) := by decide +kernel
theorem dX2_isOneBetter_37 : decode cX2_isOneBetter 37 = .ok (.aload_n 1, 1) := by decide +kernel
theorem dX2_isOneBetter_38 : decode cX2_isOneBetter 38 = .ok (.iconst 0, 1) := by decide +kernel
theorem dX2_isOneBetter_39 : decode cX2_isOneBetter 39 = .ok (.invokevirtual 100, 3) := by decide +kernel
theorem dX2_isOneBetter_42 : decode cX2_isOneBetter 42 = .ok (.if_icmp .le 7, 3) := by decide +kernel
theorem dX2_isOneBetter_45 : decode cX2_isOneBetter 45 = .ok (.iconst 1, 1) := by decide +kernel
theorem dX2_isOneBetter_46 : decode cX2_isOneBetter 46 = .ok (.goto 4, 3) := by decide +kernel
theorem dX2_isOneBetter_49 : decode cX2_isOneBetter 49 = .ok (.iconst 0, 1) := by decide +kernel
theorem dX2_isOneBetter_50 : decode cX2_isOneBetter 50 = .ok (.ireturn, 1) := by decide +kernel
theorem dX2_firstToRunOut_0 : decode cX2_firstToRunOut 0 = .ok (.iload_n 1, 1) := by decide +kernel
theorem dX2_firstToRunOut_1 : decode cX2_firstToRunOut 1 = .ok (.ifCond .lt 8, 3) := by decide +kernel
theorem dX2_firstToRunOut_4 : decode cX2_firstToRunOut 4 = .ok (.iload_n 1, 1) := by decide +kernel
theorem dX2_firstToRunOut_5 : decode cX2_firstToRunOut 5 = .ok (.iconst 1, 1) := by decide +kernel
theorem dX2_firstToRunOut_6 : decode cX2_firstToRunOut 6 = .ok (.if_icmp .le 6, 3) := by decide +kernel
theorem dX2_firstToRunOut_9 : decode cX2_firstToRunOut 9 = .ok (.ldc 67, 2) := by decide +kernel
theorem dX2_firstToRunOut_11 : decode cX2_firstToRunOut 11 = .ok (.ireturn, 1) := by decide +kernel
theorem dX2_firstToRunOut_12 : decode cX2_firstToRunOut 12 = .ok (.ldc 202, 2) := by decide +kernel
theorem dX2_firstToRunOut_14 : decode cX2_firstToRunOut 14 = .ok (.istore_n 2, 1) := by decide +kernel
theorem dX2_firstToRunOut_15 : decode cX2_firstToRunOut 15 = .ok (.ldc 202, 2) := by decide +kernel
theorem dX2_firstToRunOut_17 : decode cX2_firstToRunOut 17 = .ok (.istore_n 3, 1) := by decide +kernel
theorem dX2_firstToRunOut_18 : decode cX2_firstToRunOut 18 = .ok (.iconst 0, 1) := by decide +kernel
theorem dX2_firstToRunOut_19 : decode cX2_firstToRunOut 19 = .ok (.istore 4, 2) := by decide +kernel
theorem dX2_firstToRunOut_21 : decode cX2_firstToRunOut 21 = .ok (.iload 4, 2) := by decide +kernel
theorem dX2_firstToRunOut_23 : decode cX2_firstToRunOut 23 = .ok (.aload_n 0, 1) := by decide +kernel
theorem dX2_firstToRunOut_24 : decode cX2_firstToRunOut 24 = .ok (.getfield 32, 3) := by decide +kernel
theorem dX2_firstToRunOut_27 : decode cX2_firstToRunOut 27 = .ok (.if_icmp .ge 58, 3) := by decide +kernel
theorem dX2_firstToRunOut_30 : decode cX2_firstToRunOut 30 = .ok (.aload_n 0, 1) := by decide +kernel
theorem dX2_firstToRunOut_31 : decode cX2_firstToRunOut 31 = .ok (.iload 4, 2) := by decide +kernel
theorem dX2_firstToRunOut_33 : decode cX2_firstToRunOut 33 = .ok (.invokevirtual 52, 3) := by decide +kernel
theorem dX2_firstToRunOut_36 : decode cX2_firstToRunOut 36 = .ok (.astore 5, 2) := by decide +kernel
theorem dX2_firstToRunOut_38 : decode cX2_firstToRunOut 38 = .ok (.aload 5, 2) := by decide +kernel
theorem dX2_firstToRunOut_40 : decode cX2_firstToRunOut 40 = .ok (.ifnull 39, 3) := by decide +kernel
theorem dX2_firstToRunOut_43 : decode cX2_firstToRunOut 43 = .ok (.aload 5, 2) := by decide +kernel
theorem dX2_firstToRunOut_45 : decode cX2_firstToRunOut 45 = .ok (.getfield 83, 3) := by decide +kernel
theorem dX2_firstToRunOut_48 : decode cX2_firstToRunOut 48 = .ok (.iconst 1, 1) := by decide +kernel
theorem dX2_firstToRunOut_49 : decode cX2_firstToRunOut 49 = .ok (.if_icmp .eq 6, 3) := by decide +kernel
theorem dX2_firstToRunOut_52 : decode cX2_firstToRunOut 52 = .ok (.goto 27, 3) := by decide +kernel
theorem dX2_firstToRunOut_55 : decode cX2_firstToRunOut 55 = .ok (.iload_n 2, 1) := by decide +kernel
theorem dX2_firstToRunOut_56 : decode cX2_firstToRunOut 56 = .ok (.ldc 202, 2) := by decide +kernel
theorem dX2_firstToRunOut_58 : decode cX2_firstToRunOut 58 = .ok (.if_icmp .eq 12, 3) := by decide +kernel
theorem dX2_firstToRunOut_61 : decode cX2_firstToRunOut 61 = .ok (.aload 5, 2) := by decide +kernel
theorem dX2_firstToRunOut_63 : decode cX2_firstToRunOut 63 = .ok (.getfield 128, 3) := by decide +kernel
theorem dX2_firstToRunOut_66 : decode cX2_firstToRunOut 66 = .ok (.iload_n 3, 1) := by decide +kernel
theorem dX2_firstToRunOut_67 : decode cX2_firstToRunOut 67 = .ok (.if_icmp .ge 12, 3) := by decide +kernel
theorem dX2_firstToRunOut_70 : decode cX2_firstToRunOut 70 = .ok (.iload 4, 2) := by decide +kernel
theorem dX2_firstToRunOut_72 : decode cX2_firstToRunOut 72 = .ok (.istore_n 2, 1) := by decide +kernel
theorem dX2_firstToRunOut_73 : decode cX2_firstToRunOut 73 = .ok (.aload 5, 2) := by decide +kernel
theorem dX2_firstToRunOut_75 : decode cX2_firstToRunOut 75 = .ok (.getfield 128, 3) := by decide +kernel
theorem dX2_firstToRunOut_78 : decode cX2_firstToRunOut 78 = .ok (.istore_n 3, 1) := by decide +kernel
theorem dX2_firstToRunOut_79 : decode cX2_firstToRunOut 79 = .ok (.iinc 4 1, 3) := by decide +kernel
theorem dX2_firstToRunOut_82 : decode cX2_firstToRunOut 82 = .ok (.goto (-61), 3) := by decide +kernel
theorem dX2_firstToRunOut_85 : decode cX2_firstToRunOut 85 = .ok (.iload_n 1, 1) := by decide +kernel
theorem dX2_firstToRunOut_86 : decode cX2_firstToRunOut 86 = .ok (.ifCond .ne 7, 3) := by decide +kernel
theorem dX2_firstToRunOut_89 : decode cX2_firstToRunOut 89 = .ok (.iload_n 2, 1) := by decide +kernel
theorem dX2_firstToRunOut_90 : decode cX2_firstToRunOut 90 = .ok (.goto 4, 3) := by decide +kernel
theorem dX2_firstToRunOut_93 : decode cX2_firstToRunOut 93 = .ok (.iload_n 3, 1) := by decide +kernel
theorem dX2_firstToRunOut_94 : decode cX2_firstToRunOut 94 = .ok (.ireturn, 1) := by decide +kernel
theorem dX2_weeksUntilPutOut_0 : decode cX2_weeksUntilPutOut 0 = .ok (.aload_n 0, 1) := by decide +kernel
theorem dX2_weeksUntilPutOut_1 : decode cX2_weeksUntilPutOut 1 = .ok (.iload_n 1, 1) := by decide +kernel
theorem dX2_weeksUntilPutOut_2 : decode cX2_weeksUntilPutOut 2 = .ok (.invokevirtual 52, 3) := by decide +kernel
theorem dX2_weeksUntilPutOut_5 : decode cX2_weeksUntilPutOut 5 = .ok (.astore_n 2, 1) := by decide +kernel
theorem dX2_weeksUntilPutOut_6 : decode cX2_weeksUntilPutOut 6 = .ok (.aload_n 2, 1) := by decide +kernel
theorem dX2_weeksUntilPutOut_7 : decode cX2_weeksUntilPutOut 7 = .ok (.ifnonnull 8, 3) := by decide +kernel
theorem dX2_weeksUntilPutOut_10 : decode cX2_weeksUntilPutOut 10 = .ok (.ldc 67, 2) := by decide +kernel
theorem dX2_weeksUntilPutOut_12 : decode cX2_weeksUntilPutOut 12 = .ok (.goto 11, 3) := by decide +kernel
theorem dX2_weeksUntilPutOut_15 : decode cX2_weeksUntilPutOut 15 = .ok (.aload_n 2, 1) := by decide +kernel
theorem dX2_weeksUntilPutOut_16 : decode cX2_weeksUntilPutOut 16 = .ok (.aload_n 0, 1) := by decide +kernel
theorem dX2_weeksUntilPutOut_17 : decode cX2_weeksUntilPutOut 17 = .ok (.getfield 39, 3) := by decide +kernel
theorem dX2_weeksUntilPutOut_20 : decode cX2_weeksUntilPutOut 20 = .ok (.invokevirtual 207, 3) := by decide +kernel
theorem dX2_weeksUntilPutOut_23 : decode cX2_weeksUntilPutOut 23 = .ok (.ireturn, 1) := by decide +kernel
theorem dX2_shareOfStrength_0 : decode cX2_shareOfStrength 0 = .ok (.aload_n 0, 1) := by decide +kernel
theorem dX2_shareOfStrength_1 : decode cX2_shareOfStrength 1 = .ok (.iload_n 1, 1) := by decide +kernel
theorem dX2_shareOfStrength_2 : decode cX2_shareOfStrength 2 = .ok (.invokevirtual 52, 3) := by decide +kernel
theorem dX2_shareOfStrength_5 : decode cX2_shareOfStrength 5 = .ok (.astore_n 2, 1) := by decide +kernel
theorem dX2_shareOfStrength_6 : decode cX2_shareOfStrength 6 = .ok (.aload_n 2, 1) := by decide +kernel
theorem dX2_shareOfStrength_7 : decode cX2_shareOfStrength 7 = .ok (.ifnull 11, 3) := by decide +kernel
theorem dX2_shareOfStrength_10 : decode cX2_shareOfStrength 10 = .ok (.aload_n 2, 1) := by decide +kernel
theorem dX2_shareOfStrength_11 : decode cX2_shareOfStrength 11 = .ok (.getfield 80, 3) := by decide +kernel
theorem dX2_shareOfStrength_14 : decode cX2_shareOfStrength 14 = .ok (.iconst 1, 1) := by decide +kernel
theorem dX2_shareOfStrength_15 : decode cX2_shareOfStrength 15 = .ok (.if_icmp .ge 6, 3) := by decide +kernel
theorem dX2_shareOfStrength_18 : decode cX2_shareOfStrength 18 = .ok (.ldc 67, 2) := by decide +kernel
theorem dX2_shareOfStrength_20 : decode cX2_shareOfStrength 20 = .ok (.ireturn, 1) := by decide +kernel
theorem dX2_shareOfStrength_21 : decode cX2_shareOfStrength 21 = .ok (.aload_n 2, 1) := by decide +kernel
theorem dX2_shareOfStrength_22 : decode cX2_shareOfStrength 22 = .ok (.invokevirtual 199, 3) := by decide +kernel
theorem dX2_shareOfStrength_25 : decode cX2_shareOfStrength 25 = .ok (.i2f, 1) := by decide +kernel
theorem dX2_shareOfStrength_26 : decode cX2_shareOfStrength 26 = .ok (.aload_n 2, 1) := by decide +kernel
theorem dX2_shareOfStrength_27 : decode cX2_shareOfStrength 27 = .ok (.getfield 80, 3) := by decide +kernel
theorem dX2_shareOfStrength_30 : decode cX2_shareOfStrength 30 = .ok (.i2f, 1) := by decide +kernel
theorem dX2_shareOfStrength_31 : decode cX2_shareOfStrength 31 = .ok (.fdiv, 1) := by decide +kernel
theorem dX2_shareOfStrength_32 : decode cX2_shareOfStrength 32 = .ok (.invokestatic 210, 3) := by decide +kernel
theorem dX2_shareOfStrength_35 : decode cX2_shareOfStrength 35 = .ok (.ireturn, 1) := by decide +kernel
theorem dX2_bitsOfShare_0 : decode cX2_bitsOfShare 0 = .ok (.fload_n 0, 1) := by decide +kernel
theorem dX2_bitsOfShare_1 : decode cX2_bitsOfShare 1 = .ok (.fconst 0, 1) := by decide +kernel
theorem dX2_bitsOfShare_2 : decode cX2_bitsOfShare 2 = .ok (.fcmp .g, 1) := by decide +kernel
theorem dX2_bitsOfShare_3 : decode cX2_bitsOfShare 3 = .ok (.ifCond .gt 5, 3) := by decide +kernel
theorem dX2_bitsOfShare_6 : decode cX2_bitsOfShare 6 = .ok (.iconst 0, 1) := by decide +kernel
theorem dX2_bitsOfShare_7 : decode cX2_bitsOfShare 7 = .ok (.ireturn, 1) := by decide +kernel
theorem dX2_bitsOfShare_8 : decode cX2_bitsOfShare 8 = .ok (.fload_n 0, 1) := by decide +kernel
theorem dX2_bitsOfShare_9 : decode cX2_bitsOfShare 9 = .ok (.fstore_n 1, 1) := by decide +kernel
theorem dX2_bitsOfShare_10 : decode cX2_bitsOfShare 10 = .ok (.bipush 127, 2) := by decide +kernel
theorem dX2_bitsOfShare_12 : decode cX2_bitsOfShare 12 = .ok (.istore_n 2, 1) := by decide +kernel
theorem dX2_bitsOfShare_13 : decode cX2_bitsOfShare 13 = .ok (.iconst 0, 1) := by decide +kernel
theorem dX2_bitsOfShare_14 : decode cX2_bitsOfShare 14 = .ok (.istore_n 3, 1) := by decide +kernel
theorem dX2_bitsOfShare_15 : decode cX2_bitsOfShare 15 = .ok (.iload_n 3, 1) := by decide +kernel
theorem dX2_bitsOfShare_16 : decode cX2_bitsOfShare 16 = .ok (.bipush 126, 2) := by decide +kernel
theorem dX2_bitsOfShare_18 : decode cX2_bitsOfShare 18 = .ok (.if_icmp .ge 22, 3) := by decide +kernel
theorem dX2_bitsOfShare_21 : decode cX2_bitsOfShare 21 = .ok (.fload_n 1, 1) := by decide +kernel
theorem dX2_bitsOfShare_22 : decode cX2_bitsOfShare 22 = .ok (.fconst 1, 1) := by decide +kernel
theorem dX2_bitsOfShare_23 : decode cX2_bitsOfShare 23 = .ok (.fcmp .g, 1) := by decide +kernel
theorem dX2_bitsOfShare_24 : decode cX2_bitsOfShare 24 = .ok (.ifCond .ge 16, 3) := by decide +kernel
theorem dX2_bitsOfShare_27 : decode cX2_bitsOfShare 27 = .ok (.fload_n 1, 1) := by decide +kernel
theorem dX2_bitsOfShare_28 : decode cX2_bitsOfShare 28 = .ok (.fconst 2, 1) := by decide +kernel
theorem dX2_bitsOfShare_29 : decode cX2_bitsOfShare 29 = .ok (.fmul, 1) := by decide +kernel
theorem dX2_bitsOfShare_30 : decode cX2_bitsOfShare 30 = .ok (.fstore_n 1, 1) := by decide +kernel
theorem dX2_bitsOfShare_31 : decode cX2_bitsOfShare 31 = .ok (.iinc 2 (-1), 3) := by decide +kernel
theorem dX2_bitsOfShare_34 : decode cX2_bitsOfShare 34 = .ok (.iinc 3 1, 3) := by decide +kernel
theorem dX2_bitsOfShare_37 : decode cX2_bitsOfShare 37 = .ok (.goto (-22), 3) := by decide +kernel
theorem dX2_bitsOfShare_40 : decode cX2_bitsOfShare 40 = .ok (.iload_n 2, 1) := by decide +kernel
theorem dX2_bitsOfShare_41 : decode cX2_bitsOfShare 41 = .ok (.bipush 23, 2) := by decide +kernel
theorem dX2_bitsOfShare_43 : decode cX2_bitsOfShare 43 = .ok (.ishl, 1) := by decide +kernel
theorem dX2_bitsOfShare_44 : decode cX2_bitsOfShare 44 = .ok (.fload_n 1, 1) := by decide +kernel
theorem dX2_bitsOfShare_45 : decode cX2_bitsOfShare 45 = .ok (.fconst 1, 1) := by decide +kernel
theorem dX2_bitsOfShare_46 : decode cX2_bitsOfShare 46 = .ok (.fsub, 1) := by decide +kernel
theorem dX2_bitsOfShare_47 : decode cX2_bitsOfShare 47 = .ok (.ldc 214, 2) := by decide +kernel
theorem dX2_bitsOfShare_49 : decode cX2_bitsOfShare 49 = .ok (.fmul, 1) := by decide +kernel
theorem dX2_bitsOfShare_50 : decode cX2_bitsOfShare 50 = .ok (.f2i, 1) := by decide +kernel
theorem dX2_bitsOfShare_51 : decode cX2_bitsOfShare 51 = .ok (.iadd, 1) := by decide +kernel
theorem dX2_bitsOfShare_52 : decode cX2_bitsOfShare 52 = .ok (.ireturn, 1) := by decide +kernel
theorem dX2_numberOf_0 : decode cX2_numberOf 0 = .ok (.iload_n 1, 1) := by decide +kernel
theorem dX2_numberOf_1 : decode cX2_numberOf 1 = .ok (.bipush 20, 2) := by decide +kernel
theorem dX2_numberOf_3 : decode cX2_numberOf 3 = .ok (.if_icmp .lt 18, 3) := by decide +kernel
theorem dX2_numberOf_6 : decode cX2_numberOf 6 = .ok (.iload_n 1, 1) := by decide +kernel
theorem dX2_numberOf_7 : decode cX2_numberOf 7 = .ok (.bipush 23, 2) := by decide +kernel
theorem dX2_numberOf_9 : decode cX2_numberOf 9 = .ok (.if_icmp .gt 12, 3) := by decide +kernel
theorem dX2_numberOf_12 : decode cX2_numberOf 12 = .ok (.aload_n 0, 1) := by decide +kernel
theorem dX2_numberOf_13 : decode cX2_numberOf 13 = .ok (.iload_n 1, 1) := by decide +kernel
theorem dX2_numberOf_14 : decode cX2_numberOf 14 = .ok (.bipush 20, 2) := by decide +kernel
theorem dX2_numberOf_16 : decode cX2_numberOf 16 = .ok (.isub, 1) := by decide +kernel
theorem dX2_numberOf_17 : decode cX2_numberOf 17 = .ok (.invokevirtual 118, 3) := by decide +kernel
theorem dX2_numberOf_20 : decode cX2_numberOf 20 = .ok (.ireturn, 1) := by decide +kernel
theorem dX2_numberOf_21 : decode cX2_numberOf 21 = .ok (.iload_n 1, 1) := by decide +kernel
theorem dX2_numberOf_22 : decode cX2_numberOf 22 = .ok (.tableswitch 114 0 12 #[66, 71, 76, 81, 81, 81, 81, 87, 92, 98, 104, 109, 81], 66) := by decide +kernel
theorem dX2_numberOf_88 : decode cX2_numberOf 88 = .ok (.aload_n 0, 1) := by decide +kernel
theorem dX2_numberOf_89 : decode cX2_numberOf 89 = .ok (.getfield 32, 3) := by decide +kernel
theorem dX2_numberOf_92 : decode cX2_numberOf 92 = .ok (.ireturn, 1) := by decide +kernel
theorem dX2_numberOf_93 : decode cX2_numberOf 93 = .ok (.aload_n 0, 1) := by decide +kernel
theorem dX2_numberOf_94 : decode cX2_numberOf 94 = .ok (.getfield 36, 3) := by decide +kernel
theorem dX2_numberOf_97 : decode cX2_numberOf 97 = .ok (.ireturn, 1) := by decide +kernel
theorem dX2_numberOf_98 : decode cX2_numberOf 98 = .ok (.aload_n 0, 1) := by decide +kernel
theorem dX2_numberOf_99 : decode cX2_numberOf 99 = .ok (.getfield 39, 3) := by decide +kernel
theorem dX2_numberOf_102 : decode cX2_numberOf 102 = .ok (.ireturn, 1) := by decide +kernel
theorem dX2_numberOf_103 : decode cX2_numberOf 103 = .ok (.aload_n 0, 1) := by decide +kernel
theorem dX2_numberOf_104 : decode cX2_numberOf 104 = .ok (.iload_n 1, 1) := by decide +kernel
theorem dX2_numberOf_105 : decode cX2_numberOf 105 = .ok (.invokevirtual 215, 3) := by decide +kernel
theorem dX2_numberOf_108 : decode cX2_numberOf 108 = .ok (.ireturn, 1) := by decide +kernel
theorem dX2_numberOf_109 : decode cX2_numberOf 109 = .ok (.aload_n 0, 1) := by decide +kernel
theorem dX2_numberOf_110 : decode cX2_numberOf 110 = .ok (.invokevirtual 218, 3) := by decide +kernel
theorem dX2_numberOf_113 : decode cX2_numberOf 113 = .ok (.ireturn, 1) := by decide +kernel
theorem dX2_numberOf_114 : decode cX2_numberOf 114 = .ok (.aload_n 0, 1) := by decide +kernel
theorem dX2_numberOf_115 : decode cX2_numberOf 115 = .ok (.iconst 3, 1) := by decide +kernel
theorem dX2_numberOf_116 : decode cX2_numberOf 116 = .ok (.invokevirtual 221, 3) := by decide +kernel
theorem dX2_numberOf_119 : decode cX2_numberOf 119 = .ok (.ireturn, 1) := by decide +kernel
theorem dX2_numberOf_120 : decode cX2_numberOf 120 = .ok (.aload_n 0, 1) := by decide +kernel
theorem dX2_numberOf_121 : decode cX2_numberOf 121 = .ok (.iconst 4, 1) := by decide +kernel
theorem dX2_numberOf_122 : decode cX2_numberOf 122 = .ok (.invokevirtual 221, 3) := by decide +kernel
theorem dX2_numberOf_125 : decode cX2_numberOf 125 = .ok (.ireturn, 1) := by decide +kernel
theorem dX2_numberOf_126 : decode cX2_numberOf 126 = .ok (.aload_n 0, 1) := by decide +kernel
theorem dX2_numberOf_127 : decode cX2_numberOf 127 = .ok (.getfield 42, 3) := by decide +kernel
theorem dX2_numberOf_130 : decode cX2_numberOf 130 = .ok (.ireturn, 1) := by decide +kernel
theorem dX2_numberOf_131 : decode cX2_numberOf 131 = .ok (.aload_n 0, 1) := by decide +kernel
theorem dX2_numberOf_132 : decode cX2_numberOf 132 = .ok (.getfield 45, 3) := by decide +kernel
theorem dX2_numberOf_135 : decode cX2_numberOf 135 = .ok (.ireturn, 1) := by decide +kernel
theorem dX2_numberOf_136 : decode cX2_numberOf 136 = .ok (.ldc 67, 2) := by decide +kernel
theorem dX2_numberOf_138 : decode cX2_numberOf 138 = .ok (.ireturn, 1) := by decide +kernel
theorem dX2_setOfBoilers_0 : decode cX2_setOfBoilers 0 = .ok (.iconst 0, 1) := by decide +kernel
theorem dX2_setOfBoilers_1 : decode cX2_setOfBoilers 1 = .ok (.istore_n 2, 1) := by decide +kernel
theorem dX2_setOfBoilers_2 : decode cX2_setOfBoilers 2 = .ok (.iconst 0, 1) := by decide +kernel
theorem dX2_setOfBoilers_3 : decode cX2_setOfBoilers 3 = .ok (.istore_n 3, 1) := by decide +kernel
theorem dX2_setOfBoilers_4 : decode cX2_setOfBoilers 4 = .ok (.iload_n 3, 1) := by decide +kernel
theorem dX2_setOfBoilers_5 : decode cX2_setOfBoilers 5 = .ok (.aload_n 0, 1) := by decide +kernel
theorem dX2_setOfBoilers_6 : decode cX2_setOfBoilers 6 = .ok (.getfield 32, 3) := by decide +kernel
theorem dX2_setOfBoilers_9 : decode cX2_setOfBoilers 9 = .ok (.if_icmp .ge 37, 3) := by decide +kernel
theorem dX2_setOfBoilers_12 : decode cX2_setOfBoilers 12 = .ok (.aload_n 0, 1) := by decide +kernel
theorem dX2_setOfBoilers_13 : decode cX2_setOfBoilers 13 = .ok (.iload_n 3, 1) := by decide +kernel
theorem dX2_setOfBoilers_14 : decode cX2_setOfBoilers 14 = .ok (.invokevirtual 52, 3) := by decide +kernel
theorem dX2_setOfBoilers_17 : decode cX2_setOfBoilers 17 = .ok (.astore 4, 2) := by decide +kernel
theorem dX2_setOfBoilers_19 : decode cX2_setOfBoilers 19 = .ok (.aload 4, 2) := by decide +kernel
theorem dX2_setOfBoilers_21 : decode cX2_setOfBoilers 21 = .ok (.ifnull 19, 3) := by decide +kernel
theorem dX2_setOfBoilers_24 : decode cX2_setOfBoilers 24 = .ok (.aload_n 0, 1) := by decide +kernel
theorem dX2_setOfBoilers_25 : decode cX2_setOfBoilers 25 = .ok (.aload 4, 2) := by decide +kernel
theorem dX2_setOfBoilers_27 : decode cX2_setOfBoilers 27 = .ok (.iload_n 1, 1) := by decide +kernel
theorem dX2_setOfBoilers_28 : decode cX2_setOfBoilers 28 = .ok (.invokevirtual 224, 3) := by decide +kernel
theorem dX2_setOfBoilers_31 : decode cX2_setOfBoilers 31 = .ok (.ifCond .eq 9, 3) := by decide +kernel
theorem dX2_setOfBoilers_34 : decode cX2_setOfBoilers 34 = .ok (.iload_n 2, 1) := by decide +kernel
theorem dX2_setOfBoilers_35 : decode cX2_setOfBoilers 35 = .ok (.iconst 1, 1) := by decide +kernel
theorem dX2_setOfBoilers_36 : decode cX2_setOfBoilers 36 = .ok (.iload_n 3, 1) := by decide +kernel
theorem dX2_setOfBoilers_37 : decode cX2_setOfBoilers 37 = .ok (.ishl, 1) := by decide +kernel
theorem dX2_setOfBoilers_38 : decode cX2_setOfBoilers 38 = .ok (.ior, 1) := by decide +kernel
theorem dX2_setOfBoilers_39 : decode cX2_setOfBoilers 39 = .ok (.istore_n 2, 1) := by decide +kernel
theorem dX2_setOfBoilers_40 : decode cX2_setOfBoilers 40 = .ok (.iinc 3 1, 3) := by decide +kernel
theorem dX2_setOfBoilers_43 : decode cX2_setOfBoilers 43 = .ok (.goto (-39), 3) := by decide +kernel
theorem dX2_setOfBoilers_46 : decode cX2_setOfBoilers 46 = .ok (.iload_n 2, 1) := by decide +kernel
theorem dX2_setOfBoilers_47 : decode cX2_setOfBoilers 47 = .ok (.ireturn, 1) := by decide +kernel
theorem dX2_isInSet_0 : decode cX2_isInSet 0 = .ok (.iload_n 2, 1) := by decide +kernel
theorem dX2_isInSet_1 : decode cX2_isInSet 1 = .ok (.tableswitch 69 3 6 #[31, 45, 59, 64], 31) := by decide +kernel
theorem dX2_isInSet_32 : decode cX2_isInSet 32 = .ok (.aload_n 1, 1) := by decide +kernel
theorem dX2_isInSet_33 : decode cX2_isInSet 33 = .ok (.getfield 83, 3) := by decide +kernel
theorem dX2_isInSet_36 : decode cX2_isInSet 36 = .ok (.iconst 1, 1) := by decide +kernel
theorem dX2_isInSet_37 : decode cX2_isInSet 37 = .ok (.if_icmp .ne 7, 3) := by decide +kernel
theorem dX2_isInSet_40 : decode cX2_isInSet 40 = .ok (.iconst 1, 1) := by decide +kernel
theorem dX2_isInSet_41 : decode cX2_isInSet 41 = .ok (.goto 4, 3) := by decide +kernel
theorem dX2_isInSet_44 : decode cX2_isInSet 44 = .ok (.iconst 0, 1) := by decide +kernel
theorem dX2_isInSet_45 : decode cX2_isInSet 45 = .ok (.ireturn, 1) := by decide +kernel
theorem dX2_isInSet_46 : decode cX2_isInSet 46 = .ok (.aload_n 1, 1) := by decide +kernel
theorem dX2_isInSet_47 : decode cX2_isInSet 47 = .ok (.getfield 83, 3) := by decide +kernel
theorem dX2_isInSet_50 : decode cX2_isInSet 50 = .ok (.iconst 2, 1) := by decide +kernel
theorem dX2_isInSet_51 : decode cX2_isInSet 51 = .ok (.if_icmp .ne 7, 3) := by decide +kernel
theorem dX2_isInSet_54 : decode cX2_isInSet 54 = .ok (.iconst 1, 1) := by decide +kernel
theorem dX2_isInSet_55 : decode cX2_isInSet 55 = .ok (.goto 4, 3) := by decide +kernel
theorem dX2_isInSet_58 : decode cX2_isInSet 58 = .ok (.iconst 0, 1) := by decide +kernel
theorem dX2_isInSet_59 : decode cX2_isInSet 59 = .ok (.ireturn, 1) := by decide +kernel
theorem dX2_isInSet_60 : decode cX2_isInSet 60 = .ok (.aload_n 1, 1) := by decide +kernel
theorem dX2_isInSet_61 : decode cX2_isInSet 61 = .ok (.getfield 228, 3) := by decide +kernel
theorem dX2_isInSet_64 : decode cX2_isInSet 64 = .ok (.ireturn, 1) := by decide +kernel
theorem dX2_isInSet_65 : decode cX2_isInSet 65 = .ok (.aload_n 1, 1) := by decide +kernel
theorem dX2_isInSet_66 : decode cX2_isInSet 66 = .ok (.getfield 231, 3) := by decide +kernel
theorem dX2_isInSet_69 : decode cX2_isInSet 69 = .ok (.ireturn, 1) := by decide +kernel
theorem dX2_isInSet_70 : decode cX2_isInSet 70 = .ok (.aload_n 1, 1) := by decide +kernel
theorem dX2_isInSet_71 : decode cX2_isInSet 71 = .ok (.aload_n 0, 1) := by decide +kernel
theorem dX2_isInSet_72 : decode cX2_isInSet 72 = .ok (.getfield 39, 3) := by decide +kernel
theorem dX2_isInSet_75 : decode cX2_isInSet 75 = .ok (.invokevirtual 125, 3) := by decide +kernel
theorem dX2_isInSet_78 : decode cX2_isInSet 78 = .ok (.ifCond .ne 7, 3) := by decide +kernel
theorem dX2_isInSet_81 : decode cX2_isInSet 81 = .ok (.iconst 1, 1) := by decide +kernel
theorem dX2_isInSet_82 : decode cX2_isInSet 82 = .ok (.goto 4, 3) := by decide +kernel
theorem dX2_isInSet_85 : decode cX2_isInSet 85 = .ok (.iconst 0, 1) := by decide +kernel
theorem dX2_isInSet_86 : decode cX2_isInSet 86 = .ok (.ireturn, 1) := by decide +kernel
theorem dX2_allAccounts_0 : decode cX2_allAccounts 0 = .ok (.iconst 0, 1) := by decide +kernel
theorem dX2_allAccounts_1 : decode cX2_allAccounts 1 = .ok (.istore_n 1, 1) := by decide +kernel
theorem dX2_allAccounts_2 : decode cX2_allAccounts 2 = .ok (.aload_n 0, 1) := by decide +kernel
theorem dX2_allAccounts_3 : decode cX2_allAccounts 3 = .ok (.getfield 27, 3) := by decide +kernel
theorem dX2_allAccounts_6 : decode cX2_allAccounts 6 = .ok (.astore_n 2, 1) := by decide +kernel
theorem dX2_allAccounts_7 : decode cX2_allAccounts 7 = .ok (.aload_n 2, 1) := by decide +kernel
theorem dX2_allAccounts_8 : decode cX2_allAccounts 8 = .ok (.arraylength, 1) := by decide +kernel
theorem dX2_allAccounts_9 : decode cX2_allAccounts 9 = .ok (.istore_n 3, 1) := by decide +kernel
theorem dX2_allAccounts_10 : decode cX2_allAccounts 10 = .ok (.iconst 0, 1) := by decide +kernel
theorem dX2_allAccounts_11 : decode cX2_allAccounts 11 = .ok (.istore 4, 2) := by decide +kernel
theorem dX2_allAccounts_13 : decode cX2_allAccounts 13 = .ok (.iload 4, 2) := by decide +kernel
theorem dX2_allAccounts_15 : decode cX2_allAccounts 15 = .ok (.iload_n 3, 1) := by decide +kernel
theorem dX2_allAccounts_16 : decode cX2_allAccounts 16 = .ok (.if_icmp .ge 20, 3) := by decide +kernel
theorem dX2_allAccounts_19 : decode cX2_allAccounts 19 = .ok (.aload_n 2, 1) := by decide +kernel
theorem dX2_allAccounts_20 : decode cX2_allAccounts 20 = .ok (.iload 4, 2) := by decide +kernel
theorem dX2_allAccounts_22 : decode cX2_allAccounts 22 = .ok (.iaload, 1) := by decide +kernel
theorem dX2_allAccounts_23 : decode cX2_allAccounts 23 = .ok (.istore 5, 2) := by decide +kernel
theorem dX2_allAccounts_25 : decode cX2_allAccounts 25 = .ok (.iload_n 1, 1) := by decide +kernel
theorem dX2_allAccounts_26 : decode cX2_allAccounts 26 = .ok (.iload 5, 2) := by decide +kernel
theorem dX2_allAccounts_28 : decode cX2_allAccounts 28 = .ok (.iadd, 1) := by decide +kernel
theorem dX2_allAccounts_29 : decode cX2_allAccounts 29 = .ok (.istore_n 1, 1) := by decide +kernel
theorem dX2_allAccounts_30 : decode cX2_allAccounts 30 = .ok (.iinc 4 1, 3) := by decide +kernel
theorem dX2_allAccounts_33 : decode cX2_allAccounts 33 = .ok (.goto (-20), 3) := by decide +kernel
theorem dX2_allAccounts_36 : decode cX2_allAccounts 36 = .ok (.iload_n 1, 1) := by decide +kernel
theorem dX2_allAccounts_37 : decode cX2_allAccounts 37 = .ok (.ireturn, 1) := by decide +kernel
theorem dX2_allOfInspectors_0 : decode cX2_allOfInspectors 0 = .ok (.iconst 0, 1) := by decide +kernel
theorem dX2_allOfInspectors_1 : decode cX2_allOfInspectors 1 = .ok (.istore_n 2, 1) := by decide +kernel
theorem dX2_allOfInspectors_2 : decode cX2_allOfInspectors 2 = .ok (.iconst 0, 1) := by decide +kernel
theorem dX2_allOfInspectors_3 : decode cX2_allOfInspectors 3 = .ok (.istore_n 3, 1) := by decide +kernel
theorem dX2_allOfInspectors_4 : decode cX2_allOfInspectors 4 = .ok (.iload_n 3, 1) := by decide +kernel
theorem dX2_allOfInspectors_5 : decode cX2_allOfInspectors 5 = .ok (.aload_n 0, 1) := by decide +kernel
theorem dX2_allOfInspectors_6 : decode cX2_allOfInspectors 6 = .ok (.getfield 36, 3) := by decide +kernel
theorem dX2_allOfInspectors_9 : decode cX2_allOfInspectors 9 = .ok (.if_icmp .ge 30, 3) := by decide +kernel
theorem dX2_allOfInspectors_12 : decode cX2_allOfInspectors 12 = .ok (.aload_n 0, 1) := by decide +kernel
theorem dX2_allOfInspectors_13 : decode cX2_allOfInspectors 13 = .ok (.iload_n 3, 1) := by decide +kernel
theorem dX2_allOfInspectors_14 : decode cX2_allOfInspectors 14 = .ok (.invokevirtual 60, 3) := by decide +kernel
theorem dX2_allOfInspectors_17 : decode cX2_allOfInspectors 17 = .ok (.astore 4, 2) := by decide +kernel
theorem dX2_allOfInspectors_19 : decode cX2_allOfInspectors 19 = .ok (.aload 4, 2) := by decide +kernel
theorem dX2_allOfInspectors_21 : decode cX2_allOfInspectors 21 = .ok (.ifnull 12, 3) := by decide +kernel
theorem dX2_allOfInspectors_24 : decode cX2_allOfInspectors 24 = .ok (.iload_n 2, 1) := by decide +kernel
theorem dX2_allOfInspectors_25 : decode cX2_allOfInspectors 25 = .ok (.aload 4, 2) := by decide +kernel
theorem dX2_allOfInspectors_27 : decode cX2_allOfInspectors 27 = .ok (.iload_n 1, 1) := by decide +kernel
theorem dX2_allOfInspectors_28 : decode cX2_allOfInspectors 28 = .ok (.invokevirtual 197, 3) := by decide +kernel
theorem dX2_allOfInspectors_31 : decode cX2_allOfInspectors 31 = .ok (.iadd, 1) := by decide +kernel
theorem dX2_allOfInspectors_32 : decode cX2_allOfInspectors 32 = .ok (.istore_n 2, 1) := by decide +kernel
theorem dX2_allOfInspectors_33 : decode cX2_allOfInspectors 33 = .ok (.iinc 3 1, 3) := by decide +kernel
theorem dX2_allOfInspectors_36 : decode cX2_allOfInspectors 36 = .ok (.goto (-32), 3) := by decide +kernel
theorem dX2_allOfInspectors_39 : decode cX2_allOfInspectors 39 = .ok (.iload_n 2, 1) := by decide +kernel
theorem dX2_allOfInspectors_40 : decode cX2_allOfInspectors 40 = .ok (.ireturn, 1) := by decide +kernel
theorem dX3_init_0 : decode cX3_init 0 = .ok (.aload_n 0, 1) := by decide +kernel
theorem dX3_init_1 : decode cX3_init 1 = .ok (.invokespecial 3, 3) := by decide +kernel
theorem dX3_init_4 : decode cX3_init 4 = .ok (.return_, 1) := by decide +kernel
theorem dX3_begin_0 : decode cX3_begin 0 = .ok (.aload_n 0, 1) := by decide +kernel
theorem dX3_begin_1 : decode cX3_begin 1 = .ok (.iload_n 1, 1) := by decide +kernel
theorem dX3_begin_2 : decode cX3_begin 2 = .ok (.putfield 9, 3) := by decide +kernel
theorem dX3_begin_5 : decode cX3_begin 5 = .ok (.aload_n 0, 1) := by decide +kernel
theorem dX3_begin_6 : decode cX3_begin 6 = .ok (.iload_n 2, 1) := by decide +kernel
theorem dX3_begin_7 : decode cX3_begin 7 = .ok (.putfield 15, 3) := by decide +kernel
theorem dX3_begin_10 : decode cX3_begin 10 = .ok (.aload_n 0, 1) := by decide +kernel
theorem dX3_begin_11 : decode cX3_begin 11 = .ok (.iconst 0, 1) := by decide +kernel
theorem dX3_begin_12 : decode cX3_begin 12 = .ok (.putfield 18, 3) := by decide +kernel
theorem dX3_begin_15 : decode cX3_begin 15 = .ok (.aload_n 0, 1) := by decide +kernel
theorem dX3_begin_16 : decode cX3_begin 16 = .ok (.iconst 0, 1) := by decide +kernel
theorem dX3_begin_17 : decode cX3_begin 17 = .ok (.putfield 21, 3) := by decide +kernel
theorem dX3_begin_20 : decode cX3_begin 20 = .ok (.aload_n 0, 1) := by decide +kernel
theorem dX3_begin_21 : decode cX3_begin 21 = .ok (.iconst 0, 1) := by decide +kernel
theorem dX3_begin_22 : decode cX3_begin 22 = .ok (.putfield 24, 3) := by decide +kernel
theorem dX3_begin_25 : decode cX3_begin 25 = .ok (.return_, 1) := by decide +kernel
theorem dX3_copyFrom_0 : decode cX3_copyFrom 0 = .ok (.aload_n 0, 1) := by decide +kernel
theorem dX3_copyFrom_1 : decode cX3_copyFrom 1 = .ok (.aload_n 1, 1) := by decide +kernel
theorem dX3_copyFrom_2 : decode cX3_copyFrom 2 = .ok (.getfield 9, 3) := by decide +kernel
theorem dX3_copyFrom_5 : decode cX3_copyFrom 5 = .ok (.putfield 9, 3) := by decide +kernel
theorem dX3_copyFrom_8 : decode cX3_copyFrom 8 = .ok (.aload_n 0, 1) := by decide +kernel
theorem dX3_copyFrom_9 : decode cX3_copyFrom 9 = .ok (.aload_n 1, 1) := by decide +kernel
theorem dX3_copyFrom_10 : decode cX3_copyFrom 10 = .ok (.getfield 15, 3) := by decide +kernel
theorem dX3_copyFrom_13 : decode cX3_copyFrom 13 = .ok (.putfield 15, 3) := by decide +kernel
theorem dX3_copyFrom_16 : decode cX3_copyFrom 16 = .ok (.aload_n 0, 1) := by decide +kernel
theorem dX3_copyFrom_17 : decode cX3_copyFrom 17 = .ok (.aload_n 1, 1) := by decide +kernel
theorem dX3_copyFrom_18 : decode cX3_copyFrom 18 = .ok (.getfield 18, 3) := by decide +kernel
theorem dX3_copyFrom_21 : decode cX3_copyFrom 21 = .ok (.putfield 18, 3) := by decide +kernel
theorem dX3_copyFrom_24 : decode cX3_copyFrom 24 = .ok (.aload_n 0, 1) := by decide +kernel
theorem dX3_copyFrom_25 : decode cX3_copyFrom 25 = .ok (.aload_n 1, 1) := by decide +kernel
theorem dX3_copyFrom_26 : decode cX3_copyFrom 26 = .ok (.getfield 21, 3) := by decide +kernel
theorem dX3_copyFrom_29 : decode cX3_copyFrom 29 = .ok (.putfield 21, 3) := by decide +kernel
theorem dX3_copyFrom_32 : decode cX3_copyFrom 32 = .ok (.aload_n 0, 1) := by decide +kernel
theorem dX3_copyFrom_33 : decode cX3_copyFrom 33 = .ok (.aload_n 1, 1) := by decide +kernel
theorem dX3_copyFrom_34 : decode cX3_copyFrom 34 = .ok (.getfield 24, 3) := by decide +kernel
theorem dX3_copyFrom_37 : decode cX3_copyFrom 37 = .ok (.putfield 24, 3) := by decide +kernel
theorem dX3_copyFrom_40 : decode cX3_copyFrom 40 = .ok (.return_, 1) := by decide +kernel
theorem dX3_left_0 : decode cX3_left 0 = .ok (.aload_n 0, 1) := by decide +kernel
theorem dX3_left_1 : decode cX3_left 1 = .ok (.getfield 15, 3) := by decide +kernel
theorem dX3_left_4 : decode cX3_left 4 = .ok (.aload_n 0, 1) := by decide +kernel
theorem dX3_left_5 : decode cX3_left 5 = .ok (.getfield 18, 3) := by decide +kernel
theorem dX3_left_8 : decode cX3_left 8 = .ok (.isub, 1) := by decide +kernel
theorem dX3_left_9 : decode cX3_left 9 = .ok (.ireturn, 1) := by decide +kernel
theorem dX3_noteInspection_0 : decode cX3_noteInspection 0 = .ok (.aload_n 0, 1) := by decide +kernel
theorem dX3_noteInspection_1 : decode cX3_noteInspection 1 = .ok (.dup, 1) := by decide +kernel
theorem dX3_noteInspection_2 : decode cX3_noteInspection 2 = .ok (.getfield 18, 3) := by decide +kernel
theorem dX3_noteInspection_5 : decode cX3_noteInspection 5 = .ok (.iconst 1, 1) := by decide +kernel
theorem dX3_noteInspection_6 : decode cX3_noteInspection 6 = .ok (.iadd, 1) := by decide +kernel
theorem dX3_noteInspection_7 : decode cX3_noteInspection 7 = .ok (.putfield 18, 3) := by decide +kernel
theorem dX3_noteInspection_10 : decode cX3_noteInspection 10 = .ok (.aload_n 0, 1) := by decide +kernel
theorem dX3_noteInspection_11 : decode cX3_noteInspection 11 = .ok (.dup, 1) := by decide +kernel
theorem dX3_noteInspection_12 : decode cX3_noteInspection 12 = .ok (.getfield 21, 3) := by decide +kernel
theorem dX3_noteInspection_15 : decode cX3_noteInspection 15 = .ok (.iconst 1, 1) := by decide +kernel
theorem dX3_noteInspection_16 : decode cX3_noteInspection 16 = .ok (.iadd, 1) := by decide +kernel
theorem dX3_noteInspection_17 : decode cX3_noteInspection 17 = .ok (.putfield 21, 3) := by decide +kernel
theorem dX3_noteInspection_20 : decode cX3_noteInspection 20 = .ok (.iload_n 1, 1) := by decide +kernel
theorem dX3_noteInspection_21 : decode cX3_noteInspection 21 = .ok (.ifCond .eq 13, 3) := by decide +kernel
theorem dX3_noteInspection_24 : decode cX3_noteInspection 24 = .ok (.aload_n 0, 1) := by decide +kernel
theorem dX3_noteInspection_25 : decode cX3_noteInspection 25 = .ok (.dup, 1) := by decide +kernel
theorem dX3_noteInspection_26 : decode cX3_noteInspection 26 = .ok (.getfield 24, 3) := by decide +kernel
theorem dX3_noteInspection_29 : decode cX3_noteInspection 29 = .ok (.iconst 1, 1) := by decide +kernel
theorem dX3_noteInspection_30 : decode cX3_noteInspection 30 = .ok (.iadd, 1) := by decide +kernel
theorem dX3_noteInspection_31 : decode cX3_noteInspection 31 = .ok (.putfield 24, 3) := by decide +kernel
theorem dX3_noteInspection_34 : decode cX3_noteInspection 34 = .ok (.return_, 1) := by decide +kernel
theorem dX3_beginWeek_0 : decode cX3_beginWeek 0 = .ok (.aload_n 0, 1) := by decide +kernel
theorem dX3_beginWeek_1 : decode cX3_beginWeek 1 = .ok (.iconst 0, 1) := by decide +kernel
theorem dX3_beginWeek_2 : decode cX3_beginWeek 2 = .ok (.putfield 18, 3) := by decide +kernel
theorem dX3_beginWeek_5 : decode cX3_beginWeek 5 = .ok (.return_, 1) := by decide +kernel
theorem dX3_fact_0 : decode cX3_fact 0 = .ok (.iload_n 1, 1) := by decide +kernel
theorem dX3_fact_1 : decode cX3_fact 1 = .ok (.tableswitch 60 0 4 #[35, 40, 45, 50, 55], 35) := by decide +kernel
theorem dX3_fact_36 : decode cX3_fact 36 = .ok (.aload_n 0, 1) := by decide +kernel
theorem dX3_fact_37 : decode cX3_fact 37 = .ok (.getfield 9, 3) := by decide +kernel
theorem dX3_fact_40 : decode cX3_fact 40 = .ok (.ireturn, 1) := by decide +kernel
theorem dX3_fact_41 : decode cX3_fact 41 = .ok (.aload_n 0, 1) := by decide +kernel
theorem dX3_fact_42 : decode cX3_fact 42 = .ok (.getfield 15, 3) := by decide +kernel
theorem dX3_fact_45 : decode cX3_fact 45 = .ok (.ireturn, 1) := by decide +kernel
theorem dX3_fact_46 : decode cX3_fact 46 = .ok (.aload_n 0, 1) := by decide +kernel
theorem dX3_fact_47 : decode cX3_fact 47 = .ok (.invokevirtual 27, 3) := by decide +kernel
theorem dX3_fact_50 : decode cX3_fact 50 = .ok (.ireturn, 1) := by decide +kernel
theorem dX3_fact_51 : decode cX3_fact 51 = .ok (.aload_n 0, 1) := by decide +kernel
theorem dX3_fact_52 : decode cX3_fact 52 = .ok (.getfield 21, 3) := by decide +kernel
theorem dX3_fact_55 : decode cX3_fact 55 = .ok (.ireturn, 1) := by decide +kernel
theorem dX3_fact_56 : decode cX3_fact 56 = .ok (.aload_n 0, 1) := by decide +kernel
theorem dX3_fact_57 : decode cX3_fact 57 = .ok (.getfield 24, 3) := by decide +kernel
theorem dX3_fact_60 : decode cX3_fact 60 = .ok (.ireturn, 1) := by decide +kernel
theorem dX3_fact_61 : decode cX3_fact 61 = .ok (.ldc 31, 2) := by decide +kernel
theorem dX3_fact_63 : decode cX3_fact 63 = .ok (.ireturn, 1) := by decide +kernel
theorem dX4_init_0 : decode cX4_init 0 = .ok (.aload_n 0, 1) := by decide +kernel
theorem dX4_init_1 : decode cX4_init 1 = .ok (.invokespecial 3, 3) := by decide +kernel
theorem dX4_init_4 : decode cX4_init 4 = .ok (.aload_n 0, 1) := by decide +kernel
theorem dX4_init_5 : decode cX4_init 5 = .ok (.bipush 60, 2) := by decide +kernel
theorem dX4_init_7 : decode cX4_init 7 = .ok (.newarray .char, 2) := by decide +kernel
theorem dX4_init_9 : decode cX4_init 9 = .ok (.putfield 9, 3) := by decide +kernel
theorem dX4_init_12 : decode cX4_init 12 = .ok (.return_, 1) := by decide +kernel
theorem dX4_length_0 : decode cX4_length 0 = .ok (.aload_n 0, 1) := by decide +kernel
theorem dX4_length_1 : decode cX4_length 1 = .ok (.getfield 15, 3) := by decide +kernel
theorem dX4_length_4 : decode cX4_length 4 = .ok (.ireturn, 1) := by decide +kernel
theorem dX4_append_0 : decode cX4_append 0 = .ok (.iload_n 1, 1) := by decide +kernel
theorem dX4_append_1 : decode cX4_append 1 = .ok (.bipush 32, 2) := by decide +kernel
theorem dX4_append_3 : decode cX4_append 3 = .ok (.if_icmp .lt 9, 3) := by decide +kernel
theorem dX4_append_6 : decode cX4_append 6 = .ok (.iload_n 1, 1) := by decide +kernel
theorem dX4_append_7 : decode cX4_append 7 = .ok (.bipush 126, 2) := by decide +kernel
theorem dX4_append_9 : decode cX4_append 9 = .ok (.if_icmp .le 6, 3) := by decide +kernel
theorem dX4_append_12 : decode cX4_append 12 = .ok (.ldc 19, 2) := by decide +kernel
theorem dX4_append_14 : decode cX4_append 14 = .ok (.ireturn, 1) := by decide +kernel
theorem dX4_append_15 : decode cX4_append 15 = .ok (.aload_n 0, 1) := by decide +kernel
theorem dX4_append_16 : decode cX4_append 16 = .ok (.getfield 15, 3) := by decide +kernel
theorem dX4_append_19 : decode cX4_append 19 = .ok (.ifCond .lt 15, 3) := by decide +kernel
theorem dX4_append_22 : decode cX4_append 22 = .ok (.aload_n 0, 1) := by decide +kernel
theorem dX4_append_23 : decode cX4_append 23 = .ok (.getfield 15, 3) := by decide +kernel
theorem dX4_append_26 : decode cX4_append 26 = .ok (.aload_n 0, 1) := by decide +kernel
theorem dX4_append_27 : decode cX4_append 27 = .ok (.getfield 9, 3) := by decide +kernel
theorem dX4_append_30 : decode cX4_append 30 = .ok (.arraylength, 1) := by decide +kernel
theorem dX4_append_31 : decode cX4_append 31 = .ok (.if_icmp .lt 6, 3) := by decide +kernel
theorem dX4_append_34 : decode cX4_append 34 = .ok (.ldc 20, 2) := by decide +kernel
theorem dX4_append_36 : decode cX4_append 36 = .ok (.ireturn, 1) := by decide +kernel
theorem dX4_append_37 : decode cX4_append 37 = .ok (.aload_n 0, 1) := by decide +kernel
theorem dX4_append_38 : decode cX4_append 38 = .ok (.getfield 9, 3) := by decide +kernel
theorem dX4_append_41 : decode cX4_append 41 = .ok (.aload_n 0, 1) := by decide +kernel
theorem dX4_append_42 : decode cX4_append 42 = .ok (.getfield 15, 3) := by decide +kernel
theorem dX4_append_45 : decode cX4_append 45 = .ok (.iload_n 1, 1) := by decide +kernel
theorem dX4_append_46 : decode cX4_append 46 = .ok (.i2c, 1) := by decide +kernel
theorem dX4_append_47 : decode cX4_append 47 = .ok (.castore, 1) := by decide +kernel
theorem dX4_append_48 : decode cX4_append 48 = .ok (.aload_n 0, 1) := by decide +kernel
theorem dX4_append_49 : decode cX4_append 49 = .ok (.dup, 1) := by decide +kernel
theorem dX4_append_50 : decode cX4_append 50 = .ok (.getfield 15, 3) := by decide +kernel
theorem dX4_append_53 : decode cX4_append 53 = .ok (.iconst 1, 1) := by decide +kernel
theorem dX4_append_54 : decode cX4_append 54 = .ok (.iadd, 1) := by decide +kernel
theorem dX4_append_55 : decode cX4_append 55 = .ok (.putfield 15, 3) := by decide +kernel
theorem dX4_append_58 : decode cX4_append 58 = .ok (.aload_n 0, 1) := by decide +kernel
theorem dX4_append_59 : decode cX4_append 59 = .ok (.getfield 15, 3) := by decide +kernel
theorem dX4_append_62 : decode cX4_append 62 = .ok (.ireturn, 1) := by decide +kernel
theorem dX4_empty_0 : decode cX4_empty 0 = .ok (.aload_n 0, 1) := by decide +kernel
theorem dX4_empty_1 : decode cX4_empty 1 = .ok (.getfield 15, 3) := by decide +kernel
theorem dX4_empty_4 : decode cX4_empty 4 = .ok (.istore_n 1, 1) := by decide +kernel
theorem dX4_empty_5 : decode cX4_empty 5 = .ok (.aload_n 0, 1) := by decide +kernel
theorem dX4_empty_6 : decode cX4_empty 6 = .ok (.iconst 0, 1) := by decide +kernel
theorem dX4_empty_7 : decode cX4_empty 7 = .ok (.putfield 15, 3) := by decide +kernel
theorem dX4_empty_10 : decode cX4_empty 10 = .ok (.iload_n 1, 1) := by decide +kernel
theorem dX4_empty_11 : decode cX4_empty 11 = .ok (.ireturn, 1) := by decide +kernel
theorem dX4_goToStart_0 : decode cX4_goToStart 0 = .ok (.aload_n 0, 1) := by decide +kernel
theorem dX4_goToStart_1 : decode cX4_goToStart 1 = .ok (.iconst 0, 1) := by decide +kernel
theorem dX4_goToStart_2 : decode cX4_goToStart 2 = .ok (.putfield 21, 3) := by decide +kernel
theorem dX4_goToStart_5 : decode cX4_goToStart 5 = .ok (.return_, 1) := by decide +kernel
theorem dX4_hasMore_0 : decode cX4_hasMore 0 = .ok (.aload_n 0, 1) := by decide +kernel
theorem dX4_hasMore_1 : decode cX4_hasMore 1 = .ok (.getfield 21, 3) := by decide +kernel
theorem dX4_hasMore_4 : decode cX4_hasMore 4 = .ok (.aload_n 0, 1) := by decide +kernel
theorem dX4_hasMore_5 : decode cX4_hasMore 5 = .ok (.getfield 15, 3) := by decide +kernel
theorem dX4_hasMore_8 : decode cX4_hasMore 8 = .ok (.if_icmp .ge 7, 3) := by decide +kernel
theorem dX4_hasMore_11 : decode cX4_hasMore 11 = .ok (.iconst 1, 1) := by decide +kernel
theorem dX4_hasMore_12 : decode cX4_hasMore 12 = .ok (.goto 4, 3) := by decide +kernel
theorem dX4_hasMore_15 : decode cX4_hasMore 15 = .ok (.iconst 0, 1) := by decide +kernel
theorem dX4_hasMore_16 : decode cX4_hasMore 16 = .ok (.ireturn, 1) := by decide +kernel
theorem dX4_brokeOffAt_0 : decode cX4_brokeOffAt 0 = .ok (.aload_n 0, 1) := by decide +kernel
theorem dX4_brokeOffAt_1 : decode cX4_brokeOffAt 1 = .ok (.getfield 21, 3) := by decide +kernel
theorem dX4_brokeOffAt_4 : decode cX4_brokeOffAt 4 = .ok (.aload_n 0, 1) := by decide +kernel
theorem dX4_brokeOffAt_5 : decode cX4_brokeOffAt 5 = .ok (.getfield 24, 3) := by decide +kernel
theorem dX4_brokeOffAt_8 : decode cX4_brokeOffAt 8 = .ok (.isub, 1) := by decide +kernel
theorem dX4_brokeOffAt_9 : decode cX4_brokeOffAt 9 = .ok (.ireturn, 1) := by decide +kernel
theorem dX4_readOrder_0 : decode cX4_readOrder 0 = .ok (.aload_n 0, 1) := by decide +kernel
theorem dX4_readOrder_1 : decode cX4_readOrder 1 = .ok (.aload_n 0, 1) := by decide +kernel
theorem dX4_readOrder_2 : decode cX4_readOrder 2 = .ok (.getfield 21, 3) := by decide +kernel
theorem dX4_readOrder_5 : decode cX4_readOrder 5 = .ok (.putfield 24, 3) := by decide +kernel
theorem dX4_readOrder_8 : decode cX4_readOrder 8 = .ok (.aload_n 0, 1) := by decide +kernel
theorem dX4_readOrder_9 : decode cX4_readOrder 9 = .ok (.invokevirtual 27, 3) := by decide +kernel
theorem dX4_readOrder_12 : decode cX4_readOrder 12 = .ok (.ifCond .ne 5, 3) := by decide +kernel
theorem dX4_readOrder_15 : decode cX4_readOrder 15 = .ok (.iconst 0, 1) := by decide +kernel
theorem dX4_readOrder_16 : decode cX4_readOrder 16 = .ok (.ireturn, 1) := by decide +kernel
theorem dX4_readOrder_17 : decode cX4_readOrder 17 = .ok (.aload_n 0, 1) := by decide +kernel
theorem dX4_readOrder_18 : decode cX4_readOrder 18 = .ok (.aload_n 0, 1) := by decide +kernel
theorem dX4_readOrder_19 : decode cX4_readOrder 19 = .ok (.invokevirtual 31, 3) := by decide +kernel
theorem dX4_readOrder_22 : decode cX4_readOrder 22 = .ok (.putfield 35, 3) := by decide +kernel
theorem dX4_readOrder_25 : decode cX4_readOrder 25 = .ok (.aload_n 0, 1) := by decide +kernel
theorem dX4_readOrder_26 : decode cX4_readOrder 26 = .ok (.getfield 35, 3) := by decide +kernel
theorem dX4_readOrder_29 : decode cX4_readOrder 29 = .ok (.iconst (-1), 1) := by decide +kernel
theorem dX4_readOrder_30 : decode cX4_readOrder 30 = .ok (.if_icmp .ne 5, 3) := by decide +kernel
theorem dX4_readOrder_33 : decode cX4_readOrder 33 = .ok (.iconst 0, 1) := by decide +kernel
theorem dX4_readOrder_34 : decode cX4_readOrder 34 = .ok (.ireturn, 1) := by decide +kernel
theorem dX4_readOrder_35 : decode cX4_readOrder 35 = .ok (.aload_n 0, 1) := by decide +kernel
theorem dX4_readOrder_36 : decode cX4_readOrder 36 = .ok (.iconst 0, 1) := by decide +kernel
theorem dX4_readOrder_37 : decode cX4_readOrder 37 = .ok (.putfield 38, 3) := by decide +kernel
theorem dX4_readOrder_40 : decode cX4_readOrder 40 = .ok (.aload_n 0, 1) := by decide +kernel
theorem dX4_readOrder_41 : decode cX4_readOrder 41 = .ok (.getfield 41, 3) := by decide +kernel
theorem dX4_readOrder_44 : decode cX4_readOrder 44 = .ok (.bipush 105, 2) := by decide +kernel
theorem dX4_readOrder_46 : decode cX4_readOrder 46 = .ok (.if_icmp .ne 32, 3) := by decide +kernel
theorem dX4_readOrder_49 : decode cX4_readOrder 49 = .ok (.aload_n 0, 1) := by decide +kernel
theorem dX4_readOrder_50 : decode cX4_readOrder 50 = .ok (.bipush 44, 2) := by decide +kernel
theorem dX4_readOrder_52 : decode cX4_readOrder 52 = .ok (.invokevirtual 45, 3) := by decide +kernel
theorem dX4_readOrder_55 : decode cX4_readOrder 55 = .ok (.ifCond .ne 5, 3) := by decide +kernel
theorem dX4_readOrder_58 : decode cX4_readOrder 58 = .ok (.iconst 0, 1) := by decide +kernel
theorem dX4_readOrder_59 : decode cX4_readOrder 59 = .ok (.ireturn, 1) := by decide +kernel
theorem dX4_readOrder_60 : decode cX4_readOrder 60 = .ok (.aload_n 0, 1) := by decide +kernel
theorem dX4_readOrder_61 : decode cX4_readOrder 61 = .ok (.aload_n 0, 1) := by decide +kernel
theorem dX4_readOrder_62 : decode cX4_readOrder 62 = .ok (.invokevirtual 31, 3) := by decide +kernel
theorem dX4_readOrder_65 : decode cX4_readOrder 65 = .ok (.putfield 38, 3) := by decide +kernel
theorem dX4_readOrder_68 : decode cX4_readOrder 68 = .ok (.aload_n 0, 1) := by decide +kernel
theorem dX4_readOrder_69 : decode cX4_readOrder 69 = .ok (.getfield 38, 3) := by decide +kernel
theorem dX4_readOrder_72 : decode cX4_readOrder 72 = .ok (.iconst (-1), 1) := by decide +kernel
theorem dX4_readOrder_73 : decode cX4_readOrder 73 = .ok (.if_icmp .ne 5, 3) := by decide +kernel
theorem dX4_readOrder_76 : decode cX4_readOrder 76 = .ok (.iconst 0, 1) := by decide +kernel
theorem dX4_readOrder_77 : decode cX4_readOrder 77 = .ok (.ireturn, 1) := by decide +kernel
theorem dX4_readOrder_78 : decode cX4_readOrder 78 = .ok (.aload_n 0, 1) := by decide +kernel
theorem dX4_readOrder_79 : decode cX4_readOrder 79 = .ok (.bipush 59, 2) := by decide +kernel
theorem dX4_readOrder_81 : decode cX4_readOrder 81 = .ok (.invokevirtual 45, 3) := by decide +kernel
theorem dX4_readOrder_84 : decode cX4_readOrder 84 = .ok (.ireturn, 1) := by decide +kernel
theorem dX4_signHere_0 : decode cX4_signHere 0 = .ok (.aload_n 0, 1) := by decide +kernel
theorem dX4_signHere_1 : decode cX4_signHere 1 = .ok (.getfield 21, 3) := by decide +kernel
theorem dX4_signHere_4 : decode cX4_signHere 4 = .ok (.ifCond .lt 30, 3) := by decide +kernel
theorem dX4_signHere_7 : decode cX4_signHere 7 = .ok (.aload_n 0, 1) := by decide +kernel
theorem dX4_signHere_8 : decode cX4_signHere 8 = .ok (.getfield 21, 3) := by decide +kernel
theorem dX4_signHere_11 : decode cX4_signHere 11 = .ok (.aload_n 0, 1) := by decide +kernel
theorem dX4_signHere_12 : decode cX4_signHere 12 = .ok (.getfield 15, 3) := by decide +kernel
theorem dX4_signHere_15 : decode cX4_signHere 15 = .ok (.if_icmp .ge 19, 3) := by decide +kernel
theorem dX4_signHere_18 : decode cX4_signHere 18 = .ok (.aload_n 0, 1) := by decide +kernel
theorem dX4_signHere_19 : decode cX4_signHere 19 = .ok (.getfield 21, 3) := by decide +kernel
theorem dX4_signHere_22 : decode cX4_signHere 22 = .ok (.aload_n 0, 1) := by decide +kernel
theorem dX4_signHere_23 : decode cX4_signHere 23 = .ok (.getfield 9, 3) := by decide +kernel
theorem dX4_signHere_26 : decode cX4_signHere 26 = .ok (.arraylength, 1) := by decide +kernel
theorem dX4_signHere_27 : decode cX4_signHere 27 = .ok (.if_icmp .ge 7, 3) := by decide +kernel
theorem dX4_signHere_30 : decode cX4_signHere 30 = .ok (.iconst 1, 1) := by decide +kernel
theorem dX4_signHere_31 : decode cX4_signHere 31 = .ok (.goto 4, 3) := by decide +kernel
theorem dX4_signHere_34 : decode cX4_signHere 34 = .ok (.iconst 0, 1) := by decide +kernel
theorem dX4_signHere_35 : decode cX4_signHere 35 = .ok (.istore_n 1, 1) := by decide +kernel
theorem dX4_signHere_36 : decode cX4_signHere 36 = .ok (.iload_n 1, 1) := by decide +kernel
theorem dX4_signHere_37 : decode cX4_signHere 37 = .ok (.ifCond .eq 15, 3) := by decide +kernel
theorem dX4_signHere_40 : decode cX4_signHere 40 = .ok (.aload_n 0, 1) := by decide +kernel
theorem dX4_signHere_41 : decode cX4_signHere 41 = .ok (.getfield 9, 3) := by decide +kernel
theorem dX4_signHere_44 : decode cX4_signHere 44 = .ok (.aload_n 0, 1) := by decide +kernel
theorem dX4_signHere_45 : decode cX4_signHere 45 = .ok (.getfield 21, 3) := by decide +kernel
theorem dX4_signHere_48 : decode cX4_signHere 48 = .ok (.caload, 1) := by decide +kernel
theorem dX4_signHere_49 : decode cX4_signHere 49 = .ok (.goto 4, 3) := by decide +kernel
theorem dX4_signHere_52 : decode cX4_signHere 52 = .ok (.iconst (-1), 1) := by decide +kernel
theorem dX4_signHere_53 : decode cX4_signHere 53 = .ok (.ireturn, 1) := by decide +kernel
theorem dX4_readKind_0 : decode cX4_readKind 0 = .ok (.aload_n 0, 1) := by decide +kernel
theorem dX4_readKind_1 : decode cX4_readKind 1 = .ok (.invokevirtual 49, 3) := by decide +kernel
theorem dX4_readKind_4 : decode cX4_readKind 4 = .ok (.istore_n 1, 1) := by decide +kernel
theorem dX4_readKind_5 : decode cX4_readKind 5 = .ok (.iload_n 1, 1) := by decide +kernel
theorem dX4_readKind_6 : decode cX4_readKind 6 = .ok (.lookupswitch 76 #[(98, 58), (102, 58), (105, 58), (111, 58), (114, 58), (119, 58)], 58) := by decide +kernel
theorem dX4_readKind_64 : decode cX4_readKind 64 = .ok (.aload_n 0, 1) := by decide +kernel
theorem dX4_readKind_65 : decode cX4_readKind 65 = .ok (.iload_n 1, 1) := by decide +kernel
theorem dX4_readKind_66 : decode cX4_readKind 66 = .ok (.i2c, 1) := by decide +kernel
theorem dX4_readKind_67 : decode cX4_readKind 67 = .ok (.putfield 41, 3) := by decide +kernel
theorem dX4_readKind_70 : decode cX4_readKind 70 = .ok (.aload_n 0, 1) := by decide +kernel
theorem dX4_readKind_71 : decode cX4_readKind 71 = .ok (.dup, 1) := by decide +kernel
theorem dX4_readKind_72 : decode cX4_readKind 72 = .ok (.getfield 21, 3) := by decide +kernel
theorem dX4_readKind_75 : decode cX4_readKind 75 = .ok (.iconst 1, 1) := by decide +kernel
theorem dX4_readKind_76 : decode cX4_readKind 76 = .ok (.iadd, 1) := by decide +kernel
theorem dX4_readKind_77 : decode cX4_readKind 77 = .ok (.putfield 21, 3) := by decide +kernel
theorem dX4_readKind_80 : decode cX4_readKind 80 = .ok (.iconst 1, 1) := by decide +kernel
theorem dX4_readKind_81 : decode cX4_readKind 81 = .ok (.ireturn, 1) := by decide +kernel
theorem dX4_readKind_82 : decode cX4_readKind 82 = .ok (.iconst 0, 1) := by decide +kernel
theorem dX4_readKind_83 : decode cX4_readKind 83 = .ok (.ireturn, 1) := by decide +kernel
theorem dX4_readSign_0 : decode cX4_readSign 0 = .ok (.aload_n 0, 1) := by decide +kernel
theorem dX4_readSign_1 : decode cX4_readSign 1 = .ok (.invokevirtual 49, 3) := by decide +kernel
theorem dX4_readSign_4 : decode cX4_readSign 4 = .ok (.iload_n 1, 1) := by decide +kernel
theorem dX4_readSign_5 : decode cX4_readSign 5 = .ok (.if_icmp .eq 5, 3) := by decide +kernel
theorem dX4_readSign_8 : decode cX4_readSign 8 = .ok (.iconst 0, 1) := by decide +kernel
theorem dX4_readSign_9 : decode cX4_readSign 9 = .ok (.ireturn, 1) := by decide +kernel
theorem dX4_readSign_10 : decode cX4_readSign 10 = .ok (.aload_n 0, 1) := by decide +kernel
theorem dX4_readSign_11 : decode cX4_readSign 11 = .ok (.dup, 1) := by decide +kernel
theorem dX4_readSign_12 : decode cX4_readSign 12 = .ok (.getfield 21, 3) := by decide +kernel
theorem dX4_readSign_15 : decode cX4_readSign 15 = .ok (.iconst 1, 1) := by decide +kernel
theorem dX4_readSign_16 : decode cX4_readSign 16 = .ok (.iadd, 1) := by decide +kernel
theorem dX4_readSign_17 : decode cX4_readSign 17 = .ok (.putfield 21, 3) := by decide +kernel
theorem dX4_readSign_20 : decode cX4_readSign 20 = .ok (.iconst 1, 1) := by decide +kernel
theorem dX4_readSign_21 : decode cX4_readSign 21 = .ok (.ireturn, 1) := by decide +kernel
theorem dX4_readNumber_0 : decode cX4_readNumber 0 = .ok (.aload_n 0, 1) := by decide +kernel
theorem dX4_readNumber_1 : decode cX4_readNumber 1 = .ok (.invokevirtual 52, 3) := by decide +kernel
theorem dX4_readNumber_4 : decode cX4_readNumber 4 = .ok (.istore_n 1, 1) := by decide +kernel
theorem dX4_readNumber_5 : decode cX4_readNumber 5 = .ok (.iload_n 1, 1) := by decide +kernel
theorem dX4_readNumber_6 : decode cX4_readNumber 6 = .ok (.iconst (-1), 1) := by decide +kernel
theorem dX4_readNumber_7 : decode cX4_readNumber 7 = .ok (.if_icmp .ne 5, 3) := by decide +kernel
theorem dX4_readNumber_10 : decode cX4_readNumber 10 = .ok (.iconst (-1), 1) := by decide +kernel
theorem dX4_readNumber_11 : decode cX4_readNumber 11 = .ok (.ireturn, 1) := by decide +kernel
theorem dX4_readNumber_12 : decode cX4_readNumber 12 = .ok (.aload_n 0, 1) := by decide +kernel
theorem dX4_readNumber_13 : decode cX4_readNumber 13 = .ok (.invokevirtual 52, 3) := by decide +kernel
theorem dX4_readNumber_16 : decode cX4_readNumber 16 = .ok (.istore_n 2, 1) := by decide +kernel
theorem dX4_readNumber_17 : decode cX4_readNumber 17 = .ok (.iload_n 2, 1) := by decide +kernel
theorem dX4_readNumber_18 : decode cX4_readNumber 18 = .ok (.iconst (-1), 1) := by decide +kernel
theorem dX4_readNumber_19 : decode cX4_readNumber 19 = .ok (.if_icmp .ne 7, 3) := by decide +kernel
theorem dX4_readNumber_22 : decode cX4_readNumber 22 = .ok (.iload_n 1, 1) := by decide +kernel
theorem dX4_readNumber_23 : decode cX4_readNumber 23 = .ok (.goto 9, 3) := by decide +kernel
theorem dX4_readNumber_26 : decode cX4_readNumber 26 = .ok (.iload_n 1, 1) := by decide +kernel
theorem dX4_readNumber_27 : decode cX4_readNumber 27 = .ok (.bipush 10, 2) := by decide +kernel
theorem dX4_readNumber_29 : decode cX4_readNumber 29 = .ok (.imul, 1) := by decide +kernel
theorem dX4_readNumber_30 : decode cX4_readNumber 30 = .ok (.iload_n 2, 1) := by decide +kernel
theorem dX4_readNumber_31 : decode cX4_readNumber 31 = .ok (.iadd, 1) := by decide +kernel
theorem dX4_readNumber_32 : decode cX4_readNumber 32 = .ok (.ireturn, 1) := by decide +kernel
theorem dX4_readDigit_0 : decode cX4_readDigit 0 = .ok (.aload_n 0, 1) := by decide +kernel
theorem dX4_readDigit_1 : decode cX4_readDigit 1 = .ok (.invokevirtual 49, 3) := by decide +kernel
theorem dX4_readDigit_4 : decode cX4_readDigit 4 = .ok (.istore_n 1, 1) := by decide +kernel
theorem dX4_readDigit_5 : decode cX4_readDigit 5 = .ok (.iload_n 1, 1) := by decide +kernel
theorem dX4_readDigit_6 : decode cX4_readDigit 6 = .ok (.bipush 48, 2) := by decide +kernel
theorem dX4_readDigit_8 : decode cX4_readDigit 8 = .ok (.if_icmp .lt 9, 3) := by decide +kernel
theorem dX4_readDigit_11 : decode cX4_readDigit 11 = .ok (.iload_n 1, 1) := by decide +kernel
theorem dX4_readDigit_12 : decode cX4_readDigit 12 = .ok (.bipush 57, 2) := by decide +kernel
theorem dX4_readDigit_14 : decode cX4_readDigit 14 = .ok (.if_icmp .le 5, 3) := by decide +kernel
theorem dX4_readDigit_17 : decode cX4_readDigit 17 = .ok (.iconst (-1), 1) := by decide +kernel
theorem dX4_readDigit_18 : decode cX4_readDigit 18 = .ok (.ireturn, 1) := by decide +kernel
theorem dX4_readDigit_19 : decode cX4_readDigit 19 = .ok (.aload_n 0, 1) := by decide +kernel
theorem dX4_readDigit_20 : decode cX4_readDigit 20 = .ok (.dup, 1) := by decide +kernel
theorem dX4_readDigit_21 : decode cX4_readDigit 21 = .ok (.getfield 21, 3) := by decide +kernel
theorem dX4_readDigit_24 : decode cX4_readDigit 24 = .ok (.iconst 1, 1) := by decide +kernel
theorem dX4_readDigit_25 : decode cX4_readDigit 25 = .ok (.iadd, 1) := by decide +kernel
theorem dX4_readDigit_26 : decode cX4_readDigit 26 = .ok (.putfield 21, 3) := by decide +kernel
theorem dX4_readDigit_29 : decode cX4_readDigit 29 = .ok (.iload_n 1, 1) := by decide +kernel
theorem dX4_readDigit_30 : decode cX4_readDigit 30 = .ok (.bipush 48, 2) := by decide +kernel
theorem dX4_readDigit_32 : decode cX4_readDigit 32 = .ok (.isub, 1) := by decide +kernel
theorem dX4_readDigit_33 : decode cX4_readDigit 33 = .ok (.ireturn, 1) := by decide +kernel
theorem dX5_init_0 : decode cX5_init 0 = .ok (.aload_n 0, 1) := by decide +kernel
theorem dX5_init_1 : decode cX5_init 1 = .ok (.invokespecial 3, 3) := by decide +kernel
theorem dX5_init_4 : decode cX5_init 4 = .ok (.return_, 1) := by decide +kernel
theorem dX5_run_0 : decode cX5_run 0 = .ok (.aload_n 0, 1) := by decide +kernel
theorem dX5_run_1 : decode cX5_run 1 = .ok (.iconst 0, 1) := by decide +kernel
theorem dX5_run_2 : decode cX5_run 2 = .ok (.putfield 9, 3) := by decide +kernel
theorem dX5_run_5 : decode cX5_run 5 = .ok (.aload_n 0, 1) := by decide +kernel
theorem dX5_run_6 : decode cX5_run 6 = .ok (.iconst 0, 1) := by decide +kernel
theorem dX5_run_7 : decode cX5_run 7 = .ok (.putfield 15, 3) := by decide +kernel
theorem dX5_run_10 : decode cX5_run 10 = .ok (.aload_n 1, 1) := by decide +kernel
theorem dX5_run_11 : decode cX5_run 11 = .ok (.invokevirtual 18, 3) := by decide +kernel
theorem dX5_run_14 : decode cX5_run 14 = .ok (.iconst 0, 1) := by decide +kernel
theorem dX5_run_15 : decode cX5_run 15 = .ok (.istore_n 3, 1) := by decide +kernel
theorem dX5_run_16 : decode cX5_run 16 = .ok (.iload_n 3, 1) := by decide +kernel
theorem dX5_run_17 : decode cX5_run 17 = .ok (.bipush 60, 2) := by decide +kernel
theorem dX5_run_19 : decode cX5_run 19 = .ok (.if_icmp .ge 70, 3) := by decide +kernel
theorem dX5_run_22 : decode cX5_run 22 = .ok (.aload_n 0, 1) := by decide +kernel
theorem dX5_run_23 : decode cX5_run 23 = .ok (.getfield 15, 3) := by decide +kernel
theorem dX5_run_26 : decode cX5_run 26 = .ok (.ifCond .ne 63, 3) := by decide +kernel
theorem dX5_run_29 : decode cX5_run 29 = .ok (.aload_n 1, 1) := by decide +kernel
theorem dX5_run_30 : decode cX5_run 30 = .ok (.invokevirtual 23, 3) := by decide +kernel
theorem dX5_run_33 : decode cX5_run 33 = .ok (.ifCond .eq 56, 3) := by decide +kernel
theorem dX5_run_36 : decode cX5_run 36 = .ok (.aload_n 1, 1) := by decide +kernel
theorem dX5_run_37 : decode cX5_run 37 = .ok (.invokevirtual 27, 3) := by decide +kernel
theorem dX5_run_40 : decode cX5_run 40 = .ok (.ifCond .eq 30, 3) := by decide +kernel
theorem dX5_run_43 : decode cX5_run 43 = .ok (.aload_n 0, 1) := by decide +kernel
theorem dX5_run_44 : decode cX5_run 44 = .ok (.aload_n 1, 1) := by decide +kernel
theorem dX5_run_45 : decode cX5_run 45 = .ok (.getfield 30, 3) := by decide +kernel
theorem dX5_run_48 : decode cX5_run 48 = .ok (.aload_n 2, 1) := by decide +kernel
theorem dX5_run_49 : decode cX5_run 49 = .ok (.aload_n 1, 1) := by decide +kernel
theorem dX5_run_50 : decode cX5_run 50 = .ok (.getfield 33, 3) := by decide +kernel
theorem dX5_run_53 : decode cX5_run 53 = .ok (.aload_n 1, 1) := by decide +kernel
theorem dX5_run_54 : decode cX5_run 54 = .ok (.getfield 37, 3) := by decide +kernel
theorem dX5_run_57 : decode cX5_run 57 = .ok (.aload_n 1, 1) := by decide +kernel
theorem dX5_run_58 : decode cX5_run 58 = .ok (.getfield 40, 3) := by decide +kernel
theorem dX5_run_61 : decode cX5_run 61 = .ok (.invokevirtual 43, 3) := by decide +kernel
theorem dX5_run_64 : decode cX5_run 64 = .ok (.invokevirtual 49, 3) := by decide +kernel
theorem dX5_run_67 : decode cX5_run 67 = .ok (.goto 16, 3) := by decide +kernel
theorem dX5_run_70 : decode cX5_run 70 = .ok (.aload_n 0, 1) := by decide +kernel
theorem dX5_run_71 : decode cX5_run 71 = .ok (.aload_n 1, 1) := by decide +kernel
theorem dX5_run_72 : decode cX5_run 72 = .ok (.getfield 30, 3) := by decide +kernel
theorem dX5_run_75 : decode cX5_run 75 = .ok (.iconst 1, 1) := by decide +kernel
theorem dX5_run_76 : decode cX5_run 76 = .ok (.aload_n 1, 1) := by decide +kernel
theorem dX5_run_77 : decode cX5_run 77 = .ok (.invokevirtual 53, 3) := by decide +kernel
theorem dX5_run_80 : decode cX5_run 80 = .ok (.invokevirtual 57, 3) := by decide +kernel
theorem dX5_run_83 : decode cX5_run 83 = .ok (.iinc 3 1, 3) := by decide +kernel
theorem dX5_run_86 : decode cX5_run 86 = .ok (.goto (-70), 3) := by decide +kernel
theorem dX5_run_89 : decode cX5_run 89 = .ok (.return_, 1) := by decide +kernel
theorem dX5_takeAnswer_0 : decode cX5_takeAnswer 0 = .ok (.iload_n 2, 1) := by decide +kernel
theorem dX5_takeAnswer_1 : decode cX5_takeAnswer 1 = .ok (.invokestatic 61, 3) := by decide +kernel
theorem dX5_takeAnswer_4 : decode cX5_takeAnswer 4 = .ok (.ifCond .eq 13, 3) := by decide +kernel
theorem dX5_takeAnswer_7 : decode cX5_takeAnswer 7 = .ok (.aload_n 0, 1) := by decide +kernel
theorem dX5_takeAnswer_8 : decode cX5_takeAnswer 8 = .ok (.iload_n 1, 1) := by decide +kernel
theorem dX5_takeAnswer_9 : decode cX5_takeAnswer 9 = .ok (.iconst 2, 1) := by decide +kernel
theorem dX5_takeAnswer_10 : decode cX5_takeAnswer 10 = .ok (.iload_n 2, 1) := by decide +kernel
theorem dX5_takeAnswer_11 : decode cX5_takeAnswer 11 = .ok (.invokevirtual 57, 3) := by decide +kernel
theorem dX5_takeAnswer_14 : decode cX5_takeAnswer 14 = .ok (.goto 13, 3) := by decide +kernel
theorem dX5_takeAnswer_17 : decode cX5_takeAnswer 17 = .ok (.aload_n 0, 1) := by decide +kernel
theorem dX5_takeAnswer_18 : decode cX5_takeAnswer 18 = .ok (.dup, 1) := by decide +kernel
theorem dX5_takeAnswer_19 : decode cX5_takeAnswer 19 = .ok (.getfield 9, 3) := by decide +kernel
theorem dX5_takeAnswer_22 : decode cX5_takeAnswer 22 = .ok (.iconst 1, 1) := by decide +kernel
theorem dX5_takeAnswer_23 : decode cX5_takeAnswer 23 = .ok (.iadd, 1) := by decide +kernel
theorem dX5_takeAnswer_24 : decode cX5_takeAnswer 24 = .ok (.putfield 9, 3) := by decide +kernel
theorem dX5_takeAnswer_27 : decode cX5_takeAnswer 27 = .ok (.return_, 1) := by decide +kernel
theorem dX5_stopAt_0 : decode cX5_stopAt 0 = .ok (.aload_n 0, 1) := by decide +kernel
theorem dX5_stopAt_1 : decode cX5_stopAt 1 = .ok (.iload_n 1, 1) := by decide +kernel
theorem dX5_stopAt_2 : decode cX5_stopAt 2 = .ok (.putfield 65, 3) := by decide +kernel
theorem dX5_stopAt_5 : decode cX5_stopAt 5 = .ok (.aload_n 0, 1) := by decide +kernel
theorem dX5_stopAt_6 : decode cX5_stopAt 6 = .ok (.iload_n 2, 1) := by decide +kernel
theorem dX5_stopAt_7 : decode cX5_stopAt 7 = .ok (.putfield 15, 3) := by decide +kernel
theorem dX5_stopAt_10 : decode cX5_stopAt 10 = .ok (.aload_n 0, 1) := by decide +kernel
theorem dX5_stopAt_11 : decode cX5_stopAt 11 = .ok (.iload_n 3, 1) := by decide +kernel
theorem dX5_stopAt_12 : decode cX5_stopAt 12 = .ok (.putfield 68, 3) := by decide +kernel
theorem dX5_stopAt_15 : decode cX5_stopAt 15 = .ok (.return_, 1) := by decide +kernel
theorem dX5_ordersDone_0 : decode cX5_ordersDone 0 = .ok (.aload_n 0, 1) := by decide +kernel
theorem dX5_ordersDone_1 : decode cX5_ordersDone 1 = .ok (.getfield 15, 3) := by decide +kernel
theorem dX5_ordersDone_4 : decode cX5_ordersDone 4 = .ok (.ifCond .ne 10, 3) := by decide +kernel
theorem dX5_ordersDone_7 : decode cX5_ordersDone 7 = .ok (.aload_n 0, 1) := by decide +kernel
theorem dX5_ordersDone_8 : decode cX5_ordersDone 8 = .ok (.getfield 9, 3) := by decide +kernel
theorem dX5_ordersDone_11 : decode cX5_ordersDone 11 = .ok (.goto 5, 3) := by decide +kernel
theorem dX5_ordersDone_14 : decode cX5_ordersDone 14 = .ok (.ldc 71, 2) := by decide +kernel
theorem dX5_ordersDone_16 : decode cX5_ordersDone 16 = .ok (.ireturn, 1) := by decide +kernel
theorem dX5_factOfFault_0 : decode cX5_factOfFault 0 = .ok (.aload_n 0, 1) := by decide +kernel
theorem dX5_factOfFault_1 : decode cX5_factOfFault 1 = .ok (.getfield 15, 3) := by decide +kernel
theorem dX5_factOfFault_4 : decode cX5_factOfFault 4 = .ok (.ifCond .ne 6, 3) := by decide +kernel
theorem dX5_factOfFault_7 : decode cX5_factOfFault 7 = .ok (.ldc 72, 2) := by decide +kernel
theorem dX5_factOfFault_9 : decode cX5_factOfFault 9 = .ok (.ireturn, 1) := by decide +kernel
theorem dX5_factOfFault_10 : decode cX5_factOfFault 10 = .ok (.iload_n 1, 1) := by decide +kernel
theorem dX5_factOfFault_11 : decode cX5_factOfFault 11 = .ok (.ifCond .ne 8, 3) := by decide +kernel
theorem dX5_factOfFault_14 : decode cX5_factOfFault 14 = .ok (.aload_n 0, 1) := by decide +kernel
theorem dX5_factOfFault_15 : decode cX5_factOfFault 15 = .ok (.getfield 65, 3) := by decide +kernel
theorem dX5_factOfFault_18 : decode cX5_factOfFault 18 = .ok (.ireturn, 1) := by decide +kernel
theorem dX5_factOfFault_19 : decode cX5_factOfFault 19 = .ok (.iload_n 1, 1) := by decide +kernel
theorem dX5_factOfFault_20 : decode cX5_factOfFault 20 = .ok (.iconst 1, 1) := by decide +kernel
theorem dX5_factOfFault_21 : decode cX5_factOfFault 21 = .ok (.if_icmp .ne 10, 3) := by decide +kernel
theorem dX5_factOfFault_24 : decode cX5_factOfFault 24 = .ok (.aload_n 0, 1) := by decide +kernel
theorem dX5_factOfFault_25 : decode cX5_factOfFault 25 = .ok (.getfield 15, 3) := by decide +kernel
theorem dX5_factOfFault_28 : decode cX5_factOfFault 28 = .ok (.goto 7, 3) := by decide +kernel
theorem dX5_factOfFault_31 : decode cX5_factOfFault 31 = .ok (.aload_n 0, 1) := by decide +kernel
theorem dX5_factOfFault_32 : decode cX5_factOfFault 32 = .ok (.getfield 68, 3) := by decide +kernel
theorem dX5_factOfFault_35 : decode cX5_factOfFault 35 = .ok (.ireturn, 1) := by decide +kernel
theorem dX6_init_0 : decode cX6_init 0 = .ok (.aload_n 0, 1) := by decide +kernel
theorem dX6_init_1 : decode cX6_init 1 = .ok (.invokespecial 1, 3) := by decide +kernel
theorem dX6_init_4 : decode cX6_init 4 = .ok (.aload_n 0, 1) := by decide +kernel
theorem dX6_init_5 : decode cX6_init 5 = .ok (.new 7, 3) := by decide +kernel
theorem dX6_init_8 : decode cX6_init 8 = .ok (.dup, 1) := by decide +kernel
theorem dX6_init_9 : decode cX6_init 9 = .ok (.invokespecial 9, 3) := by decide +kernel
theorem dX6_init_12 : decode cX6_init 12 = .ok (.putfield 10, 3) := by decide +kernel
theorem dX6_init_15 : decode cX6_init 15 = .ok (.aload_n 0, 1) := by decide +kernel
theorem dX6_init_16 : decode cX6_init 16 = .ok (.new 7, 3) := by decide +kernel
theorem dX6_init_19 : decode cX6_init 19 = .ok (.dup, 1) := by decide +kernel
theorem dX6_init_20 : decode cX6_init 20 = .ok (.invokespecial 9, 3) := by decide +kernel
theorem dX6_init_23 : decode cX6_init 23 = .ok (.putfield 16, 3) := by decide +kernel
theorem dX6_init_26 : decode cX6_init 26 = .ok (.aload_n 0, 1) := by decide +kernel
theorem dX6_init_27 : decode cX6_init 27 = .ok (.new 19, 3) := by decide +kernel
theorem dX6_init_30 : decode cX6_init 30 = .ok (.dup, 1) := by decide +kernel
theorem dX6_init_31 : decode cX6_init 31 = .ok (.invokespecial 21, 3) := by decide +kernel
theorem dX6_init_34 : decode cX6_init 34 = .ok (.putfield 22, 3) := by decide +kernel
theorem dX6_init_37 : decode cX6_init 37 = .ok (.aload_n 0, 1) := by decide +kernel
theorem dX6_init_38 : decode cX6_init 38 = .ok (.new 26, 3) := by decide +kernel
theorem dX6_init_41 : decode cX6_init 41 = .ok (.dup, 1) := by decide +kernel
theorem dX6_init_42 : decode cX6_init 42 = .ok (.invokespecial 28, 3) := by decide +kernel
theorem dX6_init_45 : decode cX6_init 45 = .ok (.putfield 29, 3) := by decide +kernel
theorem dX6_init_48 : decode cX6_init 48 = .ok (.aload_n 0, 1) := by decide +kernel
theorem dX6_init_49 : decode cX6_init 49 = .ok (.new 33, 3) := by decide +kernel
theorem dX6_init_52 : decode cX6_init 52 = .ok (.dup, 1) := by decide +kernel
theorem dX6_init_53 : decode cX6_init 53 = .ok (.invokespecial 35, 3) := by decide +kernel
theorem dX6_init_56 : decode cX6_init 56 = .ok (.putfield 36, 3) := by decide +kernel
theorem dX6_init_59 : decode cX6_init 59 = .ok (.return_, 1) := by decide +kernel
theorem dX6_boiler_0 : decode cX6_boiler 0 = .ok (.aload_n 0, 1) := by decide +kernel
theorem dX6_boiler_1 : decode cX6_boiler 1 = .ok (.aload_n 0, 1) := by decide +kernel
theorem dX6_boiler_2 : decode cX6_boiler 2 = .ok (.invokevirtual 40, 3) := by decide +kernel
theorem dX6_boiler_5 : decode cX6_boiler 5 = .ok (.iload_n 1, 1) := by decide +kernel
theorem dX6_boiler_6 : decode cX6_boiler 6 = .ok (.invokevirtual 44, 3) := by decide +kernel
theorem dX6_boiler_9 : decode cX6_boiler 9 = .ok (.invokevirtual 48, 3) := by decide +kernel
theorem dX6_boiler_12 : decode cX6_boiler 12 = .ok (.ireturn, 1) := by decide +kernel
theorem dX6_inspector_0 : decode cX6_inspector 0 = .ok (.aload_n 0, 1) := by decide +kernel
theorem dX6_inspector_1 : decode cX6_inspector 1 = .ok (.aload_n 0, 1) := by decide +kernel
theorem dX6_inspector_2 : decode cX6_inspector 2 = .ok (.invokevirtual 40, 3) := by decide +kernel
theorem dX6_inspector_5 : decode cX6_inspector 5 = .ok (.iload_n 1, 1) := by decide +kernel
theorem dX6_inspector_6 : decode cX6_inspector 6 = .ok (.iload_n 2, 1) := by decide +kernel
theorem dX6_inspector_7 : decode cX6_inspector 7 = .ok (.invokevirtual 51, 3) := by decide +kernel
theorem dX6_inspector_10 : decode cX6_inspector 10 = .ok (.invokevirtual 48, 3) := by decide +kernel
theorem dX6_inspector_13 : decode cX6_inspector 13 = .ok (.ireturn, 1) := by decide +kernel
theorem dX6_press_0 : decode cX6_press 0 = .ok (.aload_n 0, 1) := by decide +kernel
theorem dX6_press_1 : decode cX6_press 1 = .ok (.aload_n 0, 1) := by decide +kernel
theorem dX6_press_2 : decode cX6_press 2 = .ok (.invokevirtual 40, 3) := by decide +kernel
theorem dX6_press_5 : decode cX6_press 5 = .ok (.iload_n 1, 1) := by decide +kernel
theorem dX6_press_6 : decode cX6_press 6 = .ok (.iload_n 2, 1) := by decide +kernel
theorem dX6_press_7 : decode cX6_press 7 = .ok (.invokevirtual 55, 3) := by decide +kernel
theorem dX6_press_10 : decode cX6_press 10 = .ok (.invokevirtual 48, 3) := by decide +kernel
theorem dX6_press_13 : decode cX6_press 13 = .ok (.ireturn, 1) := by decide +kernel
theorem dX6_inspect_0 : decode cX6_inspect 0 = .ok (.aload_n 0, 1) := by decide +kernel
theorem dX6_inspect_1 : decode cX6_inspect 1 = .ok (.aload_n 0, 1) := by decide +kernel
theorem dX6_inspect_2 : decode cX6_inspect 2 = .ok (.invokevirtual 40, 3) := by decide +kernel
theorem dX6_inspect_5 : decode cX6_inspect 5 = .ok (.iload_n 1, 1) := by decide +kernel
theorem dX6_inspect_6 : decode cX6_inspect 6 = .ok (.iload_n 2, 1) := by decide +kernel
theorem dX6_inspect_7 : decode cX6_inspect 7 = .ok (.invokevirtual 58, 3) := by decide +kernel
theorem dX6_inspect_10 : decode cX6_inspect 10 = .ok (.invokevirtual 48, 3) := by decide +kernel
theorem dX6_inspect_13 : decode cX6_inspect 13 = .ok (.ireturn, 1) := by decide +kernel
theorem dX6_fire_0 : decode cX6_fire 0 = .ok (.aload_n 0, 1) := by decide +kernel
theorem dX6_fire_1 : decode cX6_fire 1 = .ok (.aload_n 0, 1) := by decide +kernel
theorem dX6_fire_2 : decode cX6_fire 2 = .ok (.invokevirtual 40, 3) := by decide +kernel
theorem dX6_fire_5 : decode cX6_fire 5 = .ok (.iload_n 1, 1) := by decide +kernel
theorem dX6_fire_6 : decode cX6_fire 6 = .ok (.invokevirtual 61, 3) := by decide +kernel
theorem dX6_fire_9 : decode cX6_fire 9 = .ok (.invokevirtual 48, 3) := by decide +kernel
theorem dX6_fire_12 : decode cX6_fire 12 = .ok (.ireturn, 1) := by decide +kernel
theorem dX6_out_0 : decode cX6_out 0 = .ok (.aload_n 0, 1) := by decide +kernel
theorem dX6_out_1 : decode cX6_out 1 = .ok (.aload_n 0, 1) := by decide +kernel
theorem dX6_out_2 : decode cX6_out 2 = .ok (.invokevirtual 40, 3) := by decide +kernel
theorem dX6_out_5 : decode cX6_out 5 = .ok (.iload_n 1, 1) := by decide +kernel
theorem dX6_out_6 : decode cX6_out 6 = .ok (.invokevirtual 64, 3) := by decide +kernel
theorem dX6_out_9 : decode cX6_out 9 = .ok (.invokevirtual 48, 3) := by decide +kernel
theorem dX6_out_12 : decode cX6_out 12 = .ok (.ireturn, 1) := by decide +kernel
theorem dX6_plan_0 : decode cX6_plan 0 = .ok (.aload_n 0, 1) := by decide +kernel
theorem dX6_plan_1 : decode cX6_plan 1 = .ok (.aload_n 0, 1) := by decide +kernel
theorem dX6_plan_2 : decode cX6_plan 2 = .ok (.invokevirtual 40, 3) := by decide +kernel
theorem dX6_plan_5 : decode cX6_plan 5 = .ok (.iload_n 1, 1) := by decide +kernel
theorem dX6_plan_6 : decode cX6_plan 6 = .ok (.iload_n 2, 1) := by decide +kernel
theorem dX6_plan_7 : decode cX6_plan 7 = .ok (.iload_n 3, 1) := by decide +kernel
theorem dX6_plan_8 : decode cX6_plan 8 = .ok (.invokevirtual 67, 3) := by decide +kernel
theorem dX6_plan_11 : decode cX6_plan 11 = .ok (.invokevirtual 48, 3) := by decide +kernel
theorem dX6_plan_14 : decode cX6_plan 14 = .ok (.ireturn, 1) := by decide +kernel
theorem dX6_repair_0 : decode cX6_repair 0 = .ok (.aload_n 0, 1) := by decide +kernel
theorem dX6_repair_1 : decode cX6_repair 1 = .ok (.aload_n 0, 1) := by decide +kernel
theorem dX6_repair_2 : decode cX6_repair 2 = .ok (.invokevirtual 40, 3) := by decide +kernel
theorem dX6_repair_5 : decode cX6_repair 5 = .ok (.iload_n 1, 1) := by decide +kernel
theorem dX6_repair_6 : decode cX6_repair 6 = .ok (.invokevirtual 71, 3) := by decide +kernel
theorem dX6_repair_9 : decode cX6_repair 9 = .ok (.invokevirtual 48, 3) := by decide +kernel
theorem dX6_repair_12 : decode cX6_repair 12 = .ok (.ireturn, 1) := by decide +kernel
theorem dX6_pass_0 : decode cX6_pass 0 = .ok (.aload_n 0, 1) := by decide +kernel
theorem dX6_pass_1 : decode cX6_pass 1 = .ok (.aload_n 0, 1) := by decide +kernel
theorem dX6_pass_2 : decode cX6_pass 2 = .ok (.invokevirtual 40, 3) := by decide +kernel
theorem dX6_pass_5 : decode cX6_pass 5 = .ok (.iload_n 1, 1) := by decide +kernel
theorem dX6_pass_6 : decode cX6_pass 6 = .ok (.invokevirtual 74, 3) := by decide +kernel
theorem dX6_pass_9 : decode cX6_pass 9 = .ok (.invokevirtual 48, 3) := by decide +kernel
theorem dX6_pass_12 : decode cX6_pass 12 = .ok (.ireturn, 1) := by decide +kernel
theorem dX6_set_0 : decode cX6_set 0 = .ok (.aload_n 0, 1) := by decide +kernel
theorem dX6_set_1 : decode cX6_set 1 = .ok (.aload_n 0, 1) := by decide +kernel
theorem dX6_set_2 : decode cX6_set 2 = .ok (.invokevirtual 40, 3) := by decide +kernel
theorem dX6_set_5 : decode cX6_set 5 = .ok (.iload_n 1, 1) := by decide +kernel
theorem dX6_set_6 : decode cX6_set 6 = .ok (.iload_n 2, 1) := by decide +kernel
theorem dX6_set_7 : decode cX6_set 7 = .ok (.invokevirtual 77, 3) := by decide +kernel
theorem dX6_set_10 : decode cX6_set 10 = .ok (.invokevirtual 48, 3) := by decide +kernel
theorem dX6_set_13 : decode cX6_set 13 = .ok (.ireturn, 1) := by decide +kernel
theorem dX6_boilerOf_0 : decode cX6_boilerOf 0 = .ok (.aload_n 0, 1) := by decide +kernel
theorem dX6_boilerOf_1 : decode cX6_boilerOf 1 = .ok (.getfield 10, 3) := by decide +kernel
theorem dX6_boilerOf_4 : decode cX6_boilerOf 4 = .ok (.iload_n 1, 1) := by decide +kernel
theorem dX6_boilerOf_5 : decode cX6_boilerOf 5 = .ok (.iload_n 2, 1) := by decide +kernel
theorem dX6_boilerOf_6 : decode cX6_boilerOf 6 = .ok (.invokevirtual 80, 3) := by decide +kernel
theorem dX6_boilerOf_9 : decode cX6_boilerOf 9 = .ok (.ireturn, 1) := by decide +kernel
theorem dX6_paperOf_0 : decode cX6_paperOf 0 = .ok (.aload_n 0, 1) := by decide +kernel
theorem dX6_paperOf_1 : decode cX6_paperOf 1 = .ok (.getfield 10, 3) := by decide +kernel
theorem dX6_paperOf_4 : decode cX6_paperOf 4 = .ok (.iload_n 1, 1) := by decide +kernel
theorem dX6_paperOf_5 : decode cX6_paperOf 5 = .ok (.iload_n 2, 1) := by decide +kernel
theorem dX6_paperOf_6 : decode cX6_paperOf 6 = .ok (.invokevirtual 83, 3) := by decide +kernel
theorem dX6_paperOf_9 : decode cX6_paperOf 9 = .ok (.ireturn, 1) := by decide +kernel
theorem dX6_inspectorOf_0 : decode cX6_inspectorOf 0 = .ok (.aload_n 0, 1) := by decide +kernel
theorem dX6_inspectorOf_1 : decode cX6_inspectorOf 1 = .ok (.getfield 10, 3) := by decide +kernel
theorem dX6_inspectorOf_4 : decode cX6_inspectorOf 4 = .ok (.iload_n 1, 1) := by decide +kernel
theorem dX6_inspectorOf_5 : decode cX6_inspectorOf 5 = .ok (.iload_n 2, 1) := by decide +kernel
theorem dX6_inspectorOf_6 : decode cX6_inspectorOf 6 = .ok (.invokevirtual 86, 3) := by decide +kernel
theorem dX6_inspectorOf_9 : decode cX6_inspectorOf 9 = .ok (.ireturn, 1) := by decide +kernel
theorem dX6_why_0 : decode cX6_why 0 = .ok (.iload_n 2, 1) := by decide +kernel
theorem dX6_why_1 : decode cX6_why 1 = .ok (.iconst (-1), 1) := by decide +kernel
theorem dX6_why_2 : decode cX6_why 2 = .ok (.if_icmp .ne 12, 3) := by decide +kernel
theorem dX6_why_5 : decode cX6_why 5 = .ok (.aload_n 0, 1) := by decide +kernel
theorem dX6_why_6 : decode cX6_why 6 = .ok (.getfield 10, 3) := by decide +kernel
theorem dX6_why_9 : decode cX6_why 9 = .ok (.iload_n 1, 1) := by decide +kernel
theorem dX6_why_10 : decode cX6_why 10 = .ok (.invokevirtual 89, 3) := by decide +kernel
theorem dX6_why_13 : decode cX6_why 13 = .ok (.ireturn, 1) := by decide +kernel
theorem dX6_why_14 : decode cX6_why 14 = .ok (.aload_n 0, 1) := by decide +kernel
theorem dX6_why_15 : decode cX6_why 15 = .ok (.getfield 10, 3) := by decide +kernel
theorem dX6_why_18 : decode cX6_why 18 = .ok (.iload_n 1, 1) := by decide +kernel
theorem dX6_why_19 : decode cX6_why 19 = .ok (.iload_n 2, 1) := by decide +kernel
theorem dX6_why_20 : decode cX6_why 20 = .ok (.invokevirtual 92, 3) := by decide +kernel
theorem dX6_why_23 : decode cX6_why 23 = .ok (.ireturn, 1) := by decide +kernel
theorem dX6_account_0 : decode cX6_account 0 = .ok (.aload_n 0, 1) := by decide +kernel
theorem dX6_account_1 : decode cX6_account 1 = .ok (.getfield 10, 3) := by decide +kernel
theorem dX6_account_4 : decode cX6_account 4 = .ok (.iload_n 1, 1) := by decide +kernel
theorem dX6_account_5 : decode cX6_account 5 = .ok (.invokevirtual 95, 3) := by decide +kernel
theorem dX6_account_8 : decode cX6_account 8 = .ok (.ireturn, 1) := by decide +kernel
theorem dX6_would_0 : decode cX6_would 0 = .ok (.aload_n 0, 1) := by decide +kernel
theorem dX6_would_1 : decode cX6_would 1 = .ok (.getfield 10, 3) := by decide +kernel
theorem dX6_would_4 : decode cX6_would 4 = .ok (.iload_n 1, 1) := by decide +kernel
theorem dX6_would_5 : decode cX6_would 5 = .ok (.iload_n 2, 1) := by decide +kernel
theorem dX6_would_6 : decode cX6_would 6 = .ok (.iload_n 3, 1) := by decide +kernel
theorem dX6_would_7 : decode cX6_would 7 = .ok (.invokevirtual 98, 3) := by decide +kernel
theorem dX6_would_10 : decode cX6_would 10 = .ok (.ireturn, 1) := by decide +kernel
theorem dX6_better_0 : decode cX6_better 0 = .ok (.aload_n 0, 1) := by decide +kernel
theorem dX6_better_1 : decode cX6_better 1 = .ok (.getfield 10, 3) := by decide +kernel
theorem dX6_better_4 : decode cX6_better 4 = .ok (.iload_n 1, 1) := by decide +kernel
theorem dX6_better_5 : decode cX6_better 5 = .ok (.invokevirtual 101, 3) := by decide +kernel
theorem dX6_better_8 : decode cX6_better 8 = .ok (.ireturn, 1) := by decide +kernel
theorem dX6_first_0 : decode cX6_first 0 = .ok (.aload_n 0, 1) := by decide +kernel
theorem dX6_first_1 : decode cX6_first 1 = .ok (.getfield 10, 3) := by decide +kernel
theorem dX6_first_4 : decode cX6_first 4 = .ok (.iload_n 1, 1) := by decide +kernel
theorem dX6_first_5 : decode cX6_first 5 = .ok (.invokevirtual 104, 3) := by decide +kernel
theorem dX6_first_8 : decode cX6_first 8 = .ok (.ireturn, 1) := by decide +kernel
theorem dX6_goesOn_0 : decode cX6_goesOn 0 = .ok (.aload_n 0, 1) := by decide +kernel
theorem dX6_goesOn_1 : decode cX6_goesOn 1 = .ok (.getfield 10, 3) := by decide +kernel
theorem dX6_goesOn_4 : decode cX6_goesOn 4 = .ok (.iload_n 1, 1) := by decide +kernel
theorem dX6_goesOn_5 : decode cX6_goesOn 5 = .ok (.invokevirtual 107, 3) := by decide +kernel
theorem dX6_goesOn_8 : decode cX6_goesOn 8 = .ok (.ireturn, 1) := by decide +kernel
theorem dX6_share_0 : decode cX6_share 0 = .ok (.aload_n 0, 1) := by decide +kernel
theorem dX6_share_1 : decode cX6_share 1 = .ok (.getfield 10, 3) := by decide +kernel
theorem dX6_share_4 : decode cX6_share 4 = .ok (.iload_n 1, 1) := by decide +kernel
theorem dX6_share_5 : decode cX6_share 5 = .ok (.invokevirtual 110, 3) := by decide +kernel
theorem dX6_share_8 : decode cX6_share 8 = .ok (.ireturn, 1) := by decide +kernel
theorem dX6_count_0 : decode cX6_count 0 = .ok (.iload_n 1, 1) := by decide +kernel
theorem dX6_count_1 : decode cX6_count 1 = .ok (.lookupswitch 43 #[(13, 27), (14, 35)], 27) := by decide +kernel
theorem dX6_count_28 : decode cX6_count 28 = .ok (.aload_n 0, 1) := by decide +kernel
theorem dX6_count_29 : decode cX6_count 29 = .ok (.getfield 22, 3) := by decide +kernel
theorem dX6_count_32 : decode cX6_count 32 = .ok (.invokevirtual 113, 3) := by decide +kernel
theorem dX6_count_35 : decode cX6_count 35 = .ok (.ireturn, 1) := by decide +kernel
theorem dX6_count_36 : decode cX6_count 36 = .ok (.aload_n 0, 1) := by decide +kernel
theorem dX6_count_37 : decode cX6_count 37 = .ok (.getfield 29, 3) := by decide +kernel
theorem dX6_count_40 : decode cX6_count 40 = .ok (.invokevirtual 117, 3) := by decide +kernel
theorem dX6_count_43 : decode cX6_count 43 = .ok (.ireturn, 1) := by decide +kernel
theorem dX6_count_44 : decode cX6_count 44 = .ok (.aload_n 0, 1) := by decide +kernel
theorem dX6_count_45 : decode cX6_count 45 = .ok (.getfield 10, 3) := by decide +kernel
theorem dX6_count_48 : decode cX6_count 48 = .ok (.iload_n 1, 1) := by decide +kernel
theorem dX6_count_49 : decode cX6_count 49 = .ok (.invokevirtual 120, 3) := by decide +kernel
theorem dX6_count_52 : decode cX6_count 52 = .ok (.ireturn, 1) := by decide +kernel
theorem dX6_undo_0 : decode cX6_undo 0 = .ok (.aload_n 0, 1) := by decide +kernel
theorem dX6_undo_1 : decode cX6_undo 1 = .ok (.getfield 22, 3) := by decide +kernel
theorem dX6_undo_4 : decode cX6_undo 4 = .ok (.aload_n 0, 1) := by decide +kernel
theorem dX6_undo_5 : decode cX6_undo 5 = .ok (.getfield 10, 3) := by decide +kernel
theorem dX6_undo_8 : decode cX6_undo 8 = .ok (.invokevirtual 123, 3) := by decide +kernel
theorem dX6_undo_11 : decode cX6_undo 11 = .ok (.ireturn, 1) := by decide +kernel
theorem dX6_type_0 : decode cX6_type 0 = .ok (.aload_n 0, 1) := by decide +kernel
theorem dX6_type_1 : decode cX6_type 1 = .ok (.getfield 29, 3) := by decide +kernel
theorem dX6_type_4 : decode cX6_type 4 = .ok (.iload_n 1, 1) := by decide +kernel
theorem dX6_type_5 : decode cX6_type 5 = .ok (.invokevirtual 127, 3) := by decide +kernel
theorem dX6_type_8 : decode cX6_type 8 = .ok (.ireturn, 1) := by decide +kernel
theorem dX6_clearText_0 : decode cX6_clearText 0 = .ok (.aload_n 0, 1) := by decide +kernel
theorem dX6_clearText_1 : decode cX6_clearText 1 = .ok (.getfield 29, 3) := by decide +kernel
theorem dX6_clearText_4 : decode cX6_clearText 4 = .ok (.invokevirtual 130, 3) := by decide +kernel
theorem dX6_clearText_7 : decode cX6_clearText 7 = .ok (.ireturn, 1) := by decide +kernel
theorem dX6_fault_0 : decode cX6_fault 0 = .ok (.iload_n 1, 1) := by decide +kernel
theorem dX6_fault_1 : decode cX6_fault 1 = .ok (.ifCond .lt 8, 3) := by decide +kernel
theorem dX6_fault_4 : decode cX6_fault 4 = .ok (.iload_n 1, 1) := by decide +kernel
theorem dX6_fault_5 : decode cX6_fault 5 = .ok (.iconst 2, 1) := by decide +kernel
theorem dX6_fault_6 : decode cX6_fault 6 = .ok (.if_icmp .le 6, 3) := by decide +kernel
theorem dX6_fault_9 : decode cX6_fault 9 = .ok (.ldc 133, 2) := by decide +kernel
theorem dX6_fault_11 : decode cX6_fault 11 = .ok (.ireturn, 1) := by decide +kernel
theorem dX6_fault_12 : decode cX6_fault 12 = .ok (.aload_n 0, 1) := by decide +kernel
theorem dX6_fault_13 : decode cX6_fault 13 = .ok (.getfield 36, 3) := by decide +kernel
theorem dX6_fault_16 : decode cX6_fault 16 = .ok (.aload_n 0, 1) := by decide +kernel
theorem dX6_fault_17 : decode cX6_fault 17 = .ok (.getfield 29, 3) := by decide +kernel
theorem dX6_fault_20 : decode cX6_fault 20 = .ok (.aload_n 0, 1) := by decide +kernel
theorem dX6_fault_21 : decode cX6_fault 21 = .ok (.invokevirtual 40, 3) := by decide +kernel
theorem dX6_fault_24 : decode cX6_fault 24 = .ok (.invokevirtual 134, 3) := by decide +kernel
theorem dX6_fault_27 : decode cX6_fault 27 = .ok (.aload_n 0, 1) := by decide +kernel
theorem dX6_fault_28 : decode cX6_fault 28 = .ok (.getfield 36, 3) := by decide +kernel
theorem dX6_fault_31 : decode cX6_fault 31 = .ok (.iload_n 1, 1) := by decide +kernel
theorem dX6_fault_32 : decode cX6_fault 32 = .ok (.invokevirtual 138, 3) := by decide +kernel
theorem dX6_fault_35 : decode cX6_fault 35 = .ok (.ireturn, 1) := by decide +kernel
theorem dX6_play_0 : decode cX6_play 0 = .ok (.aload_n 0, 1) := by decide +kernel
theorem dX6_play_1 : decode cX6_play 1 = .ok (.getfield 36, 3) := by decide +kernel
theorem dX6_play_4 : decode cX6_play 4 = .ok (.aload_n 0, 1) := by decide +kernel
theorem dX6_play_5 : decode cX6_play 5 = .ok (.getfield 29, 3) := by decide +kernel
theorem dX6_play_8 : decode cX6_play 8 = .ok (.aload_n 0, 1) := by decide +kernel
theorem dX6_play_9 : decode cX6_play 9 = .ok (.invokevirtual 40, 3) := by decide +kernel
theorem dX6_play_12 : decode cX6_play 12 = .ok (.invokevirtual 134, 3) := by decide +kernel
theorem dX6_play_15 : decode cX6_play 15 = .ok (.aload_n 0, 1) := by decide +kernel
theorem dX6_play_16 : decode cX6_play 16 = .ok (.aload_n 0, 1) := by decide +kernel
theorem dX6_play_17 : decode cX6_play 17 = .ok (.getfield 36, 3) := by decide +kernel
theorem dX6_play_20 : decode cX6_play 20 = .ok (.invokevirtual 141, 3) := by decide +kernel
theorem dX6_play_23 : decode cX6_play 23 = .ok (.invokevirtual 48, 3) := by decide +kernel
theorem dX6_play_26 : decode cX6_play 26 = .ok (.ireturn, 1) := by decide +kernel
theorem dX6_trialOfNow_0 : decode cX6_trialOfNow 0 = .ok (.aload_n 0, 1) := by decide +kernel
theorem dX6_trialOfNow_1 : decode cX6_trialOfNow 1 = .ok (.getfield 16, 3) := by decide +kernel
theorem dX6_trialOfNow_4 : decode cX6_trialOfNow 4 = .ok (.aload_n 0, 1) := by decide +kernel
theorem dX6_trialOfNow_5 : decode cX6_trialOfNow 5 = .ok (.getfield 10, 3) := by decide +kernel
theorem dX6_trialOfNow_8 : decode cX6_trialOfNow 8 = .ok (.invokevirtual 144, 3) := by decide +kernel
theorem dX6_trialOfNow_11 : decode cX6_trialOfNow 11 = .ok (.aload_n 0, 1) := by decide +kernel
theorem dX6_trialOfNow_12 : decode cX6_trialOfNow 12 = .ok (.getfield 16, 3) := by decide +kernel
theorem dX6_trialOfNow_15 : decode cX6_trialOfNow 15 = .ok (.areturn, 1) := by decide +kernel
theorem dX6_settle_0 : decode cX6_settle 0 = .ok (.iload_n 1, 1) := by decide +kernel
theorem dX6_settle_1 : decode cX6_settle 1 = .ok (.invokestatic 148, 3) := by decide +kernel
theorem dX6_settle_4 : decode cX6_settle 4 = .ok (.ifCond .ne 25, 3) := by decide +kernel
theorem dX6_settle_7 : decode cX6_settle 7 = .ok (.aload_n 0, 1) := by decide +kernel
theorem dX6_settle_8 : decode cX6_settle 8 = .ok (.getfield 22, 3) := by decide +kernel
theorem dX6_settle_11 : decode cX6_settle 11 = .ok (.aload_n 0, 1) := by decide +kernel
theorem dX6_settle_12 : decode cX6_settle 12 = .ok (.getfield 10, 3) := by decide +kernel
theorem dX6_settle_15 : decode cX6_settle 15 = .ok (.invokevirtual 152, 3) := by decide +kernel
theorem dX6_settle_18 : decode cX6_settle 18 = .ok (.aload_n 0, 1) := by decide +kernel
theorem dX6_settle_19 : decode cX6_settle 19 = .ok (.getfield 10, 3) := by decide +kernel
theorem dX6_settle_22 : decode cX6_settle 22 = .ok (.aload_n 0, 1) := by decide +kernel
theorem dX6_settle_23 : decode cX6_settle 23 = .ok (.getfield 16, 3) := by decide +kernel
theorem dX6_settle_26 : decode cX6_settle 26 = .ok (.invokevirtual 144, 3) := by decide +kernel
theorem dX6_settle_29 : decode cX6_settle 29 = .ok (.iload_n 1, 1) := by decide +kernel
theorem dX6_settle_30 : decode cX6_settle 30 = .ok (.ireturn, 1) := by decide +kernel
theorem dX6_isError_0 : decode cX6_isError 0 = .ok (.iload_n 0, 1) := by decide +kernel
theorem dX6_isError_1 : decode cX6_isError 1 = .ok (.ldc 133, 2) := by decide +kernel
theorem dX6_isError_3 : decode cX6_isError 3 = .ok (.if_icmp .gt 7, 3) := by decide +kernel
theorem dX6_isError_6 : decode cX6_isError 6 = .ok (.iconst 1, 1) := by decide +kernel
theorem dX6_isError_7 : decode cX6_isError 7 = .ok (.goto 4, 3) := by decide +kernel
theorem dX6_isError_10 : decode cX6_isError 10 = .ok (.iconst 0, 1) := by decide +kernel
theorem dX6_isError_11 : decode cX6_isError 11 = .ok (.ireturn, 1) := by decide +kernel
theorem dX6_isInsurer_0 : decode cX6_isInsurer 0 = .ok (.iload_n 0, 1) := by decide +kernel
theorem dX6_isInsurer_1 : decode cX6_isInsurer 1 = .ok (.ifCond .eq 8, 3) := by decide +kernel
theorem dX6_isInsurer_4 : decode cX6_isInsurer 4 = .ok (.iload_n 0, 1) := by decide +kernel
theorem dX6_isInsurer_5 : decode cX6_isInsurer 5 = .ok (.iconst 1, 1) := by decide +kernel
theorem dX6_isInsurer_6 : decode cX6_isInsurer 6 = .ok (.if_icmp .ne 7, 3) := by decide +kernel
theorem dX6_isInsurer_9 : decode cX6_isInsurer 9 = .ok (.iconst 1, 1) := by decide +kernel
theorem dX6_isInsurer_10 : decode cX6_isInsurer 10 = .ok (.goto 4, 3) := by decide +kernel
theorem dX6_isInsurer_13 : decode cX6_isInsurer 13 = .ok (.iconst 0, 1) := by decide +kernel
theorem dX6_isInsurer_14 : decode cX6_isInsurer 14 = .ok (.ireturn, 1) := by decide +kernel
theorem dX7_init_0 : decode cX7_init 0 = .ok (.aload_n 0, 1) := by decide +kernel
theorem dX7_init_1 : decode cX7_init 1 = .ok (.invokespecial 1, 3) := by decide +kernel
theorem dX7_init_4 : decode cX7_init 4 = .ok (.aload_n 0, 1) := by decide +kernel
theorem dX7_init_5 : decode cX7_init 5 = .ok (.sipush 141, 3) := by decide +kernel
theorem dX7_init_8 : decode cX7_init 8 = .ok (.newarray .int, 2) := by decide +kernel
theorem dX7_init_10 : decode cX7_init 10 = .ok (.putfield 7, 3) := by decide +kernel
theorem dX7_init_13 : decode cX7_init 13 = .ok (.aload_n 0, 1) := by decide +kernel
theorem dX7_init_14 : decode cX7_init 14 = .ok (.sipush 141, 3) := by decide +kernel
theorem dX7_init_17 : decode cX7_init 17 = .ok (.newarray .int, 2) := by decide +kernel
theorem dX7_init_19 : decode cX7_init 19 = .ok (.putfield 13, 3) := by decide +kernel
theorem dX7_init_22 : decode cX7_init 22 = .ok (.aload_n 0, 1) := by decide +kernel
theorem dX7_init_23 : decode cX7_init 23 = .ok (.sipush 564, 3) := by decide +kernel
theorem dX7_init_26 : decode cX7_init 26 = .ok (.newarray .int, 2) := by decide +kernel
theorem dX7_init_28 : decode cX7_init 28 = .ok (.putfield 16, 3) := by decide +kernel
theorem dX7_init_31 : decode cX7_init 31 = .ok (.aload_n 0, 1) := by decide +kernel
theorem dX7_init_32 : decode cX7_init 32 = .ok (.bipush 60, 2) := by decide +kernel
theorem dX7_init_34 : decode cX7_init 34 = .ok (.newarray .int, 2) := by decide +kernel
theorem dX7_init_36 : decode cX7_init 36 = .ok (.putfield 19, 3) := by decide +kernel
theorem dX7_init_39 : decode cX7_init 39 = .ok (.aload_n 0, 1) := by decide +kernel
theorem dX7_init_40 : decode cX7_init 40 = .ok (.getfield 7, 3) := by decide +kernel
theorem dX7_init_43 : decode cX7_init 43 = .ok (.bipush 7, 2) := by decide +kernel
theorem dX7_init_45 : decode cX7_init 45 = .ok (.bipush 120, 2) := by decide +kernel
theorem dX7_init_47 : decode cX7_init 47 = .ok (.iastore, 1) := by decide +kernel
theorem dX7_init_48 : decode cX7_init 48 = .ok (.aload_n 0, 1) := by decide +kernel
theorem dX7_init_49 : decode cX7_init 49 = .ok (.getfield 7, 3) := by decide +kernel
theorem dX7_init_52 : decode cX7_init 52 = .ok (.bipush 8, 2) := by decide +kernel
theorem dX7_init_54 : decode cX7_init 54 = .ok (.bipush 90, 2) := by decide +kernel
theorem dX7_init_56 : decode cX7_init 56 = .ok (.iastore, 1) := by decide +kernel
theorem dX7_init_57 : decode cX7_init 57 = .ok (.aload_n 0, 1) := by decide +kernel
theorem dX7_init_58 : decode cX7_init 58 = .ok (.getfield 7, 3) := by decide +kernel
theorem dX7_init_61 : decode cX7_init 61 = .ok (.bipush 9, 2) := by decide +kernel
theorem dX7_init_63 : decode cX7_init 63 = .ok (.bipush 8, 2) := by decide +kernel
theorem dX7_init_65 : decode cX7_init 65 = .ok (.iastore, 1) := by decide +kernel
theorem dX7_init_66 : decode cX7_init 66 = .ok (.aload_n 0, 1) := by decide +kernel
theorem dX7_init_67 : decode cX7_init 67 = .ok (.getfield 7, 3) := by decide +kernel
theorem dX7_init_70 : decode cX7_init 70 = .ok (.bipush 10, 2) := by decide +kernel
theorem dX7_init_72 : decode cX7_init 72 = .ok (.bipush 15, 2) := by decide +kernel
theorem dX7_init_74 : decode cX7_init 74 = .ok (.iastore, 1) := by decide +kernel
theorem dX7_init_75 : decode cX7_init 75 = .ok (.return_, 1) := by decide +kernel
theorem dX7_in_0 : decode cX7_in 0 = .ok (.iload_n 0, 1) := by decide +kernel
theorem dX7_in_1 : decode cX7_in 1 = .ok (.iload_n 1, 1) := by decide +kernel
theorem dX7_in_2 : decode cX7_in 2 = .ok (.if_icmp .lt 12, 3) := by decide +kernel
theorem dX7_in_5 : decode cX7_in 5 = .ok (.iload_n 0, 1) := by decide +kernel
theorem dX7_in_6 : decode cX7_in 6 = .ok (.iload_n 2, 1) := by decide +kernel
theorem dX7_in_7 : decode cX7_in 7 = .ok (.if_icmp .gt 7, 3) := by decide +kernel
theorem dX7_in_10 : decode cX7_in 10 = .ok (.iconst 1, 1) := by decide +kernel
theorem dX7_in_11 : decode cX7_in 11 = .ok (.goto 4, 3) := by decide +kernel
theorem dX7_in_14 : decode cX7_in 14 = .ok (.iconst 0, 1) := by decide +kernel
theorem dX7_in_15 : decode cX7_in 15 = .ok (.ireturn, 1) := by decide +kernel
theorem dX7_begins_0 : decode cX7_begins 0 = .ok (.iconst 0, 1) := by decide +kernel
theorem dX7_begins_1 : decode cX7_begins 1 = .ok (.istore_n 1, 1) := by decide +kernel
theorem dX7_begins_2 : decode cX7_begins 2 = .ok (.iload_n 1, 1) := by decide +kernel
theorem dX7_begins_3 : decode cX7_begins 3 = .ok (.sipush 141, 3) := by decide +kernel
theorem dX7_begins_6 : decode cX7_begins 6 = .ok (.if_icmp .ge 21, 3) := by decide +kernel
theorem dX7_begins_9 : decode cX7_begins 9 = .ok (.aload_n 0, 1) := by decide +kernel
theorem dX7_begins_10 : decode cX7_begins 10 = .ok (.getfield 13, 3) := by decide +kernel
theorem dX7_begins_13 : decode cX7_begins 13 = .ok (.iload_n 1, 1) := by decide +kernel
theorem dX7_begins_14 : decode cX7_begins 14 = .ok (.aload_n 0, 1) := by decide +kernel
theorem dX7_begins_15 : decode cX7_begins 15 = .ok (.getfield 7, 3) := by decide +kernel
theorem dX7_begins_18 : decode cX7_begins 18 = .ok (.iload_n 1, 1) := by decide +kernel
theorem dX7_begins_19 : decode cX7_begins 19 = .ok (.iaload, 1) := by decide +kernel
theorem dX7_begins_20 : decode cX7_begins 20 = .ok (.iastore, 1) := by decide +kernel
theorem dX7_begins_21 : decode cX7_begins 21 = .ok (.iinc 1 1, 3) := by decide +kernel
theorem dX7_begins_24 : decode cX7_begins 24 = .ok (.goto (-22), 3) := by decide +kernel
theorem dX7_begins_27 : decode cX7_begins 27 = .ok (.return_, 1) := by decide +kernel
theorem dX7_returns_0 : decode cX7_returns 0 = .ok (.iconst 0, 1) := by decide +kernel
theorem dX7_returns_1 : decode cX7_returns 1 = .ok (.istore_n 1, 1) := by decide +kernel
theorem dX7_returns_2 : decode cX7_returns 2 = .ok (.iload_n 1, 1) := by decide +kernel
theorem dX7_returns_3 : decode cX7_returns 3 = .ok (.sipush 141, 3) := by decide +kernel
theorem dX7_returns_6 : decode cX7_returns 6 = .ok (.if_icmp .ge 21, 3) := by decide +kernel
theorem dX7_returns_9 : decode cX7_returns 9 = .ok (.aload_n 0, 1) := by decide +kernel
theorem dX7_returns_10 : decode cX7_returns 10 = .ok (.getfield 7, 3) := by decide +kernel
theorem dX7_returns_13 : decode cX7_returns 13 = .ok (.iload_n 1, 1) := by decide +kernel
theorem dX7_returns_14 : decode cX7_returns 14 = .ok (.aload_n 0, 1) := by decide +kernel
theorem dX7_returns_15 : decode cX7_returns 15 = .ok (.getfield 13, 3) := by decide +kernel
theorem dX7_returns_18 : decode cX7_returns 18 = .ok (.iload_n 1, 1) := by decide +kernel
theorem dX7_returns_19 : decode cX7_returns 19 = .ok (.iaload, 1) := by decide +kernel
theorem dX7_returns_20 : decode cX7_returns 20 = .ok (.iastore, 1) := by decide +kernel
theorem dX7_returns_21 : decode cX7_returns 21 = .ok (.iinc 1 1, 3) := by decide +kernel
theorem dX7_returns_24 : decode cX7_returns 24 = .ok (.goto (-22), 3) := by decide +kernel
theorem dX7_returns_27 : decode cX7_returns 27 = .ok (.return_, 1) := by decide +kernel
theorem dX7_acted_0 : decode cX7_acted 0 = .ok (.iload_n 1, 1) := by decide +kernel
theorem dX7_acted_1 : decode cX7_acted 1 = .ok (.ldc 22, 2) := by decide +kernel
theorem dX7_acted_3 : decode cX7_acted 3 = .ok (.if_icmp .gt 9, 3) := by decide +kernel
theorem dX7_acted_6 : decode cX7_acted 6 = .ok (.aload_n 0, 1) := by decide +kernel
theorem dX7_acted_7 : decode cX7_acted 7 = .ok (.invokevirtual 23, 3) := by decide +kernel
theorem dX7_acted_10 : decode cX7_acted 10 = .ok (.iload_n 1, 1) := by decide +kernel
theorem dX7_acted_11 : decode cX7_acted 11 = .ok (.ireturn, 1) := by decide +kernel
theorem dX7_acted_12 : decode cX7_acted 12 = .ok (.aload_n 0, 1) := by decide +kernel
theorem dX7_acted_13 : decode cX7_acted 13 = .ok (.getfield 26, 3) := by decide +kernel
theorem dX7_acted_16 : decode cX7_acted 16 = .ok (.iconst 4, 1) := by decide +kernel
theorem dX7_acted_17 : decode cX7_acted 17 = .ok (.if_icmp .ne 44, 3) := by decide +kernel
theorem dX7_acted_20 : decode cX7_acted 20 = .ok (.iconst 0, 1) := by decide +kernel
theorem dX7_acted_21 : decode cX7_acted 21 = .ok (.istore_n 2, 1) := by decide +kernel
theorem dX7_acted_22 : decode cX7_acted 22 = .ok (.iload_n 2, 1) := by decide +kernel
theorem dX7_acted_23 : decode cX7_acted 23 = .ok (.sipush 423, 3) := by decide +kernel
theorem dX7_acted_26 : decode cX7_acted 26 = .ok (.if_icmp .ge 25, 3) := by decide +kernel
theorem dX7_acted_29 : decode cX7_acted 29 = .ok (.aload_n 0, 1) := by decide +kernel
theorem dX7_acted_30 : decode cX7_acted 30 = .ok (.getfield 16, 3) := by decide +kernel
theorem dX7_acted_33 : decode cX7_acted 33 = .ok (.iload_n 2, 1) := by decide +kernel
theorem dX7_acted_34 : decode cX7_acted 34 = .ok (.aload_n 0, 1) := by decide +kernel
theorem dX7_acted_35 : decode cX7_acted 35 = .ok (.getfield 16, 3) := by decide +kernel
end
section
theorem dX7_acted_38 : decode cX7_acted 38 = .ok (.iload_n 2, 1) := by decide +kernel
theorem dX7_acted_39 : decode cX7_acted 39 = .ok (.sipush 141, 3) := by decide +kernel
theorem dX7_acted_42 : decode cX7_acted 42 = .ok (.iadd, 1) := by decide +kernel
theorem dX7_acted_43 : decode cX7_acted 43 = .ok (.iaload, 1) := by decide +kernel
theorem dX7_acted_44 : decode cX7_acted 44 = .ok (.iastore, 1) := by decide +kernel
theorem dX7_acted_45 : decode cX7_acted 45 = .ok (.iinc 2 1, 3) := by decide +kernel
theorem dX7_acted_48 : decode cX7_acted 48 = .ok (.goto (-26), 3) := by decide +kernel
theorem dX7_acted_51 : decode cX7_acted 51 = .ok (.aload_n 0, 1) := by decide +kernel
theorem dX7_acted_52 : decode cX7_acted 52 = .ok (.dup, 1) := by decide +kernel
theorem dX7_acted_53 : decode cX7_acted 53 = .ok (.getfield 26, 3) := by decide +kernel
theorem dX7_acted_56 : decode cX7_acted 56 = .ok (.iconst 1, 1) := by decide +kernel
theorem dX7_acted_57 : decode cX7_acted 57 = .ok (.isub, 1) := by decide +kernel
theorem dX7_acted_58 : decode cX7_acted 58 = .ok (.putfield 26, 3) := by decide +kernel
theorem dX7_acted_61 : decode cX7_acted 61 = .ok (.iconst 0, 1) := by decide +kernel
theorem dX7_acted_62 : decode cX7_acted 62 = .ok (.istore_n 2, 1) := by decide +kernel
theorem dX7_acted_63 : decode cX7_acted 63 = .ok (.iload_n 2, 1) := by decide +kernel
theorem dX7_acted_64 : decode cX7_acted 64 = .ok (.sipush 141, 3) := by decide +kernel
theorem dX7_acted_67 : decode cX7_acted 67 = .ok (.if_icmp .ge 30, 3) := by decide +kernel
theorem dX7_acted_70 : decode cX7_acted 70 = .ok (.aload_n 0, 1) := by decide +kernel
theorem dX7_acted_71 : decode cX7_acted 71 = .ok (.getfield 16, 3) := by decide +kernel
theorem dX7_acted_74 : decode cX7_acted 74 = .ok (.sipush 141, 3) := by decide +kernel
theorem dX7_acted_77 : decode cX7_acted 77 = .ok (.aload_n 0, 1) := by decide +kernel
theorem dX7_acted_78 : decode cX7_acted 78 = .ok (.getfield 26, 3) := by decide +kernel
theorem dX7_acted_81 : decode cX7_acted 81 = .ok (.imul, 1) := by decide +kernel
theorem dX7_acted_82 : decode cX7_acted 82 = .ok (.iload_n 2, 1) := by decide +kernel
theorem dX7_acted_83 : decode cX7_acted 83 = .ok (.iadd, 1) := by decide +kernel
theorem dX7_acted_84 : decode cX7_acted 84 = .ok (.aload_n 0, 1) := by decide +kernel
theorem dX7_acted_85 : decode cX7_acted 85 = .ok (.getfield 13, 3) := by decide +kernel
theorem dX7_acted_88 : decode cX7_acted 88 = .ok (.iload_n 2, 1) := by decide +kernel
theorem dX7_acted_89 : decode cX7_acted 89 = .ok (.iaload, 1) := by decide +kernel
theorem dX7_acted_90 : decode cX7_acted 90 = .ok (.iastore, 1) := by decide +kernel
theorem dX7_acted_91 : decode cX7_acted 91 = .ok (.iinc 2 1, 3) := by decide +kernel
theorem dX7_acted_94 : decode cX7_acted 94 = .ok (.goto (-31), 3) := by decide +kernel
theorem dX7_acted_97 : decode cX7_acted 97 = .ok (.aload_n 0, 1) := by decide +kernel
theorem dX7_acted_98 : decode cX7_acted 98 = .ok (.dup, 1) := by decide +kernel
theorem dX7_acted_99 : decode cX7_acted 99 = .ok (.getfield 26, 3) := by decide +kernel
theorem dX7_acted_102 : decode cX7_acted 102 = .ok (.iconst 1, 1) := by decide +kernel
theorem dX7_acted_103 : decode cX7_acted 103 = .ok (.iadd, 1) := by decide +kernel
theorem dX7_acted_104 : decode cX7_acted 104 = .ok (.putfield 26, 3) := by decide +kernel
theorem dX7_acted_107 : decode cX7_acted 107 = .ok (.iload_n 1, 1) := by decide +kernel
theorem dX7_acted_108 : decode cX7_acted 108 = .ok (.ireturn, 1) := by decide +kernel
theorem dX7_isBoiler_0 : decode cX7_isBoiler 0 = .ok (.iload_n 1, 1) := by decide +kernel
theorem dX7_isBoiler_1 : decode cX7_isBoiler 1 = .ok (.iconst 0, 1) := by decide +kernel
theorem dX7_isBoiler_2 : decode cX7_isBoiler 2 = .ok (.aload_n 0, 1) := by decide +kernel
theorem dX7_isBoiler_3 : decode cX7_isBoiler 3 = .ok (.getfield 7, 3) := by decide +kernel
theorem dX7_isBoiler_6 : decode cX7_isBoiler 6 = .ok (.iconst 0, 1) := by decide +kernel
theorem dX7_isBoiler_7 : decode cX7_isBoiler 7 = .ok (.iaload, 1) := by decide +kernel
theorem dX7_isBoiler_8 : decode cX7_isBoiler 8 = .ok (.iconst 1, 1) := by decide +kernel
theorem dX7_isBoiler_9 : decode cX7_isBoiler 9 = .ok (.isub, 1) := by decide +kernel
theorem dX7_isBoiler_10 : decode cX7_isBoiler 10 = .ok (.invokestatic 30, 3) := by decide +kernel
theorem dX7_isBoiler_13 : decode cX7_isBoiler 13 = .ok (.ireturn, 1) := by decide +kernel
theorem dX7_isInspector_0 : decode cX7_isInspector 0 = .ok (.iload_n 1, 1) := by decide +kernel
theorem dX7_isInspector_1 : decode cX7_isInspector 1 = .ok (.iconst 0, 1) := by decide +kernel
theorem dX7_isInspector_2 : decode cX7_isInspector 2 = .ok (.aload_n 0, 1) := by decide +kernel
theorem dX7_isInspector_3 : decode cX7_isInspector 3 = .ok (.getfield 7, 3) := by decide +kernel
theorem dX7_isInspector_6 : decode cX7_isInspector 6 = .ok (.iconst 1, 1) := by decide +kernel
theorem dX7_isInspector_7 : decode cX7_isInspector 7 = .ok (.iaload, 1) := by decide +kernel
theorem dX7_isInspector_8 : decode cX7_isInspector 8 = .ok (.iconst 1, 1) := by decide +kernel
theorem dX7_isInspector_9 : decode cX7_isInspector 9 = .ok (.isub, 1) := by decide +kernel
theorem dX7_isInspector_10 : decode cX7_isInspector 10 = .ok (.invokestatic 30, 3) := by decide +kernel
theorem dX7_isInspector_13 : decode cX7_isInspector 13 = .ok (.ireturn, 1) := by decide +kernel
theorem dX7_of_0 : decode cX7_of 0 = .ok (.aload_n 0, 1) := by decide +kernel
theorem dX7_of_1 : decode cX7_of 1 = .ok (.getfield 7, 3) := by decide +kernel
theorem dX7_of_4 : decode cX7_of 4 = .ok (.bipush 15, 2) := by decide +kernel
theorem dX7_of_6 : decode cX7_of 6 = .ok (.bipush 12, 2) := by decide +kernel
theorem dX7_of_8 : decode cX7_of 8 = .ok (.iload_n 1, 1) := by decide +kernel
theorem dX7_of_9 : decode cX7_of 9 = .ok (.imul, 1) := by decide +kernel
theorem dX7_of_10 : decode cX7_of 10 = .ok (.iadd, 1) := by decide +kernel
theorem dX7_of_11 : decode cX7_of 11 = .ok (.iload_n 2, 1) := by decide +kernel
theorem dX7_of_12 : decode cX7_of 12 = .ok (.iadd, 1) := by decide +kernel
theorem dX7_of_13 : decode cX7_of 13 = .ok (.iaload, 1) := by decide +kernel
theorem dX7_of_14 : decode cX7_of 14 = .ok (.ireturn, 1) := by decide +kernel
theorem dX7_lays_0 : decode cX7_lays 0 = .ok (.aload_n 0, 1) := by decide +kernel
theorem dX7_lays_1 : decode cX7_lays 1 = .ok (.getfield 7, 3) := by decide +kernel
theorem dX7_lays_4 : decode cX7_lays 4 = .ok (.bipush 15, 2) := by decide +kernel
theorem dX7_lays_6 : decode cX7_lays 6 = .ok (.bipush 12, 2) := by decide +kernel
theorem dX7_lays_8 : decode cX7_lays 8 = .ok (.iload_n 1, 1) := by decide +kernel
theorem dX7_lays_9 : decode cX7_lays 9 = .ok (.imul, 1) := by decide +kernel
theorem dX7_lays_10 : decode cX7_lays 10 = .ok (.iadd, 1) := by decide +kernel
theorem dX7_lays_11 : decode cX7_lays 11 = .ok (.iload_n 2, 1) := by decide +kernel
theorem dX7_lays_12 : decode cX7_lays 12 = .ok (.iadd, 1) := by decide +kernel
theorem dX7_lays_13 : decode cX7_lays 13 = .ok (.iload_n 3, 1) := by decide +kernel
theorem dX7_lays_14 : decode cX7_lays 14 = .ok (.iastore, 1) := by decide +kernel
theorem dX7_lays_15 : decode cX7_lays 15 = .ok (.return_, 1) := by decide +kernel
theorem dX7_by_0 : decode cX7_by 0 = .ok (.aload_n 0, 1) := by decide +kernel
theorem dX7_by_1 : decode cX7_by 1 = .ok (.getfield 7, 3) := by decide +kernel
theorem dX7_by_4 : decode cX7_by 4 = .ok (.bipush 111, 2) := by decide +kernel
theorem dX7_by_6 : decode cX7_by 6 = .ok (.iconst 5, 1) := by decide +kernel
theorem dX7_by_7 : decode cX7_by 7 = .ok (.iload_n 1, 1) := by decide +kernel
theorem dX7_by_8 : decode cX7_by 8 = .ok (.imul, 1) := by decide +kernel
theorem dX7_by_9 : decode cX7_by 9 = .ok (.iadd, 1) := by decide +kernel
theorem dX7_by_10 : decode cX7_by 10 = .ok (.iload_n 2, 1) := by decide +kernel
theorem dX7_by_11 : decode cX7_by 11 = .ok (.iadd, 1) := by decide +kernel
theorem dX7_by_12 : decode cX7_by 12 = .ok (.iaload, 1) := by decide +kernel
theorem dX7_by_13 : decode cX7_by 13 = .ok (.ireturn, 1) := by decide +kernel
theorem dX7_counts_0 : decode cX7_counts 0 = .ok (.aload_n 0, 1) := by decide +kernel
theorem dX7_counts_1 : decode cX7_counts 1 = .ok (.getfield 7, 3) := by decide +kernel
theorem dX7_counts_4 : decode cX7_counts 4 = .ok (.bipush 111, 2) := by decide +kernel
theorem dX7_counts_6 : decode cX7_counts 6 = .ok (.iconst 5, 1) := by decide +kernel
theorem dX7_counts_7 : decode cX7_counts 7 = .ok (.iload_n 1, 1) := by decide +kernel
theorem dX7_counts_8 : decode cX7_counts 8 = .ok (.imul, 1) := by decide +kernel
theorem dX7_counts_9 : decode cX7_counts 9 = .ok (.iadd, 1) := by decide +kernel
theorem dX7_counts_10 : decode cX7_counts 10 = .ok (.iload_n 2, 1) := by decide +kernel
theorem dX7_counts_11 : decode cX7_counts 11 = .ok (.iadd, 1) := by decide +kernel
theorem dX7_counts_12 : decode cX7_counts 12 = .ok (.dup2, 1) := by decide +kernel
theorem dX7_counts_13 : decode cX7_counts 13 = .ok (.iaload, 1) := by decide +kernel
theorem dX7_counts_14 : decode cX7_counts 14 = .ok (.iconst 1, 1) := by decide +kernel
theorem dX7_counts_15 : decode cX7_counts 15 = .ok (.iadd, 1) := by decide +kernel
theorem dX7_counts_16 : decode cX7_counts 16 = .ok (.iastore, 1) := by decide +kernel
theorem dX7_counts_17 : decode cX7_counts 17 = .ok (.return_, 1) := by decide +kernel
theorem dX7_strength_0 : decode cX7_strength 0 = .ok (.aload_n 0, 1) := by decide +kernel
theorem dX7_strength_1 : decode cX7_strength 1 = .ok (.iload_n 1, 1) := by decide +kernel
theorem dX7_strength_2 : decode cX7_strength 2 = .ok (.iconst 0, 1) := by decide +kernel
theorem dX7_strength_3 : decode cX7_strength 3 = .ok (.invokevirtual 34, 3) := by decide +kernel
theorem dX7_strength_6 : decode cX7_strength 6 = .ok (.sipush 200, 3) := by decide +kernel
theorem dX7_strength_9 : decode cX7_strength 9 = .ok (.aload_n 0, 1) := by decide +kernel
theorem dX7_strength_10 : decode cX7_strength 10 = .ok (.iload_n 1, 1) := by decide +kernel
theorem dX7_strength_11 : decode cX7_strength 11 = .ok (.iconst 2, 1) := by decide +kernel
theorem dX7_strength_12 : decode cX7_strength 12 = .ok (.invokevirtual 34, 3) := by decide +kernel
theorem dX7_strength_15 : decode cX7_strength 15 = .ok (.isub, 1) := by decide +kernel
theorem dX7_strength_16 : decode cX7_strength 16 = .ok (.imul, 1) := by decide +kernel
theorem dX7_strength_17 : decode cX7_strength 17 = .ok (.sipush 200, 3) := by decide +kernel
theorem dX7_strength_20 : decode cX7_strength 20 = .ok (.idiv, 1) := by decide +kernel
theorem dX7_strength_21 : decode cX7_strength 21 = .ok (.ireturn, 1) := by decide +kernel
theorem dX7_pressureBy_0 : decode cX7_pressureBy 0 = .ok (.iload_n 2, 1) := by decide +kernel
theorem dX7_pressureBy_1 : decode cX7_pressureBy 1 = .ok (.ifCond .ne 11, 3) := by decide +kernel
theorem dX7_pressureBy_4 : decode cX7_pressureBy 4 = .ok (.aload_n 0, 1) := by decide +kernel
theorem dX7_pressureBy_5 : decode cX7_pressureBy 5 = .ok (.iload_n 1, 1) := by decide +kernel
theorem dX7_pressureBy_6 : decode cX7_pressureBy 6 = .ok (.invokevirtual 38, 3) := by decide +kernel
theorem dX7_pressureBy_9 : decode cX7_pressureBy 9 = .ok (.goto 14, 3) := by decide +kernel
theorem dX7_pressureBy_12 : decode cX7_pressureBy 12 = .ok (.aload_n 0, 1) := by decide +kernel
theorem dX7_pressureBy_13 : decode cX7_pressureBy 13 = .ok (.iload_n 1, 1) := by decide +kernel
theorem dX7_pressureBy_14 : decode cX7_pressureBy 14 = .ok (.invokevirtual 38, 3) := by decide +kernel
theorem dX7_pressureBy_17 : decode cX7_pressureBy 17 = .ok (.bipush 9, 2) := by decide +kernel
theorem dX7_pressureBy_19 : decode cX7_pressureBy 19 = .ok (.imul, 1) := by decide +kernel
theorem dX7_pressureBy_20 : decode cX7_pressureBy 20 = .ok (.bipush 10, 2) := by decide +kernel
theorem dX7_pressureBy_22 : decode cX7_pressureBy 22 = .ok (.idiv, 1) := by decide +kernel
theorem dX7_pressureBy_23 : decode cX7_pressureBy 23 = .ok (.istore_n 3, 1) := by decide +kernel
theorem dX7_pressureBy_24 : decode cX7_pressureBy 24 = .ok (.aload_n 0, 1) := by decide +kernel
theorem dX7_pressureBy_25 : decode cX7_pressureBy 25 = .ok (.iload_n 1, 1) := by decide +kernel
theorem dX7_pressureBy_26 : decode cX7_pressureBy 26 = .ok (.iconst 2, 1) := by decide +kernel
theorem dX7_pressureBy_27 : decode cX7_pressureBy 27 = .ok (.invokevirtual 34, 3) := by decide +kernel
theorem dX7_pressureBy_30 : decode cX7_pressureBy 30 = .ok (.aload_n 0, 1) := by decide +kernel
theorem dX7_pressureBy_31 : decode cX7_pressureBy 31 = .ok (.getfield 7, 3) := by decide +kernel
theorem dX7_pressureBy_34 : decode cX7_pressureBy 34 = .ok (.bipush 7, 2) := by decide +kernel
theorem dX7_pressureBy_36 : decode cX7_pressureBy 36 = .ok (.iload_n 2, 1) := by decide +kernel
theorem dX7_pressureBy_37 : decode cX7_pressureBy 37 = .ok (.iadd, 1) := by decide +kernel
theorem dX7_pressureBy_38 : decode cX7_pressureBy 38 = .ok (.iaload, 1) := by decide +kernel
theorem dX7_pressureBy_39 : decode cX7_pressureBy 39 = .ok (.if_icmp .gt 8, 3) := by decide +kernel
theorem dX7_pressureBy_42 : decode cX7_pressureBy 42 = .ok (.iload_n 3, 1) := by decide +kernel
theorem dX7_pressureBy_43 : decode cX7_pressureBy 43 = .ok (.iconst 1, 1) := by decide +kernel
theorem dX7_pressureBy_44 : decode cX7_pressureBy 44 = .ok (.if_icmp .ge 7, 3) := by decide +kernel
theorem dX7_pressureBy_47 : decode cX7_pressureBy 47 = .ok (.iconst 0, 1) := by decide +kernel
theorem dX7_pressureBy_48 : decode cX7_pressureBy 48 = .ok (.goto 4, 3) := by decide +kernel
theorem dX7_pressureBy_51 : decode cX7_pressureBy 51 = .ok (.iload_n 3, 1) := by decide +kernel
theorem dX7_pressureBy_52 : decode cX7_pressureBy 52 = .ok (.ireturn, 1) := by decide +kernel
theorem dX7_lastBy_0 : decode cX7_lastBy 0 = .ok (.aload_n 0, 1) := by decide +kernel
theorem dX7_lastBy_1 : decode cX7_lastBy 1 = .ok (.getfield 7, 3) := by decide +kernel
theorem dX7_lastBy_4 : decode cX7_lastBy 4 = .ok (.iconst 2, 1) := by decide +kernel
theorem dX7_lastBy_5 : decode cX7_lastBy 5 = .ok (.iaload, 1) := by decide +kernel
theorem dX7_lastBy_6 : decode cX7_lastBy 6 = .ok (.iload_n 2, 1) := by decide +kernel
theorem dX7_lastBy_7 : decode cX7_lastBy 7 = .ok (.ifCond .ne 17, 3) := by decide +kernel
theorem dX7_lastBy_10 : decode cX7_lastBy 10 = .ok (.bipush 52, 2) := by decide +kernel
theorem dX7_lastBy_12 : decode cX7_lastBy 12 = .ok (.aload_n 0, 1) := by decide +kernel
theorem dX7_lastBy_13 : decode cX7_lastBy 13 = .ok (.iload_n 1, 1) := by decide +kernel
theorem dX7_lastBy_14 : decode cX7_lastBy 14 = .ok (.iconst 2, 1) := by decide +kernel
theorem dX7_lastBy_15 : decode cX7_lastBy 15 = .ok (.invokevirtual 34, 3) := by decide +kernel
theorem dX7_lastBy_18 : decode cX7_lastBy 18 = .ok (.iconst 5, 1) := by decide +kernel
theorem dX7_lastBy_19 : decode cX7_lastBy 19 = .ok (.idiv, 1) := by decide +kernel
theorem dX7_lastBy_20 : decode cX7_lastBy 20 = .ok (.isub, 1) := by decide +kernel
theorem dX7_lastBy_21 : decode cX7_lastBy 21 = .ok (.goto 5, 3) := by decide +kernel
theorem dX7_lastBy_24 : decode cX7_lastBy 24 = .ok (.bipush 40, 2) := by decide +kernel
theorem dX7_lastBy_26 : decode cX7_lastBy 26 = .ok (.iadd, 1) := by decide +kernel
theorem dX7_lastBy_27 : decode cX7_lastBy 27 = .ok (.ireturn, 1) := by decide +kernel
theorem dX7_hasPaper_0 : decode cX7_hasPaper 0 = .ok (.aload_n 0, 1) := by decide +kernel
theorem dX7_hasPaper_1 : decode cX7_hasPaper 1 = .ok (.iload_n 1, 1) := by decide +kernel
theorem dX7_hasPaper_2 : decode cX7_hasPaper 2 = .ok (.bipush 9, 2) := by decide +kernel
theorem dX7_hasPaper_4 : decode cX7_hasPaper 4 = .ok (.invokevirtual 34, 3) := by decide +kernel
theorem dX7_hasPaper_7 : decode cX7_hasPaper 7 = .ok (.ifCond .lt 7, 3) := by decide +kernel
theorem dX7_hasPaper_10 : decode cX7_hasPaper 10 = .ok (.iconst 1, 1) := by decide +kernel
theorem dX7_hasPaper_11 : decode cX7_hasPaper 11 = .ok (.goto 4, 3) := by decide +kernel
theorem dX7_hasPaper_14 : decode cX7_hasPaper 14 = .ok (.iconst 0, 1) := by decide +kernel
theorem dX7_hasPaper_15 : decode cX7_hasPaper 15 = .ok (.ireturn, 1) := by decide +kernel
theorem dX7_isShut_0 : decode cX7_isShut 0 = .ok (.aload_n 0, 1) := by decide +kernel
theorem dX7_isShut_1 : decode cX7_isShut 1 = .ok (.iload_n 1, 1) := by decide +kernel
theorem dX7_isShut_2 : decode cX7_isShut 2 = .ok (.bipush 7, 2) := by decide +kernel
theorem dX7_isShut_4 : decode cX7_isShut 4 = .ok (.invokevirtual 34, 3) := by decide +kernel
theorem dX7_isShut_7 : decode cX7_isShut 7 = .ok (.ifCond .lt 33, 3) := by decide +kernel
theorem dX7_isShut_10 : decode cX7_isShut 10 = .ok (.aload_n 0, 1) := by decide +kernel
theorem dX7_isShut_11 : decode cX7_isShut 11 = .ok (.getfield 7, 3) := by decide +kernel
theorem dX7_isShut_14 : decode cX7_isShut 14 = .ok (.iconst 2, 1) := by decide +kernel
theorem dX7_isShut_15 : decode cX7_isShut 15 = .ok (.iaload, 1) := by decide +kernel
theorem dX7_isShut_16 : decode cX7_isShut 16 = .ok (.aload_n 0, 1) := by decide +kernel
theorem dX7_isShut_17 : decode cX7_isShut 17 = .ok (.iload_n 1, 1) := by decide +kernel
theorem dX7_isShut_18 : decode cX7_isShut 18 = .ok (.bipush 7, 2) := by decide +kernel
theorem dX7_isShut_20 : decode cX7_isShut 20 = .ok (.invokevirtual 34, 3) := by decide +kernel
theorem dX7_isShut_23 : decode cX7_isShut 23 = .ok (.aload_n 0, 1) := by decide +kernel
theorem dX7_isShut_24 : decode cX7_isShut 24 = .ok (.iload_n 1, 1) := by decide +kernel
theorem dX7_isShut_25 : decode cX7_isShut 25 = .ok (.bipush 8, 2) := by decide +kernel
theorem dX7_isShut_27 : decode cX7_isShut 27 = .ok (.invokevirtual 34, 3) := by decide +kernel
theorem dX7_isShut_30 : decode cX7_isShut 30 = .ok (.invokestatic 30, 3) := by decide +kernel
theorem dX7_isShut_33 : decode cX7_isShut 33 = .ok (.ifCond .eq 7, 3) := by decide +kernel
theorem dX7_isShut_36 : decode cX7_isShut 36 = .ok (.iconst 1, 1) := by decide +kernel
theorem dX7_isShut_37 : decode cX7_isShut 37 = .ok (.goto 4, 3) := by decide +kernel
theorem dX7_isShut_40 : decode cX7_isShut 40 = .ok (.iconst 0, 1) := by decide +kernel
theorem dX7_isShut_41 : decode cX7_isShut 41 = .ok (.ireturn, 1) := by decide +kernel
theorem dX7_whyNotFired_0 : decode cX7_whyNotFired 0 = .ok (.aload_n 0, 1) := by decide +kernel
theorem dX7_whyNotFired_1 : decode cX7_whyNotFired 1 = .ok (.iload_n 1, 1) := by decide +kernel
theorem dX7_whyNotFired_2 : decode cX7_whyNotFired 2 = .ok (.iconst 3, 1) := by decide +kernel
theorem dX7_whyNotFired_3 : decode cX7_whyNotFired 3 = .ok (.invokevirtual 34, 3) := by decide +kernel
theorem dX7_whyNotFired_6 : decode cX7_whyNotFired 6 = .ok (.ifCond .eq 19, 3) := by decide +kernel
theorem dX7_whyNotFired_9 : decode cX7_whyNotFired 9 = .ok (.aload_n 0, 1) := by decide +kernel
theorem dX7_whyNotFired_10 : decode cX7_whyNotFired 10 = .ok (.iload_n 1, 1) := by decide +kernel
theorem dX7_whyNotFired_11 : decode cX7_whyNotFired 11 = .ok (.iconst 3, 1) := by decide +kernel
theorem dX7_whyNotFired_12 : decode cX7_whyNotFired 12 = .ok (.invokevirtual 34, 3) := by decide +kernel
theorem dX7_whyNotFired_15 : decode cX7_whyNotFired 15 = .ok (.iconst 2, 1) := by decide +kernel
theorem dX7_whyNotFired_16 : decode cX7_whyNotFired 16 = .ok (.if_icmp .ne 7, 3) := by decide +kernel
theorem dX7_whyNotFired_19 : decode cX7_whyNotFired 19 = .ok (.iconst 1, 1) := by decide +kernel
theorem dX7_whyNotFired_20 : decode cX7_whyNotFired 20 = .ok (.goto 4, 3) := by decide +kernel
theorem dX7_whyNotFired_23 : decode cX7_whyNotFired 23 = .ok (.iconst 2, 1) := by decide +kernel
theorem dX7_whyNotFired_24 : decode cX7_whyNotFired 24 = .ok (.ireturn, 1) := by decide +kernel
theorem dX7_whyNotFired_25 : decode cX7_whyNotFired 25 = .ok (.aload_n 0, 1) := by decide +kernel
theorem dX7_whyNotFired_26 : decode cX7_whyNotFired 26 = .ok (.iload_n 1, 1) := by decide +kernel
theorem dX7_whyNotFired_27 : decode cX7_whyNotFired 27 = .ok (.bipush 6, 2) := by decide +kernel
theorem dX7_whyNotFired_29 : decode cX7_whyNotFired 29 = .ok (.invokevirtual 34, 3) := by decide +kernel
theorem dX7_whyNotFired_32 : decode cX7_whyNotFired 32 = .ok (.iconst 1, 1) := by decide +kernel
theorem dX7_whyNotFired_33 : decode cX7_whyNotFired 33 = .ok (.if_icmp .ne 5, 3) := by decide +kernel
theorem dX7_whyNotFired_36 : decode cX7_whyNotFired 36 = .ok (.iconst 3, 1) := by decide +kernel
theorem dX7_whyNotFired_37 : decode cX7_whyNotFired 37 = .ok (.ireturn, 1) := by decide +kernel
theorem dX7_whyNotFired_38 : decode cX7_whyNotFired 38 = .ok (.aload_n 0, 1) := by decide +kernel
theorem dX7_whyNotFired_39 : decode cX7_whyNotFired 39 = .ok (.iload_n 1, 1) := by decide +kernel
theorem dX7_whyNotFired_40 : decode cX7_whyNotFired 40 = .ok (.invokevirtual 42, 3) := by decide +kernel
theorem dX7_whyNotFired_43 : decode cX7_whyNotFired 43 = .ok (.ifCond .eq 7, 3) := by decide +kernel
theorem dX7_whyNotFired_46 : decode cX7_whyNotFired 46 = .ok (.iconst 4, 1) := by decide +kernel
theorem dX7_whyNotFired_47 : decode cX7_whyNotFired 47 = .ok (.goto 37, 3) := by decide +kernel
theorem dX7_whyNotFired_50 : decode cX7_whyNotFired 50 = .ok (.aload_n 0, 1) := by decide +kernel
theorem dX7_whyNotFired_51 : decode cX7_whyNotFired 51 = .ok (.iload_n 1, 1) := by decide +kernel
theorem dX7_whyNotFired_52 : decode cX7_whyNotFired 52 = .ok (.invokevirtual 46, 3) := by decide +kernel
theorem dX7_whyNotFired_55 : decode cX7_whyNotFired 55 = .ok (.ifCond .ne 7, 3) := by decide +kernel
theorem dX7_whyNotFired_58 : decode cX7_whyNotFired 58 = .ok (.iconst 5, 1) := by decide +kernel
theorem dX7_whyNotFired_59 : decode cX7_whyNotFired 59 = .ok (.goto 25, 3) := by decide +kernel
theorem dX7_whyNotFired_62 : decode cX7_whyNotFired 62 = .ok (.aload_n 0, 1) := by decide +kernel
theorem dX7_whyNotFired_63 : decode cX7_whyNotFired 63 = .ok (.iload_n 1, 1) := by decide +kernel
theorem dX7_whyNotFired_64 : decode cX7_whyNotFired 64 = .ok (.iconst 1, 1) := by decide +kernel
theorem dX7_whyNotFired_65 : decode cX7_whyNotFired 65 = .ok (.invokevirtual 34, 3) := by decide +kernel
theorem dX7_whyNotFired_68 : decode cX7_whyNotFired 68 = .ok (.aload_n 0, 1) := by decide +kernel
theorem dX7_whyNotFired_69 : decode cX7_whyNotFired 69 = .ok (.iload_n 1, 1) := by decide +kernel
theorem dX7_whyNotFired_70 : decode cX7_whyNotFired 70 = .ok (.bipush 10, 2) := by decide +kernel
theorem dX7_whyNotFired_72 : decode cX7_whyNotFired 72 = .ok (.invokevirtual 34, 3) := by decide +kernel
theorem dX7_whyNotFired_75 : decode cX7_whyNotFired 75 = .ok (.if_icmp .le 8, 3) := by decide +kernel
theorem dX7_whyNotFired_78 : decode cX7_whyNotFired 78 = .ok (.bipush 6, 2) := by decide +kernel
theorem dX7_whyNotFired_80 : decode cX7_whyNotFired 80 = .ok (.goto 4, 3) := by decide +kernel
theorem dX7_whyNotFired_83 : decode cX7_whyNotFired 83 = .ok (.iconst 0, 1) := by decide +kernel
theorem dX7_whyNotFired_84 : decode cX7_whyNotFired 84 = .ok (.ireturn, 1) := by decide +kernel
theorem dX7_whyNotInspected_0 : decode cX7_whyNotInspected 0 = .ok (.aload_n 0, 1) := by decide +kernel
theorem dX7_whyNotInspected_1 : decode cX7_whyNotInspected 1 = .ok (.iload_n 1, 1) := by decide +kernel
theorem dX7_whyNotInspected_2 : decode cX7_whyNotInspected 2 = .ok (.iconst 3, 1) := by decide +kernel
theorem dX7_whyNotInspected_3 : decode cX7_whyNotInspected 3 = .ok (.invokevirtual 34, 3) := by decide +kernel
theorem dX7_whyNotInspected_6 : decode cX7_whyNotInspected 6 = .ok (.ifCond .eq 19, 3) := by decide +kernel
theorem dX7_whyNotInspected_9 : decode cX7_whyNotInspected 9 = .ok (.aload_n 0, 1) := by decide +kernel
theorem dX7_whyNotInspected_10 : decode cX7_whyNotInspected 10 = .ok (.iload_n 1, 1) := by decide +kernel
theorem dX7_whyNotInspected_11 : decode cX7_whyNotInspected 11 = .ok (.iconst 3, 1) := by decide +kernel
theorem dX7_whyNotInspected_12 : decode cX7_whyNotInspected 12 = .ok (.invokevirtual 34, 3) := by decide +kernel
theorem dX7_whyNotInspected_15 : decode cX7_whyNotInspected 15 = .ok (.iconst 2, 1) := by decide +kernel
theorem dX7_whyNotInspected_16 : decode cX7_whyNotInspected 16 = .ok (.if_icmp .ne 7, 3) := by decide +kernel
theorem dX7_whyNotInspected_19 : decode cX7_whyNotInspected 19 = .ok (.iconst 1, 1) := by decide +kernel
theorem dX7_whyNotInspected_20 : decode cX7_whyNotInspected 20 = .ok (.goto 4, 3) := by decide +kernel
theorem dX7_whyNotInspected_23 : decode cX7_whyNotInspected 23 = .ok (.iconst 2, 1) := by decide +kernel
theorem dX7_whyNotInspected_24 : decode cX7_whyNotInspected 24 = .ok (.ireturn, 1) := by decide +kernel
theorem dX7_whyNotInspected_25 : decode cX7_whyNotInspected 25 = .ok (.aload_n 0, 1) := by decide +kernel
theorem dX7_whyNotInspected_26 : decode cX7_whyNotInspected 26 = .ok (.iload_n 1, 1) := by decide +kernel
theorem dX7_whyNotInspected_27 : decode cX7_whyNotInspected 27 = .ok (.iconst 4, 1) := by decide +kernel
theorem dX7_whyNotInspected_28 : decode cX7_whyNotInspected 28 = .ok (.invokevirtual 34, 3) := by decide +kernel
theorem dX7_whyNotInspected_31 : decode cX7_whyNotInspected 31 = .ok (.ifCond .ne 5, 3) := by decide +kernel
theorem dX7_whyNotInspected_34 : decode cX7_whyNotInspected 34 = .ok (.iconst 3, 1) := by decide +kernel
theorem dX7_whyNotInspected_35 : decode cX7_whyNotInspected 35 = .ok (.ireturn, 1) := by decide +kernel
theorem dX7_whyNotInspected_36 : decode cX7_whyNotInspected 36 = .ok (.aload_n 0, 1) := by decide +kernel
theorem dX7_whyNotInspected_37 : decode cX7_whyNotInspected 37 = .ok (.iload_n 1, 1) := by decide +kernel
theorem dX7_whyNotInspected_38 : decode cX7_whyNotInspected 38 = .ok (.bipush 6, 2) := by decide +kernel
theorem dX7_whyNotInspected_40 : decode cX7_whyNotInspected 40 = .ok (.invokevirtual 34, 3) := by decide +kernel
theorem dX7_whyNotInspected_43 : decode cX7_whyNotInspected 43 = .ok (.iconst 1, 1) := by decide +kernel
theorem dX7_whyNotInspected_44 : decode cX7_whyNotInspected 44 = .ok (.if_icmp .ne 7, 3) := by decide +kernel
theorem dX7_whyNotInspected_47 : decode cX7_whyNotInspected 47 = .ok (.iconst 4, 1) := by decide +kernel
theorem dX7_whyNotInspected_48 : decode cX7_whyNotInspected 48 = .ok (.goto 23, 3) := by decide +kernel
theorem dX7_whyNotInspected_51 : decode cX7_whyNotInspected 51 = .ok (.aload_n 0, 1) := by decide +kernel
theorem dX7_whyNotInspected_52 : decode cX7_whyNotInspected 52 = .ok (.iload_n 2, 1) := by decide +kernel
theorem dX7_whyNotInspected_53 : decode cX7_whyNotInspected 53 = .ok (.iconst 2, 1) := by decide +kernel
theorem dX7_whyNotInspected_54 : decode cX7_whyNotInspected 54 = .ok (.invokevirtual 49, 3) := by decide +kernel
theorem dX7_whyNotInspected_57 : decode cX7_whyNotInspected 57 = .ok (.aload_n 0, 1) := by decide +kernel
theorem dX7_whyNotInspected_58 : decode cX7_whyNotInspected 58 = .ok (.iload_n 2, 1) := by decide +kernel
theorem dX7_whyNotInspected_59 : decode cX7_whyNotInspected 59 = .ok (.iconst 1, 1) := by decide +kernel
theorem dX7_whyNotInspected_60 : decode cX7_whyNotInspected 60 = .ok (.invokevirtual 49, 3) := by decide +kernel
theorem dX7_whyNotInspected_63 : decode cX7_whyNotInspected 63 = .ok (.if_icmp .ne 7, 3) := by decide +kernel
theorem dX7_whyNotInspected_66 : decode cX7_whyNotInspected 66 = .ok (.iconst 5, 1) := by decide +kernel
theorem dX7_whyNotInspected_67 : decode cX7_whyNotInspected 67 = .ok (.goto 4, 3) := by decide +kernel
theorem dX7_whyNotInspected_70 : decode cX7_whyNotInspected 70 = .ok (.iconst 0, 1) := by decide +kernel
theorem dX7_whyNotInspected_71 : decode cX7_whyNotInspected 71 = .ok (.ireturn, 1) := by decide +kernel
theorem dX7_cools_0 : decode cX7_cools 0 = .ok (.aload_n 0, 1) := by decide +kernel
theorem dX7_cools_1 : decode cX7_cools 1 = .ok (.iload_n 1, 1) := by decide +kernel
theorem dX7_cools_2 : decode cX7_cools 2 = .ok (.iconst 3, 1) := by decide +kernel
theorem dX7_cools_3 : decode cX7_cools 3 = .ok (.iconst 0, 1) := by decide +kernel
theorem dX7_cools_4 : decode cX7_cools 4 = .ok (.invokevirtual 52, 3) := by decide +kernel
theorem dX7_cools_7 : decode cX7_cools 7 = .ok (.aload_n 0, 1) := by decide +kernel
theorem dX7_cools_8 : decode cX7_cools 8 = .ok (.iload_n 1, 1) := by decide +kernel
theorem dX7_cools_9 : decode cX7_cools 9 = .ok (.iconst 4, 1) := by decide +kernel
theorem dX7_cools_10 : decode cX7_cools 10 = .ok (.iconst 0, 1) := by decide +kernel
theorem dX7_cools_11 : decode cX7_cools 11 = .ok (.invokevirtual 52, 3) := by decide +kernel
theorem dX7_cools_14 : decode cX7_cools 14 = .ok (.return_, 1) := by decide +kernel
theorem dX7_pays_0 : decode cX7_pays 0 = .ok (.aload_n 0, 1) := by decide +kernel
theorem dX7_pays_1 : decode cX7_pays 1 = .ok (.getfield 7, 3) := by decide +kernel
theorem dX7_pays_4 : decode cX7_pays 4 = .ok (.bipush 14, 2) := by decide +kernel
theorem dX7_pays_6 : decode cX7_pays 6 = .ok (.dup2, 1) := by decide +kernel
theorem dX7_pays_7 : decode cX7_pays 7 = .ok (.iaload, 1) := by decide +kernel
theorem dX7_pays_8 : decode cX7_pays 8 = .ok (.iload_n 2, 1) := by decide +kernel
theorem dX7_pays_9 : decode cX7_pays 9 = .ok (.isub, 1) := by decide +kernel
theorem dX7_pays_10 : decode cX7_pays 10 = .ok (.iastore, 1) := by decide +kernel
theorem dX7_pays_11 : decode cX7_pays 11 = .ok (.aload_n 0, 1) := by decide +kernel
theorem dX7_pays_12 : decode cX7_pays 12 = .ok (.getfield 7, 3) := by decide +kernel
theorem dX7_pays_15 : decode cX7_pays 15 = .ok (.bipush 11, 2) := by decide +kernel
theorem dX7_pays_17 : decode cX7_pays 17 = .ok (.iload_n 1, 1) := by decide +kernel
theorem dX7_pays_18 : decode cX7_pays 18 = .ok (.iadd, 1) := by decide +kernel
theorem dX7_pays_19 : decode cX7_pays 19 = .ok (.dup2, 1) := by decide +kernel
theorem dX7_pays_20 : decode cX7_pays 20 = .ok (.iaload, 1) := by decide +kernel
theorem dX7_pays_21 : decode cX7_pays 21 = .ok (.iload_n 2, 1) := by decide +kernel
theorem dX7_pays_22 : decode cX7_pays 22 = .ok (.iadd, 1) := by decide +kernel
theorem dX7_pays_23 : decode cX7_pays 23 = .ok (.iastore, 1) := by decide +kernel
theorem dX7_pays_24 : decode cX7_pays 24 = .ok (.return_, 1) := by decide +kernel
theorem dX7_repairs_0 : decode cX7_repairs 0 = .ok (.aload_n 0, 1) := by decide +kernel
theorem dX7_repairs_1 : decode cX7_repairs 1 = .ok (.iload_n 1, 1) := by decide +kernel
theorem dX7_repairs_2 : decode cX7_repairs 2 = .ok (.iconst 3, 1) := by decide +kernel
theorem dX7_repairs_3 : decode cX7_repairs 3 = .ok (.invokevirtual 34, 3) := by decide +kernel
theorem dX7_repairs_6 : decode cX7_repairs 6 = .ok (.iconst 2, 1) := by decide +kernel
theorem dX7_repairs_7 : decode cX7_repairs 7 = .ok (.if_icmp .ne 53, 3) := by decide +kernel
theorem dX7_repairs_10 : decode cX7_repairs 10 = .ok (.aload_n 0, 1) := by decide +kernel
theorem dX7_repairs_11 : decode cX7_repairs 11 = .ok (.iload_n 1, 1) := by decide +kernel
theorem dX7_repairs_12 : decode cX7_repairs 12 = .ok (.iconst 5, 1) := by decide +kernel
theorem dX7_repairs_13 : decode cX7_repairs 13 = .ok (.invokevirtual 34, 3) := by decide +kernel
theorem dX7_repairs_16 : decode cX7_repairs 16 = .ok (.aload_n 0, 1) := by decide +kernel
theorem dX7_repairs_17 : decode cX7_repairs 17 = .ok (.getfield 7, 3) := by decide +kernel
theorem dX7_repairs_20 : decode cX7_repairs 20 = .ok (.iconst 2, 1) := by decide +kernel
theorem dX7_repairs_21 : decode cX7_repairs 21 = .ok (.iaload, 1) := by decide +kernel
theorem dX7_repairs_22 : decode cX7_repairs 22 = .ok (.if_icmp .ne 38, 3) := by decide +kernel
theorem dX7_repairs_25 : decode cX7_repairs 25 = .ok (.aload_n 0, 1) := by decide +kernel
theorem dX7_repairs_26 : decode cX7_repairs 26 = .ok (.iload_n 1, 1) := by decide +kernel
theorem dX7_repairs_27 : decode cX7_repairs 27 = .ok (.invokevirtual 56, 3) := by decide +kernel
theorem dX7_repairs_30 : decode cX7_repairs 30 = .ok (.aload_n 0, 1) := by decide +kernel
theorem dX7_repairs_31 : decode cX7_repairs 31 = .ok (.iload_n 1, 1) := by decide +kernel
theorem dX7_repairs_32 : decode cX7_repairs 32 = .ok (.iconst 2, 1) := by decide +kernel
theorem dX7_repairs_33 : decode cX7_repairs 33 = .ok (.aload_n 0, 1) := by decide +kernel
theorem dX7_repairs_34 : decode cX7_repairs 34 = .ok (.iload_n 1, 1) := by decide +kernel
theorem dX7_repairs_35 : decode cX7_repairs 35 = .ok (.iconst 2, 1) := by decide +kernel
theorem dX7_repairs_36 : decode cX7_repairs 36 = .ok (.invokevirtual 34, 3) := by decide +kernel
theorem dX7_repairs_39 : decode cX7_repairs 39 = .ok (.iconst 4, 1) := by decide +kernel
theorem dX7_repairs_40 : decode cX7_repairs 40 = .ok (.idiv, 1) := by decide +kernel
theorem dX7_repairs_41 : decode cX7_repairs 41 = .ok (.invokevirtual 52, 3) := by decide +kernel
theorem dX7_repairs_44 : decode cX7_repairs 44 = .ok (.aload_n 0, 1) := by decide +kernel
theorem dX7_repairs_45 : decode cX7_repairs 45 = .ok (.iload_n 1, 1) := by decide +kernel
theorem dX7_repairs_46 : decode cX7_repairs 46 = .ok (.bipush 6, 2) := by decide +kernel
theorem dX7_repairs_48 : decode cX7_repairs 48 = .ok (.iconst 0, 1) := by decide +kernel
theorem dX7_repairs_49 : decode cX7_repairs 49 = .ok (.invokevirtual 52, 3) := by decide +kernel
theorem dX7_repairs_52 : decode cX7_repairs 52 = .ok (.aload_n 0, 1) := by decide +kernel
theorem dX7_repairs_53 : decode cX7_repairs 53 = .ok (.iload_n 1, 1) := by decide +kernel
theorem dX7_repairs_54 : decode cX7_repairs 54 = .ok (.bipush 9, 2) := by decide +kernel
theorem dX7_repairs_56 : decode cX7_repairs 56 = .ok (.iconst (-1), 1) := by decide +kernel
theorem dX7_repairs_57 : decode cX7_repairs 57 = .ok (.invokevirtual 52, 3) := by decide +kernel
theorem dX7_repairs_60 : decode cX7_repairs 60 = .ok (.return_, 1) := by decide +kernel
theorem dX7_grows_0 : decode cX7_grows 0 = .ok (.aload_n 0, 1) := by decide +kernel
theorem dX7_grows_1 : decode cX7_grows 1 = .ok (.iload_n 1, 1) := by decide +kernel
theorem dX7_grows_2 : decode cX7_grows 2 = .ok (.iconst 3, 1) := by decide +kernel
theorem dX7_grows_3 : decode cX7_grows 3 = .ok (.invokevirtual 34, 3) := by decide +kernel
theorem dX7_grows_6 : decode cX7_grows 6 = .ok (.iconst 1, 1) := by decide +kernel
theorem dX7_grows_7 : decode cX7_grows 7 = .ok (.if_icmp .ne 42, 3) := by decide +kernel
theorem dX7_grows_10 : decode cX7_grows 10 = .ok (.aload_n 0, 1) := by decide +kernel
theorem dX7_grows_11 : decode cX7_grows 11 = .ok (.iload_n 1, 1) := by decide +kernel
theorem dX7_grows_12 : decode cX7_grows 12 = .ok (.iconst 2, 1) := by decide +kernel
theorem dX7_grows_13 : decode cX7_grows 13 = .ok (.invokevirtual 34, 3) := by decide +kernel
theorem dX7_grows_16 : decode cX7_grows 16 = .ok (.iconst 1, 1) := by decide +kernel
theorem dX7_grows_17 : decode cX7_grows 17 = .ok (.iadd, 1) := by decide +kernel
theorem dX7_grows_18 : decode cX7_grows 18 = .ok (.aload_n 0, 1) := by decide +kernel
theorem dX7_grows_19 : decode cX7_grows 19 = .ok (.iload_n 1, 1) := by decide +kernel
theorem dX7_grows_20 : decode cX7_grows 20 = .ok (.iconst 1, 1) := by decide +kernel
theorem dX7_grows_21 : decode cX7_grows 21 = .ok (.invokevirtual 34, 3) := by decide +kernel
theorem dX7_grows_24 : decode cX7_grows 24 = .ok (.bipush 10, 2) := by decide +kernel
theorem dX7_grows_26 : decode cX7_grows 26 = .ok (.idiv, 1) := by decide +kernel
theorem dX7_grows_27 : decode cX7_grows 27 = .ok (.iadd, 1) := by decide +kernel
theorem dX7_grows_28 : decode cX7_grows 28 = .ok (.istore_n 2, 1) := by decide +kernel
theorem dX7_grows_29 : decode cX7_grows 29 = .ok (.aload_n 0, 1) := by decide +kernel
theorem dX7_grows_30 : decode cX7_grows 30 = .ok (.iload_n 1, 1) := by decide +kernel
theorem dX7_grows_31 : decode cX7_grows 31 = .ok (.iconst 2, 1) := by decide +kernel
theorem dX7_grows_32 : decode cX7_grows 32 = .ok (.iload_n 2, 1) := by decide +kernel
theorem dX7_grows_33 : decode cX7_grows 33 = .ok (.sipush 200, 3) := by decide +kernel
theorem dX7_grows_36 : decode cX7_grows 36 = .ok (.if_icmp .le 9, 3) := by decide +kernel
theorem dX7_grows_39 : decode cX7_grows 39 = .ok (.sipush 200, 3) := by decide +kernel
theorem dX7_grows_42 : decode cX7_grows 42 = .ok (.goto 4, 3) := by decide +kernel
theorem dX7_grows_45 : decode cX7_grows 45 = .ok (.iload_n 2, 1) := by decide +kernel
theorem dX7_grows_46 : decode cX7_grows 46 = .ok (.invokevirtual 52, 3) := by decide +kernel
theorem dX7_grows_49 : decode cX7_grows 49 = .ok (.aload_n 0, 1) := by decide +kernel
theorem dX7_grows_50 : decode cX7_grows 50 = .ok (.iload_n 1, 1) := by decide +kernel
theorem dX7_grows_51 : decode cX7_grows 51 = .ok (.iconst 3, 1) := by decide +kernel
theorem dX7_grows_52 : decode cX7_grows 52 = .ok (.invokevirtual 34, 3) := by decide +kernel
theorem dX7_grows_55 : decode cX7_grows 55 = .ok (.ifCond .ne 17, 3) := by decide +kernel
theorem dX7_grows_58 : decode cX7_grows 58 = .ok (.aload_n 0, 1) := by decide +kernel
theorem dX7_grows_59 : decode cX7_grows 59 = .ok (.iload_n 1, 1) := by decide +kernel
theorem dX7_grows_60 : decode cX7_grows 60 = .ok (.iconst 4, 1) := by decide +kernel
theorem dX7_grows_61 : decode cX7_grows 61 = .ok (.aload_n 0, 1) := by decide +kernel
theorem dX7_grows_62 : decode cX7_grows 62 = .ok (.iload_n 1, 1) := by decide +kernel
theorem dX7_grows_63 : decode cX7_grows 63 = .ok (.iconst 4, 1) := by decide +kernel
theorem dX7_grows_64 : decode cX7_grows 64 = .ok (.invokevirtual 34, 3) := by decide +kernel
theorem dX7_grows_67 : decode cX7_grows 67 = .ok (.iconst 1, 1) := by decide +kernel
theorem dX7_grows_68 : decode cX7_grows 68 = .ok (.iadd, 1) := by decide +kernel
theorem dX7_grows_69 : decode cX7_grows 69 = .ok (.invokevirtual 52, 3) := by decide +kernel
theorem dX7_grows_72 : decode cX7_grows 72 = .ok (.return_, 1) := by decide +kernel
theorem dX7_week_0 : decode cX7_week 0 = .ok (.iconst 0, 1) := by decide +kernel
theorem dX7_week_1 : decode cX7_week 1 = .ok (.istore_n 1, 1) := by decide +kernel
theorem dX7_week_2 : decode cX7_week 2 = .ok (.iconst 0, 1) := by decide +kernel
theorem dX7_week_3 : decode cX7_week 3 = .ok (.istore_n 2, 1) := by decide +kernel
theorem dX7_week_4 : decode cX7_week 4 = .ok (.iload_n 2, 1) := by decide +kernel
theorem dX7_week_5 : decode cX7_week 5 = .ok (.aload_n 0, 1) := by decide +kernel
theorem dX7_week_6 : decode cX7_week 6 = .ok (.getfield 7, 3) := by decide +kernel
theorem dX7_week_9 : decode cX7_week 9 = .ok (.iconst 0, 1) := by decide +kernel
theorem dX7_week_10 : decode cX7_week 10 = .ok (.iaload, 1) := by decide +kernel
theorem dX7_week_11 : decode cX7_week 11 = .ok (.if_icmp .ge 14, 3) := by decide +kernel
theorem dX7_week_14 : decode cX7_week 14 = .ok (.aload_n 0, 1) := by decide +kernel
theorem dX7_week_15 : decode cX7_week 15 = .ok (.iload_n 2, 1) := by decide +kernel
theorem dX7_week_16 : decode cX7_week 16 = .ok (.invokevirtual 60, 3) := by decide +kernel
theorem dX7_week_19 : decode cX7_week 19 = .ok (.iinc 2 1, 3) := by decide +kernel
theorem dX7_week_22 : decode cX7_week 22 = .ok (.goto (-18), 3) := by decide +kernel
theorem dX7_week_25 : decode cX7_week 25 = .ok (.aload_n 0, 1) := by decide +kernel
theorem dX7_week_26 : decode cX7_week 26 = .ok (.getfield 7, 3) := by decide +kernel
theorem dX7_week_29 : decode cX7_week 29 = .ok (.iconst 2, 1) := by decide +kernel
theorem dX7_week_30 : decode cX7_week 30 = .ok (.dup2, 1) := by decide +kernel
theorem dX7_week_31 : decode cX7_week 31 = .ok (.iaload, 1) := by decide +kernel
theorem dX7_week_32 : decode cX7_week 32 = .ok (.iconst 1, 1) := by decide +kernel
theorem dX7_week_33 : decode cX7_week 33 = .ok (.iadd, 1) := by decide +kernel
theorem dX7_week_34 : decode cX7_week 34 = .ok (.iastore, 1) := by decide +kernel
theorem dX7_week_35 : decode cX7_week 35 = .ok (.iconst 0, 1) := by decide +kernel
theorem dX7_week_36 : decode cX7_week 36 = .ok (.istore_n 2, 1) := by decide +kernel
theorem dX7_week_37 : decode cX7_week 37 = .ok (.iload_n 2, 1) := by decide +kernel
theorem dX7_week_38 : decode cX7_week 38 = .ok (.aload_n 0, 1) := by decide +kernel
theorem dX7_week_39 : decode cX7_week 39 = .ok (.getfield 7, 3) := by decide +kernel
theorem dX7_week_42 : decode cX7_week 42 = .ok (.iconst 1, 1) := by decide +kernel
theorem dX7_week_43 : decode cX7_week 43 = .ok (.iaload, 1) := by decide +kernel
theorem dX7_week_44 : decode cX7_week 44 = .ok (.if_icmp .ge 23, 3) := by decide +kernel
theorem dX7_week_47 : decode cX7_week 47 = .ok (.aload_n 0, 1) := by decide +kernel
theorem dX7_week_48 : decode cX7_week 48 = .ok (.getfield 7, 3) := by decide +kernel
theorem dX7_week_51 : decode cX7_week 51 = .ok (.bipush 111, 2) := by decide +kernel
theorem dX7_week_53 : decode cX7_week 53 = .ok (.iconst 5, 1) := by decide +kernel
theorem dX7_week_54 : decode cX7_week 54 = .ok (.iload_n 2, 1) := by decide +kernel
theorem dX7_week_55 : decode cX7_week 55 = .ok (.imul, 1) := by decide +kernel
theorem dX7_week_56 : decode cX7_week 56 = .ok (.iadd, 1) := by decide +kernel
theorem dX7_week_57 : decode cX7_week 57 = .ok (.iconst 2, 1) := by decide +kernel
theorem dX7_week_58 : decode cX7_week 58 = .ok (.iadd, 1) := by decide +kernel
theorem dX7_week_59 : decode cX7_week 59 = .ok (.iconst 0, 1) := by decide +kernel
theorem dX7_week_60 : decode cX7_week 60 = .ok (.iastore, 1) := by decide +kernel
theorem dX7_week_61 : decode cX7_week 61 = .ok (.iinc 2 1, 3) := by decide +kernel
theorem dX7_week_64 : decode cX7_week 64 = .ok (.goto (-27), 3) := by decide +kernel
theorem dX7_week_67 : decode cX7_week 67 = .ok (.iconst 0, 1) := by decide +kernel
theorem dX7_week_68 : decode cX7_week 68 = .ok (.istore_n 2, 1) := by decide +kernel
theorem dX7_week_69 : decode cX7_week 69 = .ok (.iload_n 2, 1) := by decide +kernel
theorem dX7_week_70 : decode cX7_week 70 = .ok (.aload_n 0, 1) := by decide +kernel
theorem dX7_week_71 : decode cX7_week 71 = .ok (.getfield 7, 3) := by decide +kernel
theorem dX7_week_74 : decode cX7_week 74 = .ok (.iconst 0, 1) := by decide +kernel
theorem dX7_week_75 : decode cX7_week 75 = .ok (.iaload, 1) := by decide +kernel
theorem dX7_week_76 : decode cX7_week 76 = .ok (.if_icmp .ge 114, 3) := by decide +kernel
theorem dX7_week_79 : decode cX7_week 79 = .ok (.aload_n 0, 1) := by decide +kernel
theorem dX7_week_80 : decode cX7_week 80 = .ok (.iload_n 2, 1) := by decide +kernel
theorem dX7_week_81 : decode cX7_week 81 = .ok (.invokevirtual 63, 3) := by decide +kernel
theorem dX7_week_84 : decode cX7_week 84 = .ok (.aload_n 0, 1) := by decide +kernel
theorem dX7_week_85 : decode cX7_week 85 = .ok (.iload_n 2, 1) := by decide +kernel
theorem dX7_week_86 : decode cX7_week 86 = .ok (.invokevirtual 46, 3) := by decide +kernel
theorem dX7_week_89 : decode cX7_week 89 = .ok (.ifCond .eq 27, 3) := by decide +kernel
theorem dX7_week_92 : decode cX7_week 92 = .ok (.aload_n 0, 1) := by decide +kernel
theorem dX7_week_93 : decode cX7_week 93 = .ok (.iload_n 2, 1) := by decide +kernel
theorem dX7_week_94 : decode cX7_week 94 = .ok (.bipush 11, 2) := by decide +kernel
theorem dX7_week_96 : decode cX7_week 96 = .ok (.invokevirtual 34, 3) := by decide +kernel
theorem dX7_week_99 : decode cX7_week 99 = .ok (.aload_n 0, 1) := by decide +kernel
theorem dX7_week_100 : decode cX7_week 100 = .ok (.getfield 7, 3) := by decide +kernel
theorem dX7_week_103 : decode cX7_week 103 = .ok (.iconst 2, 1) := by decide +kernel
theorem dX7_week_104 : decode cX7_week 104 = .ok (.iaload, 1) := by decide +kernel
theorem dX7_week_105 : decode cX7_week 105 = .ok (.if_icmp .ge 11, 3) := by decide +kernel
theorem dX7_week_108 : decode cX7_week 108 = .ok (.aload_n 0, 1) := by decide +kernel
theorem dX7_week_109 : decode cX7_week 109 = .ok (.iload_n 2, 1) := by decide +kernel
theorem dX7_week_110 : decode cX7_week 110 = .ok (.bipush 9, 2) := by decide +kernel
theorem dX7_week_112 : decode cX7_week 112 = .ok (.iconst (-1), 1) := by decide +kernel
theorem dX7_week_113 : decode cX7_week 113 = .ok (.invokevirtual 52, 3) := by decide +kernel
theorem dX7_week_116 : decode cX7_week 116 = .ok (.aload_n 0, 1) := by decide +kernel
theorem dX7_week_117 : decode cX7_week 117 = .ok (.iload_n 2, 1) := by decide +kernel
theorem dX7_week_118 : decode cX7_week 118 = .ok (.bipush 7, 2) := by decide +kernel
theorem dX7_week_120 : decode cX7_week 120 = .ok (.invokevirtual 34, 3) := by decide +kernel
theorem dX7_week_123 : decode cX7_week 123 = .ok (.ifCond .lt 27, 3) := by decide +kernel
theorem dX7_week_126 : decode cX7_week 126 = .ok (.aload_n 0, 1) := by decide +kernel
theorem dX7_week_127 : decode cX7_week 127 = .ok (.iload_n 2, 1) := by decide +kernel
theorem dX7_week_128 : decode cX7_week 128 = .ok (.bipush 8, 2) := by decide +kernel
theorem dX7_week_130 : decode cX7_week 130 = .ok (.invokevirtual 34, 3) := by decide +kernel
theorem dX7_week_133 : decode cX7_week 133 = .ok (.aload_n 0, 1) := by decide +kernel
theorem dX7_week_134 : decode cX7_week 134 = .ok (.getfield 7, 3) := by decide +kernel
theorem dX7_week_137 : decode cX7_week 137 = .ok (.iconst 2, 1) := by decide +kernel
theorem dX7_week_138 : decode cX7_week 138 = .ok (.iaload, 1) := by decide +kernel
theorem dX7_week_139 : decode cX7_week 139 = .ok (.if_icmp .ge 11, 3) := by decide +kernel
theorem dX7_week_142 : decode cX7_week 142 = .ok (.aload_n 0, 1) := by decide +kernel
theorem dX7_week_143 : decode cX7_week 143 = .ok (.iload_n 2, 1) := by decide +kernel
theorem dX7_week_144 : decode cX7_week 144 = .ok (.bipush 7, 2) := by decide +kernel
theorem dX7_week_146 : decode cX7_week 146 = .ok (.iconst (-1), 1) := by decide +kernel
theorem dX7_week_147 : decode cX7_week 147 = .ok (.invokevirtual 52, 3) := by decide +kernel
theorem dX7_week_150 : decode cX7_week 150 = .ok (.aload_n 0, 1) := by decide +kernel
theorem dX7_week_151 : decode cX7_week 151 = .ok (.iload_n 2, 1) := by decide +kernel
theorem dX7_week_152 : decode cX7_week 152 = .ok (.iconst 3, 1) := by decide +kernel
theorem dX7_week_153 : decode cX7_week 153 = .ok (.invokevirtual 34, 3) := by decide +kernel
theorem dX7_week_156 : decode cX7_week 156 = .ok (.iconst 1, 1) := by decide +kernel
theorem dX7_week_157 : decode cX7_week 157 = .ok (.if_icmp .ne 27, 3) := by decide +kernel
theorem dX7_week_160 : decode cX7_week 160 = .ok (.aload_n 0, 1) := by decide +kernel
theorem dX7_week_161 : decode cX7_week 161 = .ok (.iload_n 2, 1) := by decide +kernel
theorem dX7_week_162 : decode cX7_week 162 = .ok (.invokevirtual 46, 3) := by decide +kernel
theorem dX7_week_165 : decode cX7_week 165 = .ok (.ifCond .eq 11, 3) := by decide +kernel
theorem dX7_week_168 : decode cX7_week 168 = .ok (.aload_n 0, 1) := by decide +kernel
theorem dX7_week_169 : decode cX7_week 169 = .ok (.iload_n 2, 1) := by decide +kernel
theorem dX7_week_170 : decode cX7_week 170 = .ok (.invokevirtual 42, 3) := by decide +kernel
theorem dX7_week_173 : decode cX7_week 173 = .ok (.ifCond .eq 11, 3) := by decide +kernel
theorem dX7_week_176 : decode cX7_week 176 = .ok (.aload_n 0, 1) := by decide +kernel
theorem dX7_week_177 : decode cX7_week 177 = .ok (.iload_n 2, 1) := by decide +kernel
theorem dX7_week_178 : decode cX7_week 178 = .ok (.invokevirtual 56, 3) := by decide +kernel
theorem dX7_week_181 : decode cX7_week 181 = .ok (.iinc 1 1, 3) := by decide +kernel
theorem dX7_week_184 : decode cX7_week 184 = .ok (.iinc 2 1, 3) := by decide +kernel
theorem dX7_week_187 : decode cX7_week 187 = .ok (.goto (-118), 3) := by decide +kernel
theorem dX7_week_190 : decode cX7_week 190 = .ok (.aload_n 0, 1) := by decide +kernel
theorem dX7_week_191 : decode cX7_week 191 = .ok (.getfield 7, 3) := by decide +kernel
theorem dX7_week_194 : decode cX7_week 194 = .ok (.iconst 3, 1) := by decide +kernel
theorem dX7_week_195 : decode cX7_week 195 = .ok (.dup2, 1) := by decide +kernel
theorem dX7_week_196 : decode cX7_week 196 = .ok (.iaload, 1) := by decide +kernel
theorem dX7_week_197 : decode cX7_week 197 = .ok (.iload_n 1, 1) := by decide +kernel
theorem dX7_week_198 : decode cX7_week 198 = .ok (.iadd, 1) := by decide +kernel
theorem dX7_week_199 : decode cX7_week 199 = .ok (.iastore, 1) := by decide +kernel
theorem dX7_week_200 : decode cX7_week 200 = .ok (.iload_n 1, 1) := by decide +kernel
theorem dX7_week_201 : decode cX7_week 201 = .ok (.ireturn, 1) := by decide +kernel
theorem dX7_comes_0 : decode cX7_comes 0 = .ok (.iload_n 1, 1) := by decide +kernel
theorem dX7_comes_1 : decode cX7_comes 1 = .ok (.iconst 2, 1) := by decide +kernel
theorem dX7_comes_2 : decode cX7_comes 2 = .ok (.bipush 40, 2) := by decide +kernel
theorem dX7_comes_4 : decode cX7_comes 4 = .ok (.invokestatic 30, 3) := by decide +kernel
theorem dX7_comes_7 : decode cX7_comes 7 = .ok (.ifCond .ne 6, 3) := by decide +kernel
theorem dX7_comes_10 : decode cX7_comes 10 = .ok (.ldc 22, 2) := by decide +kernel
theorem dX7_comes_12 : decode cX7_comes 12 = .ok (.ireturn, 1) := by decide +kernel
theorem dX7_comes_13 : decode cX7_comes 13 = .ok (.aload_n 0, 1) := by decide +kernel
theorem dX7_comes_14 : decode cX7_comes 14 = .ok (.getfield 7, 3) := by decide +kernel
theorem dX7_comes_17 : decode cX7_comes 17 = .ok (.iconst 0, 1) := by decide +kernel
theorem dX7_comes_18 : decode cX7_comes 18 = .ok (.iaload, 1) := by decide +kernel
theorem dX7_comes_19 : decode cX7_comes 19 = .ok (.bipush 8, 2) := by decide +kernel
theorem dX7_comes_21 : decode cX7_comes 21 = .ok (.if_icmp .ne 6, 3) := by decide +kernel
theorem dX7_comes_24 : decode cX7_comes 24 = .ok (.ldc 66, 2) := by decide +kernel
theorem dX7_comes_26 : decode cX7_comes 26 = .ok (.ireturn, 1) := by decide +kernel
theorem dX7_comes_27 : decode cX7_comes 27 = .ok (.aload_n 0, 1) := by decide +kernel
theorem dX7_comes_28 : decode cX7_comes 28 = .ok (.getfield 7, 3) := by decide +kernel
theorem dX7_comes_31 : decode cX7_comes 31 = .ok (.iconst 0, 1) := by decide +kernel
theorem dX7_comes_32 : decode cX7_comes 32 = .ok (.iaload, 1) := by decide +kernel
theorem dX7_comes_33 : decode cX7_comes 33 = .ok (.istore_n 2, 1) := by decide +kernel
theorem dX7_comes_34 : decode cX7_comes 34 = .ok (.aload_n 0, 1) := by decide +kernel
theorem dX7_comes_35 : decode cX7_comes 35 = .ok (.getfield 7, 3) := by decide +kernel
theorem dX7_comes_38 : decode cX7_comes 38 = .ok (.iconst 0, 1) := by decide +kernel
theorem dX7_comes_39 : decode cX7_comes 39 = .ok (.dup2, 1) := by decide +kernel
theorem dX7_comes_40 : decode cX7_comes 40 = .ok (.iaload, 1) := by decide +kernel
theorem dX7_comes_41 : decode cX7_comes 41 = .ok (.iconst 1, 1) := by decide +kernel
theorem dX7_comes_42 : decode cX7_comes 42 = .ok (.iadd, 1) := by decide +kernel
theorem dX7_comes_43 : decode cX7_comes 43 = .ok (.iastore, 1) := by decide +kernel
theorem dX7_comes_44 : decode cX7_comes 44 = .ok (.iconst 0, 1) := by decide +kernel
theorem dX7_comes_45 : decode cX7_comes 45 = .ok (.istore_n 3, 1) := by decide +kernel
theorem dX7_comes_46 : decode cX7_comes 46 = .ok (.iload_n 3, 1) := by decide +kernel
theorem dX7_comes_47 : decode cX7_comes 47 = .ok (.bipush 12, 2) := by decide +kernel
theorem dX7_comes_49 : decode cX7_comes 49 = .ok (.if_icmp .ge 16, 3) := by decide +kernel
theorem dX7_comes_52 : decode cX7_comes 52 = .ok (.aload_n 0, 1) := by decide +kernel
theorem dX7_comes_53 : decode cX7_comes 53 = .ok (.iload_n 2, 1) := by decide +kernel
theorem dX7_comes_54 : decode cX7_comes 54 = .ok (.iload_n 3, 1) := by decide +kernel
theorem dX7_comes_55 : decode cX7_comes 55 = .ok (.iconst 0, 1) := by decide +kernel
theorem dX7_comes_56 : decode cX7_comes 56 = .ok (.invokevirtual 52, 3) := by decide +kernel
theorem dX7_comes_59 : decode cX7_comes 59 = .ok (.iinc 3 1, 3) := by decide +kernel
theorem dX7_comes_62 : decode cX7_comes 62 = .ok (.goto (-16), 3) := by decide +kernel
theorem dX7_comes_65 : decode cX7_comes 65 = .ok (.aload_n 0, 1) := by decide +kernel
theorem dX7_comes_66 : decode cX7_comes 66 = .ok (.iload_n 2, 1) := by decide +kernel
theorem dX7_comes_67 : decode cX7_comes 67 = .ok (.iconst 0, 1) := by decide +kernel
theorem dX7_comes_68 : decode cX7_comes 68 = .ok (.iload_n 1, 1) := by decide +kernel
theorem dX7_comes_69 : decode cX7_comes 69 = .ok (.invokevirtual 52, 3) := by decide +kernel
theorem dX7_comes_72 : decode cX7_comes 72 = .ok (.aload_n 0, 1) := by decide +kernel
theorem dX7_comes_73 : decode cX7_comes 73 = .ok (.iload_n 2, 1) := by decide +kernel
theorem dX7_comes_74 : decode cX7_comes 74 = .ok (.iconst 1, 1) := by decide +kernel
theorem dX7_comes_75 : decode cX7_comes 75 = .ok (.iload_n 1, 1) := by decide +kernel
theorem dX7_comes_76 : decode cX7_comes 76 = .ok (.invokevirtual 52, 3) := by decide +kernel
theorem dX7_comes_79 : decode cX7_comes 79 = .ok (.aload_n 0, 1) := by decide +kernel
theorem dX7_comes_80 : decode cX7_comes 80 = .ok (.iload_n 2, 1) := by decide +kernel
theorem dX7_comes_81 : decode cX7_comes 81 = .ok (.iconst 4, 1) := by decide +kernel
theorem dX7_comes_82 : decode cX7_comes 82 = .ok (.iconst 1, 1) := by decide +kernel
theorem dX7_comes_83 : decode cX7_comes 83 = .ok (.invokevirtual 52, 3) := by decide +kernel
theorem dX7_comes_86 : decode cX7_comes 86 = .ok (.aload_n 0, 1) := by decide +kernel
theorem dX7_comes_87 : decode cX7_comes 87 = .ok (.iload_n 2, 1) := by decide +kernel
theorem dX7_comes_88 : decode cX7_comes 88 = .ok (.bipush 7, 2) := by decide +kernel
theorem dX7_comes_90 : decode cX7_comes 90 = .ok (.iconst (-1), 1) := by decide +kernel
theorem dX7_comes_91 : decode cX7_comes 91 = .ok (.invokevirtual 52, 3) := by decide +kernel
theorem dX7_comes_94 : decode cX7_comes 94 = .ok (.aload_n 0, 1) := by decide +kernel
theorem dX7_comes_95 : decode cX7_comes 95 = .ok (.iload_n 2, 1) := by decide +kernel
theorem dX7_comes_96 : decode cX7_comes 96 = .ok (.bipush 9, 2) := by decide +kernel
theorem dX7_comes_98 : decode cX7_comes 98 = .ok (.iconst (-1), 1) := by decide +kernel
theorem dX7_comes_99 : decode cX7_comes 99 = .ok (.invokevirtual 52, 3) := by decide +kernel
theorem dX7_comes_102 : decode cX7_comes 102 = .ok (.iload_n 2, 1) := by decide +kernel
theorem dX7_comes_103 : decode cX7_comes 103 = .ok (.ireturn, 1) := by decide +kernel
theorem dX7_inspects_0 : decode cX7_inspects 0 = .ok (.aload_n 0, 1) := by decide +kernel
theorem dX7_inspects_1 : decode cX7_inspects 1 = .ok (.iload_n 1, 1) := by decide +kernel
theorem dX7_inspects_2 : decode cX7_inspects 2 = .ok (.invokevirtual 67, 3) := by decide +kernel
theorem dX7_inspects_5 : decode cX7_inspects 5 = .ok (.ifCond .eq 11, 3) := by decide +kernel
theorem dX7_inspects_8 : decode cX7_inspects 8 = .ok (.aload_n 0, 1) := by decide +kernel
theorem dX7_inspects_9 : decode cX7_inspects 9 = .ok (.iload_n 2, 1) := by decide +kernel
theorem dX7_inspects_10 : decode cX7_inspects 10 = .ok (.invokevirtual 70, 3) := by decide +kernel
theorem dX7_inspects_13 : decode cX7_inspects 13 = .ok (.ifCond .ne 6, 3) := by decide +kernel
theorem dX7_inspects_16 : decode cX7_inspects 16 = .ok (.ldc 22, 2) := by decide +kernel
theorem dX7_inspects_18 : decode cX7_inspects 18 = .ok (.ireturn, 1) := by decide +kernel
theorem dX7_inspects_19 : decode cX7_inspects 19 = .ok (.aload_n 0, 1) := by decide +kernel
theorem dX7_inspects_20 : decode cX7_inspects 20 = .ok (.iload_n 1, 1) := by decide +kernel
theorem dX7_inspects_21 : decode cX7_inspects 21 = .ok (.iload_n 2, 1) := by decide +kernel
theorem dX7_inspects_22 : decode cX7_inspects 22 = .ok (.invokevirtual 73, 3) := by decide +kernel
theorem dX7_inspects_25 : decode cX7_inspects 25 = .ok (.ifCond .le 6, 3) := by decide +kernel
theorem dX7_inspects_28 : decode cX7_inspects 28 = .ok (.ldc 76, 2) := by decide +kernel
theorem dX7_inspects_30 : decode cX7_inspects 30 = .ok (.ireturn, 1) := by decide +kernel
theorem dX7_inspects_31 : decode cX7_inspects 31 = .ok (.aload_n 0, 1) := by decide +kernel
theorem dX7_inspects_32 : decode cX7_inspects 32 = .ok (.iload_n 2, 1) := by decide +kernel
theorem dX7_inspects_33 : decode cX7_inspects 33 = .ok (.iconst 0, 1) := by decide +kernel
theorem dX7_inspects_34 : decode cX7_inspects 34 = .ok (.invokevirtual 49, 3) := by decide +kernel
theorem dX7_inspects_37 : decode cX7_inspects 37 = .ok (.istore_n 3, 1) := by decide +kernel
theorem dX7_inspects_38 : decode cX7_inspects 38 = .ok (.aload_n 0, 1) := by decide +kernel
theorem dX7_inspects_39 : decode cX7_inspects 39 = .ok (.iload_n 1, 1) := by decide +kernel
theorem dX7_inspects_40 : decode cX7_inspects 40 = .ok (.iload_n 3, 1) := by decide +kernel
theorem dX7_inspects_41 : decode cX7_inspects 41 = .ok (.invokevirtual 77, 3) := by decide +kernel
theorem dX7_inspects_44 : decode cX7_inspects 44 = .ok (.istore 4, 2) := by decide +kernel
theorem dX7_inspects_46 : decode cX7_inspects 46 = .ok (.aload_n 0, 1) := by decide +kernel
theorem dX7_inspects_47 : decode cX7_inspects 47 = .ok (.iload_n 3, 1) := by decide +kernel
theorem dX7_inspects_48 : decode cX7_inspects 48 = .ok (.aload_n 0, 1) := by decide +kernel
theorem dX7_inspects_49 : decode cX7_inspects 49 = .ok (.getfield 7, 3) := by decide +kernel
theorem dX7_inspects_52 : decode cX7_inspects 52 = .ok (.bipush 9, 2) := by decide +kernel
theorem dX7_inspects_54 : decode cX7_inspects 54 = .ok (.iaload, 1) := by decide +kernel
theorem dX7_inspects_55 : decode cX7_inspects 55 = .ok (.invokevirtual 80, 3) := by decide +kernel
theorem dX7_inspects_58 : decode cX7_inspects 58 = .ok (.aload_n 0, 1) := by decide +kernel
theorem dX7_inspects_59 : decode cX7_inspects 59 = .ok (.iload_n 2, 1) := by decide +kernel
theorem dX7_inspects_60 : decode cX7_inspects 60 = .ok (.iconst 2, 1) := by decide +kernel
theorem dX7_inspects_61 : decode cX7_inspects 61 = .ok (.invokevirtual 84, 3) := by decide +kernel
theorem dX7_inspects_64 : decode cX7_inspects 64 = .ok (.aload_n 0, 1) := by decide +kernel
theorem dX7_inspects_65 : decode cX7_inspects 65 = .ok (.iload_n 2, 1) := by decide +kernel
theorem dX7_inspects_66 : decode cX7_inspects 66 = .ok (.iconst 3, 1) := by decide +kernel
theorem dX7_inspects_67 : decode cX7_inspects 67 = .ok (.invokevirtual 84, 3) := by decide +kernel
theorem dX7_inspects_70 : decode cX7_inspects 70 = .ok (.aload_n 0, 1) := by decide +kernel
theorem dX7_inspects_71 : decode cX7_inspects 71 = .ok (.getfield 7, 3) := by decide +kernel
theorem dX7_inspects_74 : decode cX7_inspects 74 = .ok (.iconst 5, 1) := by decide +kernel
theorem dX7_inspects_75 : decode cX7_inspects 75 = .ok (.dup2, 1) := by decide +kernel
theorem dX7_inspects_76 : decode cX7_inspects 76 = .ok (.iaload, 1) := by decide +kernel
theorem dX7_inspects_77 : decode cX7_inspects 77 = .ok (.iconst 1, 1) := by decide +kernel
theorem dX7_inspects_78 : decode cX7_inspects 78 = .ok (.iadd, 1) := by decide +kernel
theorem dX7_inspects_79 : decode cX7_inspects 79 = .ok (.iastore, 1) := by decide +kernel
theorem dX7_inspects_80 : decode cX7_inspects 80 = .ok (.aload_n 0, 1) := by decide +kernel
theorem dX7_inspects_81 : decode cX7_inspects 81 = .ok (.iload_n 1, 1) := by decide +kernel
theorem dX7_inspects_82 : decode cX7_inspects 82 = .ok (.bipush 9, 2) := by decide +kernel
theorem dX7_inspects_84 : decode cX7_inspects 84 = .ok (.iload 4, 2) := by decide +kernel
theorem dX7_inspects_86 : decode cX7_inspects 86 = .ok (.ifCond .ne 7, 3) := by decide +kernel
theorem dX7_inspects_89 : decode cX7_inspects 89 = .ok (.iconst (-1), 1) := by decide +kernel
theorem dX7_inspects_90 : decode cX7_inspects 90 = .ok (.goto 4, 3) := by decide +kernel
theorem dX7_inspects_93 : decode cX7_inspects 93 = .ok (.iload_n 3, 1) := by decide +kernel
theorem dX7_inspects_94 : decode cX7_inspects 94 = .ok (.invokevirtual 52, 3) := by decide +kernel
theorem dX7_inspects_97 : decode cX7_inspects 97 = .ok (.aload_n 0, 1) := by decide +kernel
theorem dX7_inspects_98 : decode cX7_inspects 98 = .ok (.iload_n 1, 1) := by decide +kernel
theorem dX7_inspects_99 : decode cX7_inspects 99 = .ok (.bipush 10, 2) := by decide +kernel
theorem dX7_inspects_101 : decode cX7_inspects 101 = .ok (.iload 4, 2) := by decide +kernel
theorem dX7_inspects_103 : decode cX7_inspects 103 = .ok (.invokevirtual 52, 3) := by decide +kernel
theorem dX7_inspects_106 : decode cX7_inspects 106 = .ok (.aload_n 0, 1) := by decide +kernel
theorem dX7_inspects_107 : decode cX7_inspects 107 = .ok (.iload_n 1, 1) := by decide +kernel
theorem dX7_inspects_108 : decode cX7_inspects 108 = .ok (.bipush 11, 2) := by decide +kernel
theorem dX7_inspects_110 : decode cX7_inspects 110 = .ok (.aload_n 0, 1) := by decide +kernel
theorem dX7_inspects_111 : decode cX7_inspects 111 = .ok (.iload_n 1, 1) := by decide +kernel
theorem dX7_inspects_112 : decode cX7_inspects 112 = .ok (.iload_n 3, 1) := by decide +kernel
theorem dX7_inspects_113 : decode cX7_inspects 113 = .ok (.invokevirtual 87, 3) := by decide +kernel
theorem dX7_inspects_116 : decode cX7_inspects 116 = .ok (.invokevirtual 52, 3) := by decide +kernel
theorem dX7_inspects_119 : decode cX7_inspects 119 = .ok (.iload 4, 2) := by decide +kernel
theorem dX7_inspects_121 : decode cX7_inspects 121 = .ok (.ifCond .ne 14, 3) := by decide +kernel
theorem dX7_inspects_124 : decode cX7_inspects 124 = .ok (.aload_n 0, 1) := by decide +kernel
theorem dX7_inspects_125 : decode cX7_inspects 125 = .ok (.iload_n 1, 1) := by decide +kernel
theorem dX7_inspects_126 : decode cX7_inspects 126 = .ok (.bipush 6, 2) := by decide +kernel
theorem dX7_inspects_128 : decode cX7_inspects 128 = .ok (.iconst 1, 1) := by decide +kernel
theorem dX7_inspects_129 : decode cX7_inspects 129 = .ok (.invokevirtual 52, 3) := by decide +kernel
theorem dX7_inspects_132 : decode cX7_inspects 132 = .ok (.goto 20, 3) := by decide +kernel
theorem dX7_inspects_135 : decode cX7_inspects 135 = .ok (.aload_n 0, 1) := by decide +kernel
theorem dX7_inspects_136 : decode cX7_inspects 136 = .ok (.iload_n 2, 1) := by decide +kernel
theorem dX7_inspects_137 : decode cX7_inspects 137 = .ok (.iconst 4, 1) := by decide +kernel
theorem dX7_inspects_138 : decode cX7_inspects 138 = .ok (.invokevirtual 84, 3) := by decide +kernel
theorem dX7_inspects_141 : decode cX7_inspects 141 = .ok (.aload_n 0, 1) := by decide +kernel
theorem dX7_inspects_142 : decode cX7_inspects 142 = .ok (.getfield 7, 3) := by decide +kernel
theorem dX7_inspects_145 : decode cX7_inspects 145 = .ok (.bipush 6, 2) := by decide +kernel
theorem dX7_inspects_147 : decode cX7_inspects 147 = .ok (.dup2, 1) := by decide +kernel
theorem dX7_inspects_148 : decode cX7_inspects 148 = .ok (.iaload, 1) := by decide +kernel
theorem dX7_inspects_149 : decode cX7_inspects 149 = .ok (.iconst 1, 1) := by decide +kernel
theorem dX7_inspects_150 : decode cX7_inspects 150 = .ok (.iadd, 1) := by decide +kernel
theorem dX7_inspects_151 : decode cX7_inspects 151 = .ok (.iastore, 1) := by decide +kernel
theorem dX7_inspects_152 : decode cX7_inspects 152 = .ok (.iload 4, 2) := by decide +kernel
theorem dX7_inspects_154 : decode cX7_inspects 154 = .ok (.ireturn, 1) := by decide +kernel
theorem dX7_fires_0 : decode cX7_fires 0 = .ok (.aload_n 0, 1) := by decide +kernel
theorem dX7_fires_1 : decode cX7_fires 1 = .ok (.iload_n 1, 1) := by decide +kernel
theorem dX7_fires_2 : decode cX7_fires 2 = .ok (.invokevirtual 67, 3) := by decide +kernel
theorem dX7_fires_5 : decode cX7_fires 5 = .ok (.ifCond .ne 6, 3) := by decide +kernel
theorem dX7_fires_8 : decode cX7_fires 8 = .ok (.ldc 22, 2) := by decide +kernel
theorem dX7_fires_10 : decode cX7_fires 10 = .ok (.ireturn, 1) := by decide +kernel
theorem dX7_fires_11 : decode cX7_fires 11 = .ok (.aload_n 0, 1) := by decide +kernel
theorem dX7_fires_12 : decode cX7_fires 12 = .ok (.iload_n 1, 1) := by decide +kernel
theorem dX7_fires_13 : decode cX7_fires 13 = .ok (.invokevirtual 90, 3) := by decide +kernel
theorem dX7_fires_16 : decode cX7_fires 16 = .ok (.ifCond .le 6, 3) := by decide +kernel
theorem dX7_fires_19 : decode cX7_fires 19 = .ok (.ldc 76, 2) := by decide +kernel
theorem dX7_fires_21 : decode cX7_fires 21 = .ok (.ireturn, 1) := by decide +kernel
theorem dX7_fires_22 : decode cX7_fires 22 = .ok (.aload_n 0, 1) := by decide +kernel
theorem dX7_fires_23 : decode cX7_fires 23 = .ok (.iload_n 1, 1) := by decide +kernel
theorem dX7_fires_24 : decode cX7_fires 24 = .ok (.iconst 3, 1) := by decide +kernel
theorem dX7_fires_25 : decode cX7_fires 25 = .ok (.iconst 1, 1) := by decide +kernel
theorem dX7_fires_26 : decode cX7_fires 26 = .ok (.invokevirtual 52, 3) := by decide +kernel
theorem dX7_fires_29 : decode cX7_fires 29 = .ok (.aload_n 0, 1) := by decide +kernel
theorem dX7_fires_30 : decode cX7_fires 30 = .ok (.iload_n 1, 1) := by decide +kernel
theorem dX7_fires_31 : decode cX7_fires 31 = .ok (.bipush 11, 2) := by decide +kernel
theorem dX7_fires_33 : decode cX7_fires 33 = .ok (.invokevirtual 34, 3) := by decide +kernel
theorem dX7_fires_36 : decode cX7_fires 36 = .ok (.aload_n 0, 1) := by decide +kernel
theorem dX7_fires_37 : decode cX7_fires 37 = .ok (.getfield 7, 3) := by decide +kernel
theorem dX7_fires_40 : decode cX7_fires 40 = .ok (.iconst 2, 1) := by decide +kernel
theorem dX7_fires_41 : decode cX7_fires 41 = .ok (.iaload, 1) := by decide +kernel
theorem dX7_fires_42 : decode cX7_fires 42 = .ok (.isub, 1) := by decide +kernel
theorem dX7_fires_43 : decode cX7_fires 43 = .ok (.iconst 1, 1) := by decide +kernel
theorem dX7_fires_44 : decode cX7_fires 44 = .ok (.iadd, 1) := by decide +kernel
theorem dX7_fires_45 : decode cX7_fires 45 = .ok (.ireturn, 1) := by decide +kernel
theorem dX7_puts_0 : decode cX7_puts 0 = .ok (.aload_n 0, 1) := by decide +kernel
theorem dX7_puts_1 : decode cX7_puts 1 = .ok (.iload_n 1, 1) := by decide +kernel
theorem dX7_puts_2 : decode cX7_puts 2 = .ok (.invokevirtual 67, 3) := by decide +kernel
theorem dX7_puts_5 : decode cX7_puts 5 = .ok (.ifCond .ne 6, 3) := by decide +kernel
theorem dX7_puts_8 : decode cX7_puts 8 = .ok (.ldc 22, 2) := by decide +kernel
theorem dX7_puts_10 : decode cX7_puts 10 = .ok (.ireturn, 1) := by decide +kernel
theorem dX7_puts_11 : decode cX7_puts 11 = .ok (.aload_n 0, 1) := by decide +kernel
theorem dX7_puts_12 : decode cX7_puts 12 = .ok (.iload_n 1, 1) := by decide +kernel
theorem dX7_puts_13 : decode cX7_puts 13 = .ok (.iconst 3, 1) := by decide +kernel
theorem dX7_puts_14 : decode cX7_puts 14 = .ok (.invokevirtual 34, 3) := by decide +kernel
theorem dX7_puts_17 : decode cX7_puts 17 = .ok (.iconst 1, 1) := by decide +kernel
theorem dX7_puts_18 : decode cX7_puts 18 = .ok (.if_icmp .eq 6, 3) := by decide +kernel
theorem dX7_puts_21 : decode cX7_puts 21 = .ok (.ldc 76, 2) := by decide +kernel
theorem dX7_puts_23 : decode cX7_puts 23 = .ok (.ireturn, 1) := by decide +kernel
theorem dX7_puts_24 : decode cX7_puts 24 = .ok (.aload_n 0, 1) := by decide +kernel
theorem dX7_puts_25 : decode cX7_puts 25 = .ok (.iload_n 1, 1) := by decide +kernel
theorem dX7_puts_26 : decode cX7_puts 26 = .ok (.invokevirtual 56, 3) := by decide +kernel
theorem dX7_puts_29 : decode cX7_puts 29 = .ok (.aload_n 0, 1) := by decide +kernel
theorem dX7_puts_30 : decode cX7_puts 30 = .ok (.iload_n 1, 1) := by decide +kernel
theorem dX7_puts_31 : decode cX7_puts 31 = .ok (.iconst 2, 1) := by decide +kernel
theorem dX7_puts_32 : decode cX7_puts 32 = .ok (.invokevirtual 34, 3) := by decide +kernel
theorem dX7_puts_35 : decode cX7_puts 35 = .ok (.ireturn, 1) := by decide +kernel
theorem dX7_sends_0 : decode cX7_sends 0 = .ok (.aload_n 0, 1) := by decide +kernel
theorem dX7_sends_1 : decode cX7_sends 1 = .ok (.iload_n 1, 1) := by decide +kernel
theorem dX7_sends_2 : decode cX7_sends 2 = .ok (.invokevirtual 67, 3) := by decide +kernel
theorem dX7_sends_5 : decode cX7_sends 5 = .ok (.ifCond .ne 6, 3) := by decide +kernel
theorem dX7_sends_8 : decode cX7_sends 8 = .ok (.ldc 22, 2) := by decide +kernel
theorem dX7_sends_10 : decode cX7_sends 10 = .ok (.ireturn, 1) := by decide +kernel
theorem dX7_sends_11 : decode cX7_sends 11 = .ok (.aload_n 0, 1) := by decide +kernel
theorem dX7_sends_12 : decode cX7_sends 12 = .ok (.iload_n 1, 1) := by decide +kernel
theorem dX7_sends_13 : decode cX7_sends 13 = .ok (.iconst 3, 1) := by decide +kernel
theorem dX7_sends_14 : decode cX7_sends 14 = .ok (.invokevirtual 34, 3) := by decide +kernel
theorem dX7_sends_17 : decode cX7_sends 17 = .ok (.ifCond .eq 6, 3) := by decide +kernel
theorem dX7_sends_20 : decode cX7_sends 20 = .ok (.ldc 76, 2) := by decide +kernel
theorem dX7_sends_22 : decode cX7_sends 22 = .ok (.ireturn, 1) := by decide +kernel
theorem dX7_sends_23 : decode cX7_sends 23 = .ok (.aload_n 0, 1) := by decide +kernel
theorem dX7_sends_24 : decode cX7_sends 24 = .ok (.iload_n 1, 1) := by decide +kernel
theorem dX7_sends_25 : decode cX7_sends 25 = .ok (.iconst 2, 1) := by decide +kernel
theorem dX7_sends_26 : decode cX7_sends 26 = .ok (.invokevirtual 34, 3) := by decide +kernel
theorem dX7_sends_29 : decode cX7_sends 29 = .ok (.bipush 10, 2) := by decide +kernel
theorem dX7_sends_31 : decode cX7_sends 31 = .ok (.idiv, 1) := by decide +kernel
theorem dX7_sends_32 : decode cX7_sends 32 = .ok (.iconst 1, 1) := by decide +kernel
theorem dX7_sends_33 : decode cX7_sends 33 = .ok (.iadd, 1) := by decide +kernel
theorem dX7_sends_34 : decode cX7_sends 34 = .ok (.istore_n 2, 1) := by decide +kernel
theorem dX7_sends_35 : decode cX7_sends 35 = .ok (.aload_n 0, 1) := by decide +kernel
theorem dX7_sends_36 : decode cX7_sends 36 = .ok (.iconst 2, 1) := by decide +kernel
theorem dX7_sends_37 : decode cX7_sends 37 = .ok (.aload_n 0, 1) := by decide +kernel
theorem dX7_sends_38 : decode cX7_sends 38 = .ok (.getfield 7, 3) := by decide +kernel
theorem dX7_sends_41 : decode cX7_sends 41 = .ok (.bipush 10, 2) := by decide +kernel
theorem dX7_sends_43 : decode cX7_sends 43 = .ok (.iaload, 1) := by decide +kernel
theorem dX7_sends_44 : decode cX7_sends 44 = .ok (.iload_n 2, 1) := by decide +kernel
theorem dX7_sends_45 : decode cX7_sends 45 = .ok (.imul, 1) := by decide +kernel
theorem dX7_sends_46 : decode cX7_sends 46 = .ok (.invokevirtual 80, 3) := by decide +kernel
theorem dX7_sends_49 : decode cX7_sends 49 = .ok (.aload_n 0, 1) := by decide +kernel
theorem dX7_sends_50 : decode cX7_sends 50 = .ok (.getfield 7, 3) := by decide +kernel
theorem dX7_sends_53 : decode cX7_sends 53 = .ok (.iconst 4, 1) := by decide +kernel
theorem dX7_sends_54 : decode cX7_sends 54 = .ok (.dup2, 1) := by decide +kernel
theorem dX7_sends_55 : decode cX7_sends 55 = .ok (.iaload, 1) := by decide +kernel
theorem dX7_sends_56 : decode cX7_sends 56 = .ok (.iload_n 2, 1) := by decide +kernel
theorem dX7_sends_57 : decode cX7_sends 57 = .ok (.iadd, 1) := by decide +kernel
theorem dX7_sends_58 : decode cX7_sends 58 = .ok (.iastore, 1) := by decide +kernel
theorem dX7_sends_59 : decode cX7_sends 59 = .ok (.aload_n 0, 1) := by decide +kernel
theorem dX7_sends_60 : decode cX7_sends 60 = .ok (.iload_n 1, 1) := by decide +kernel
theorem dX7_sends_61 : decode cX7_sends 61 = .ok (.iconst 3, 1) := by decide +kernel
theorem dX7_sends_62 : decode cX7_sends 62 = .ok (.iconst 2, 1) := by decide +kernel
theorem dX7_sends_63 : decode cX7_sends 63 = .ok (.invokevirtual 52, 3) := by decide +kernel
theorem dX7_sends_66 : decode cX7_sends 66 = .ok (.aload_n 0, 1) := by decide +kernel
theorem dX7_sends_67 : decode cX7_sends 67 = .ok (.iload_n 1, 1) := by decide +kernel
theorem dX7_sends_68 : decode cX7_sends 68 = .ok (.iconst 5, 1) := by decide +kernel
theorem dX7_sends_69 : decode cX7_sends 69 = .ok (.aload_n 0, 1) := by decide +kernel
theorem dX7_sends_70 : decode cX7_sends 70 = .ok (.getfield 7, 3) := by decide +kernel
theorem dX7_sends_73 : decode cX7_sends 73 = .ok (.iconst 2, 1) := by decide +kernel
theorem dX7_sends_74 : decode cX7_sends 74 = .ok (.iaload, 1) := by decide +kernel
theorem dX7_sends_75 : decode cX7_sends 75 = .ok (.iload_n 2, 1) := by decide +kernel
theorem dX7_sends_76 : decode cX7_sends 76 = .ok (.iadd, 1) := by decide +kernel
theorem dX7_sends_77 : decode cX7_sends 77 = .ok (.invokevirtual 52, 3) := by decide +kernel
theorem dX7_sends_80 : decode cX7_sends 80 = .ok (.iload_n 2, 1) := by decide +kernel
theorem dX7_sends_81 : decode cX7_sends 81 = .ok (.ireturn, 1) := by decide +kernel
theorem dX7_passes_0 : decode cX7_passes 0 = .ok (.iload_n 1, 1) := by decide +kernel
theorem dX7_passes_1 : decode cX7_passes 1 = .ok (.iconst 1, 1) := by decide +kernel
theorem dX7_passes_2 : decode cX7_passes 2 = .ok (.bipush 60, 2) := by decide +kernel
theorem dX7_passes_4 : decode cX7_passes 4 = .ok (.invokestatic 30, 3) := by decide +kernel
theorem dX7_passes_7 : decode cX7_passes 7 = .ok (.ifCond .ne 6, 3) := by decide +kernel
theorem dX7_passes_10 : decode cX7_passes 10 = .ok (.ldc 22, 2) := by decide +kernel
theorem dX7_passes_12 : decode cX7_passes 12 = .ok (.ireturn, 1) := by decide +kernel
theorem dX7_passes_13 : decode cX7_passes 13 = .ok (.aload_n 0, 1) := by decide +kernel
theorem dX7_passes_14 : decode cX7_passes 14 = .ok (.getfield 7, 3) := by decide +kernel
theorem dX7_passes_17 : decode cX7_passes 17 = .ok (.iconst 2, 1) := by decide +kernel
theorem dX7_passes_18 : decode cX7_passes 18 = .ok (.iaload, 1) := by decide +kernel
theorem dX7_passes_19 : decode cX7_passes 19 = .ok (.iload_n 1, 1) := by decide +kernel
theorem dX7_passes_20 : decode cX7_passes 20 = .ok (.iadd, 1) := by decide +kernel
theorem dX7_passes_21 : decode cX7_passes 21 = .ok (.sipush 9999, 3) := by decide +kernel
theorem dX7_passes_24 : decode cX7_passes 24 = .ok (.if_icmp .le 6, 3) := by decide +kernel
theorem dX7_passes_27 : decode cX7_passes 27 = .ok (.ldc 66, 2) := by decide +kernel
theorem dX7_passes_29 : decode cX7_passes 29 = .ok (.ireturn, 1) := by decide +kernel
theorem dX7_passes_30 : decode cX7_passes 30 = .ok (.iconst 0, 1) := by decide +kernel
theorem dX7_passes_31 : decode cX7_passes 31 = .ok (.istore_n 2, 1) := by decide +kernel
theorem dX7_passes_32 : decode cX7_passes 32 = .ok (.iconst 0, 1) := by decide +kernel
theorem dX7_passes_33 : decode cX7_passes 33 = .ok (.istore_n 3, 1) := by decide +kernel
theorem dX7_passes_34 : decode cX7_passes 34 = .ok (.iload_n 3, 1) := by decide +kernel
theorem dX7_passes_35 : decode cX7_passes 35 = .ok (.iload_n 1, 1) := by decide +kernel
theorem dX7_passes_36 : decode cX7_passes 36 = .ok (.if_icmp .ge 16, 3) := by decide +kernel
theorem dX7_passes_39 : decode cX7_passes 39 = .ok (.iload_n 2, 1) := by decide +kernel
theorem dX7_passes_40 : decode cX7_passes 40 = .ok (.aload_n 0, 1) := by decide +kernel
theorem dX7_passes_41 : decode cX7_passes 41 = .ok (.invokevirtual 93, 3) := by decide +kernel
theorem dX7_passes_44 : decode cX7_passes 44 = .ok (.iadd, 1) := by decide +kernel
theorem dX7_passes_45 : decode cX7_passes 45 = .ok (.istore_n 2, 1) := by decide +kernel
theorem dX7_passes_46 : decode cX7_passes 46 = .ok (.iinc 3 1, 3) := by decide +kernel
theorem dX7_passes_49 : decode cX7_passes 49 = .ok (.goto (-15), 3) := by decide +kernel
theorem dX7_passes_52 : decode cX7_passes 52 = .ok (.iload_n 2, 1) := by decide +kernel
theorem dX7_passes_53 : decode cX7_passes 53 = .ok (.ireturn, 1) := by decide +kernel
theorem dX7_boiler_0 : decode cX7_boiler 0 = .ok (.aload_n 0, 1) := by decide +kernel
theorem dX7_boiler_1 : decode cX7_boiler 1 = .ok (.invokevirtual 97, 3) := by decide +kernel
theorem dX7_boiler_4 : decode cX7_boiler 4 = .ok (.aload_n 0, 1) := by decide +kernel
theorem dX7_boiler_5 : decode cX7_boiler 5 = .ok (.aload_n 0, 1) := by decide +kernel
theorem dX7_boiler_6 : decode cX7_boiler 6 = .ok (.iload_n 1, 1) := by decide +kernel
theorem dX7_boiler_7 : decode cX7_boiler 7 = .ok (.invokevirtual 100, 3) := by decide +kernel
theorem dX7_boiler_10 : decode cX7_boiler 10 = .ok (.invokevirtual 103, 3) := by decide +kernel
theorem dX7_boiler_13 : decode cX7_boiler 13 = .ok (.ireturn, 1) := by decide +kernel
theorem dX7_inspector_0 : decode cX7_inspector 0 = .ok (.aload_n 0, 1) := by decide +kernel
theorem dX7_inspector_1 : decode cX7_inspector 1 = .ok (.invokevirtual 97, 3) := by decide +kernel
theorem dX7_inspector_4 : decode cX7_inspector 4 = .ok (.iload_n 1, 1) := by decide +kernel
theorem dX7_inspector_5 : decode cX7_inspector 5 = .ok (.iconst 0, 1) := by decide +kernel
theorem dX7_inspector_6 : decode cX7_inspector 6 = .ok (.iconst 1, 1) := by decide +kernel
theorem dX7_inspector_7 : decode cX7_inspector 7 = .ok (.invokestatic 30, 3) := by decide +kernel
theorem dX7_inspector_10 : decode cX7_inspector 10 = .ok (.ifCond .eq 12, 3) := by decide +kernel
theorem dX7_inspector_13 : decode cX7_inspector 13 = .ok (.iload_n 2, 1) := by decide +kernel
theorem dX7_inspector_14 : decode cX7_inspector 14 = .ok (.iconst 1, 1) := by decide +kernel
theorem dX7_inspector_15 : decode cX7_inspector 15 = .ok (.iconst 3, 1) := by decide +kernel
theorem dX7_inspector_16 : decode cX7_inspector 16 = .ok (.invokestatic 30, 3) := by decide +kernel
theorem dX7_inspector_19 : decode cX7_inspector 19 = .ok (.ifCond .ne 6, 3) := by decide +kernel
theorem dX7_inspector_22 : decode cX7_inspector 22 = .ok (.ldc 22, 2) := by decide +kernel
theorem dX7_inspector_24 : decode cX7_inspector 24 = .ok (.ireturn, 1) := by decide +kernel
theorem dX7_inspector_25 : decode cX7_inspector 25 = .ok (.aload_n 0, 1) := by decide +kernel
theorem dX7_inspector_26 : decode cX7_inspector 26 = .ok (.getfield 7, 3) := by decide +kernel
theorem dX7_inspector_29 : decode cX7_inspector 29 = .ok (.iconst 1, 1) := by decide +kernel
theorem dX7_inspector_30 : decode cX7_inspector 30 = .ok (.iaload, 1) := by decide +kernel
theorem dX7_inspector_31 : decode cX7_inspector 31 = .ok (.bipush 6, 2) := by decide +kernel
theorem dX7_inspector_33 : decode cX7_inspector 33 = .ok (.if_icmp .ne 6, 3) := by decide +kernel
theorem dX7_inspector_36 : decode cX7_inspector 36 = .ok (.ldc 66, 2) := by decide +kernel
theorem dX7_inspector_38 : decode cX7_inspector 38 = .ok (.ireturn, 1) := by decide +kernel
theorem dX7_inspector_39 : decode cX7_inspector 39 = .ok (.bipush 111, 2) := by decide +kernel
theorem dX7_inspector_41 : decode cX7_inspector 41 = .ok (.iconst 5, 1) := by decide +kernel
theorem dX7_inspector_42 : decode cX7_inspector 42 = .ok (.aload_n 0, 1) := by decide +kernel
theorem dX7_inspector_43 : decode cX7_inspector 43 = .ok (.getfield 7, 3) := by decide +kernel
theorem dX7_inspector_46 : decode cX7_inspector 46 = .ok (.iconst 1, 1) := by decide +kernel
theorem dX7_inspector_47 : decode cX7_inspector 47 = .ok (.iaload, 1) := by decide +kernel
theorem dX7_inspector_48 : decode cX7_inspector 48 = .ok (.imul, 1) := by decide +kernel
theorem dX7_inspector_49 : decode cX7_inspector 49 = .ok (.iadd, 1) := by decide +kernel
theorem dX7_inspector_50 : decode cX7_inspector 50 = .ok (.istore_n 3, 1) := by decide +kernel
theorem dX7_inspector_51 : decode cX7_inspector 51 = .ok (.aload_n 0, 1) := by decide +kernel
theorem dX7_inspector_52 : decode cX7_inspector 52 = .ok (.getfield 7, 3) := by decide +kernel
theorem dX7_inspector_55 : decode cX7_inspector 55 = .ok (.iload_n 3, 1) := by decide +kernel
theorem dX7_inspector_56 : decode cX7_inspector 56 = .ok (.iconst 0, 1) := by decide +kernel
theorem dX7_inspector_57 : decode cX7_inspector 57 = .ok (.iadd, 1) := by decide +kernel
theorem dX7_inspector_58 : decode cX7_inspector 58 = .ok (.iload_n 1, 1) := by decide +kernel
theorem dX7_inspector_59 : decode cX7_inspector 59 = .ok (.iastore, 1) := by decide +kernel
theorem dX7_inspector_60 : decode cX7_inspector 60 = .ok (.aload_n 0, 1) := by decide +kernel
theorem dX7_inspector_61 : decode cX7_inspector 61 = .ok (.getfield 7, 3) := by decide +kernel
theorem dX7_inspector_64 : decode cX7_inspector 64 = .ok (.iload_n 3, 1) := by decide +kernel
theorem dX7_inspector_65 : decode cX7_inspector 65 = .ok (.iconst 1, 1) := by decide +kernel
theorem dX7_inspector_66 : decode cX7_inspector 66 = .ok (.iadd, 1) := by decide +kernel
theorem dX7_inspector_67 : decode cX7_inspector 67 = .ok (.iload_n 2, 1) := by decide +kernel
theorem dX7_inspector_68 : decode cX7_inspector 68 = .ok (.iastore, 1) := by decide +kernel
theorem dX7_inspector_69 : decode cX7_inspector 69 = .ok (.aload_n 0, 1) := by decide +kernel
theorem dX7_inspector_70 : decode cX7_inspector 70 = .ok (.getfield 7, 3) := by decide +kernel
theorem dX7_inspector_73 : decode cX7_inspector 73 = .ok (.iload_n 3, 1) := by decide +kernel
theorem dX7_inspector_74 : decode cX7_inspector 74 = .ok (.iconst 2, 1) := by decide +kernel
theorem dX7_inspector_75 : decode cX7_inspector 75 = .ok (.iadd, 1) := by decide +kernel
theorem dX7_inspector_76 : decode cX7_inspector 76 = .ok (.iconst 0, 1) := by decide +kernel
theorem dX7_inspector_77 : decode cX7_inspector 77 = .ok (.iastore, 1) := by decide +kernel
theorem dX7_inspector_78 : decode cX7_inspector 78 = .ok (.aload_n 0, 1) := by decide +kernel
theorem dX7_inspector_79 : decode cX7_inspector 79 = .ok (.getfield 7, 3) := by decide +kernel
theorem dX7_inspector_82 : decode cX7_inspector 82 = .ok (.iload_n 3, 1) := by decide +kernel
theorem dX7_inspector_83 : decode cX7_inspector 83 = .ok (.iconst 3, 1) := by decide +kernel
theorem dX7_inspector_84 : decode cX7_inspector 84 = .ok (.iadd, 1) := by decide +kernel
theorem dX7_inspector_85 : decode cX7_inspector 85 = .ok (.iconst 0, 1) := by decide +kernel
theorem dX7_inspector_86 : decode cX7_inspector 86 = .ok (.iastore, 1) := by decide +kernel
theorem dX7_inspector_87 : decode cX7_inspector 87 = .ok (.aload_n 0, 1) := by decide +kernel
theorem dX7_inspector_88 : decode cX7_inspector 88 = .ok (.getfield 7, 3) := by decide +kernel
theorem dX7_inspector_91 : decode cX7_inspector 91 = .ok (.iload_n 3, 1) := by decide +kernel
theorem dX7_inspector_92 : decode cX7_inspector 92 = .ok (.iconst 4, 1) := by decide +kernel
theorem dX7_inspector_93 : decode cX7_inspector 93 = .ok (.iadd, 1) := by decide +kernel
theorem dX7_inspector_94 : decode cX7_inspector 94 = .ok (.iconst 0, 1) := by decide +kernel
theorem dX7_inspector_95 : decode cX7_inspector 95 = .ok (.iastore, 1) := by decide +kernel
theorem dX7_inspector_96 : decode cX7_inspector 96 = .ok (.aload_n 0, 1) := by decide +kernel
theorem dX7_inspector_97 : decode cX7_inspector 97 = .ok (.getfield 7, 3) := by decide +kernel
theorem dX7_inspector_100 : decode cX7_inspector 100 = .ok (.iconst 1, 1) := by decide +kernel
theorem dX7_inspector_101 : decode cX7_inspector 101 = .ok (.dup2, 1) := by decide +kernel
theorem dX7_inspector_102 : decode cX7_inspector 102 = .ok (.iaload, 1) := by decide +kernel
theorem dX7_inspector_103 : decode cX7_inspector 103 = .ok (.iconst 1, 1) := by decide +kernel
theorem dX7_inspector_104 : decode cX7_inspector 104 = .ok (.iadd, 1) := by decide +kernel
theorem dX7_inspector_105 : decode cX7_inspector 105 = .ok (.iastore, 1) := by decide +kernel
theorem dX7_inspector_106 : decode cX7_inspector 106 = .ok (.aload_n 0, 1) := by decide +kernel
theorem dX7_inspector_107 : decode cX7_inspector 107 = .ok (.aload_n 0, 1) := by decide +kernel
theorem dX7_inspector_108 : decode cX7_inspector 108 = .ok (.getfield 7, 3) := by decide +kernel
theorem dX7_inspector_111 : decode cX7_inspector 111 = .ok (.iconst 1, 1) := by decide +kernel
theorem dX7_inspector_112 : decode cX7_inspector 112 = .ok (.iaload, 1) := by decide +kernel
theorem dX7_inspector_113 : decode cX7_inspector 113 = .ok (.iconst 1, 1) := by decide +kernel
theorem dX7_inspector_114 : decode cX7_inspector 114 = .ok (.isub, 1) := by decide +kernel
theorem dX7_inspector_115 : decode cX7_inspector 115 = .ok (.invokevirtual 103, 3) := by decide +kernel
theorem dX7_inspector_118 : decode cX7_inspector 118 = .ok (.ireturn, 1) := by decide +kernel
theorem dX7_press_0 : decode cX7_press 0 = .ok (.aload_n 0, 1) := by decide +kernel
theorem dX7_press_1 : decode cX7_press 1 = .ok (.invokevirtual 97, 3) := by decide +kernel
theorem dX7_press_4 : decode cX7_press 4 = .ok (.aload_n 0, 1) := by decide +kernel
theorem dX7_press_5 : decode cX7_press 5 = .ok (.iload_n 1, 1) := by decide +kernel
theorem dX7_press_6 : decode cX7_press 6 = .ok (.invokevirtual 67, 3) := by decide +kernel
theorem dX7_press_9 : decode cX7_press 9 = .ok (.ifCond .eq 17, 3) := by decide +kernel
theorem dX7_press_12 : decode cX7_press 12 = .ok (.iload_n 2, 1) := by decide +kernel
theorem dX7_press_13 : decode cX7_press 13 = .ok (.iconst 1, 1) := by decide +kernel
theorem dX7_press_14 : decode cX7_press 14 = .ok (.aload_n 0, 1) := by decide +kernel
theorem dX7_press_15 : decode cX7_press 15 = .ok (.iload_n 1, 1) := by decide +kernel
theorem dX7_press_16 : decode cX7_press 16 = .ok (.iconst 0, 1) := by decide +kernel
theorem dX7_press_17 : decode cX7_press 17 = .ok (.invokevirtual 34, 3) := by decide +kernel
theorem dX7_press_20 : decode cX7_press 20 = .ok (.invokestatic 30, 3) := by decide +kernel
theorem dX7_press_23 : decode cX7_press 23 = .ok (.ifCond .ne 6, 3) := by decide +kernel
theorem dX7_press_26 : decode cX7_press 26 = .ok (.ldc 22, 2) := by decide +kernel
theorem dX7_press_28 : decode cX7_press 28 = .ok (.ireturn, 1) := by decide +kernel
theorem dX7_press_29 : decode cX7_press 29 = .ok (.aload_n 0, 1) := by decide +kernel
theorem dX7_press_30 : decode cX7_press 30 = .ok (.iload_n 1, 1) := by decide +kernel
theorem dX7_press_31 : decode cX7_press 31 = .ok (.iconst 3, 1) := by decide +kernel
theorem dX7_press_32 : decode cX7_press 32 = .ok (.invokevirtual 34, 3) := by decide +kernel
theorem dX7_press_35 : decode cX7_press 35 = .ok (.iconst 1, 1) := by decide +kernel
theorem dX7_press_36 : decode cX7_press 36 = .ok (.if_icmp .ne 17, 3) := by decide +kernel
theorem dX7_press_39 : decode cX7_press 39 = .ok (.iload_n 2, 1) := by decide +kernel
theorem dX7_press_40 : decode cX7_press 40 = .ok (.aload_n 0, 1) := by decide +kernel
theorem dX7_press_41 : decode cX7_press 41 = .ok (.iload_n 1, 1) := by decide +kernel
theorem dX7_press_42 : decode cX7_press 42 = .ok (.bipush 10, 2) := by decide +kernel
theorem dX7_press_44 : decode cX7_press 44 = .ok (.invokevirtual 34, 3) := by decide +kernel
theorem dX7_press_47 : decode cX7_press 47 = .ok (.if_icmp .le 6, 3) := by decide +kernel
theorem dX7_press_50 : decode cX7_press 50 = .ok (.ldc 76, 2) := by decide +kernel
theorem dX7_press_52 : decode cX7_press 52 = .ok (.ireturn, 1) := by decide +kernel
theorem dX7_press_53 : decode cX7_press 53 = .ok (.aload_n 0, 1) := by decide +kernel
theorem dX7_press_54 : decode cX7_press 54 = .ok (.iload_n 1, 1) := by decide +kernel
theorem dX7_press_55 : decode cX7_press 55 = .ok (.iconst 1, 1) := by decide +kernel
theorem dX7_press_56 : decode cX7_press 56 = .ok (.invokevirtual 34, 3) := by decide +kernel
theorem dX7_press_59 : decode cX7_press 59 = .ok (.istore_n 3, 1) := by decide +kernel
theorem dX7_press_60 : decode cX7_press 60 = .ok (.aload_n 0, 1) := by decide +kernel
theorem dX7_press_61 : decode cX7_press 61 = .ok (.iload_n 1, 1) := by decide +kernel
theorem dX7_press_62 : decode cX7_press 62 = .ok (.iconst 1, 1) := by decide +kernel
theorem dX7_press_63 : decode cX7_press 63 = .ok (.iload_n 2, 1) := by decide +kernel
theorem dX7_press_64 : decode cX7_press 64 = .ok (.invokevirtual 52, 3) := by decide +kernel
theorem dX7_press_67 : decode cX7_press 67 = .ok (.aload_n 0, 1) := by decide +kernel
theorem dX7_press_68 : decode cX7_press 68 = .ok (.iload_n 3, 1) := by decide +kernel
theorem dX7_press_69 : decode cX7_press 69 = .ok (.invokevirtual 103, 3) := by decide +kernel
theorem dX7_press_72 : decode cX7_press 72 = .ok (.ireturn, 1) := by decide +kernel
theorem dX7_inspect_0 : decode cX7_inspect 0 = .ok (.aload_n 0, 1) := by decide +kernel
theorem dX7_inspect_1 : decode cX7_inspect 1 = .ok (.invokevirtual 97, 3) := by decide +kernel
theorem dX7_inspect_4 : decode cX7_inspect 4 = .ok (.aload_n 0, 1) := by decide +kernel
theorem dX7_inspect_5 : decode cX7_inspect 5 = .ok (.aload_n 0, 1) := by decide +kernel
theorem dX7_inspect_6 : decode cX7_inspect 6 = .ok (.iload_n 1, 1) := by decide +kernel
theorem dX7_inspect_7 : decode cX7_inspect 7 = .ok (.iload_n 2, 1) := by decide +kernel
theorem dX7_inspect_8 : decode cX7_inspect 8 = .ok (.invokevirtual 106, 3) := by decide +kernel
theorem dX7_inspect_11 : decode cX7_inspect 11 = .ok (.invokevirtual 103, 3) := by decide +kernel
theorem dX7_inspect_14 : decode cX7_inspect 14 = .ok (.ireturn, 1) := by decide +kernel
theorem dX7_fire_0 : decode cX7_fire 0 = .ok (.aload_n 0, 1) := by decide +kernel
theorem dX7_fire_1 : decode cX7_fire 1 = .ok (.invokevirtual 97, 3) := by decide +kernel
theorem dX7_fire_4 : decode cX7_fire 4 = .ok (.aload_n 0, 1) := by decide +kernel
theorem dX7_fire_5 : decode cX7_fire 5 = .ok (.aload_n 0, 1) := by decide +kernel
theorem dX7_fire_6 : decode cX7_fire 6 = .ok (.iload_n 1, 1) := by decide +kernel
theorem dX7_fire_7 : decode cX7_fire 7 = .ok (.invokevirtual 109, 3) := by decide +kernel
theorem dX7_fire_10 : decode cX7_fire 10 = .ok (.invokevirtual 103, 3) := by decide +kernel
theorem dX7_fire_13 : decode cX7_fire 13 = .ok (.ireturn, 1) := by decide +kernel
theorem dX7_out_0 : decode cX7_out 0 = .ok (.aload_n 0, 1) := by decide +kernel
theorem dX7_out_1 : decode cX7_out 1 = .ok (.invokevirtual 97, 3) := by decide +kernel
theorem dX7_out_4 : decode cX7_out 4 = .ok (.aload_n 0, 1) := by decide +kernel
theorem dX7_out_5 : decode cX7_out 5 = .ok (.aload_n 0, 1) := by decide +kernel
theorem dX7_out_6 : decode cX7_out 6 = .ok (.iload_n 1, 1) := by decide +kernel
theorem dX7_out_7 : decode cX7_out 7 = .ok (.invokevirtual 112, 3) := by decide +kernel
theorem dX7_out_10 : decode cX7_out 10 = .ok (.invokevirtual 103, 3) := by decide +kernel
theorem dX7_out_13 : decode cX7_out 13 = .ok (.ireturn, 1) := by decide +kernel
theorem dX7_plan_0 : decode cX7_plan 0 = .ok (.aload_n 0, 1) := by decide +kernel
theorem dX7_plan_1 : decode cX7_plan 1 = .ok (.invokevirtual 97, 3) := by decide +kernel
theorem dX7_plan_4 : decode cX7_plan 4 = .ok (.aload_n 0, 1) := by decide +kernel
theorem dX7_plan_5 : decode cX7_plan 5 = .ok (.iload_n 1, 1) := by decide +kernel
theorem dX7_plan_6 : decode cX7_plan 6 = .ok (.invokevirtual 67, 3) := by decide +kernel
theorem dX7_plan_9 : decode cX7_plan 9 = .ok (.ifCond .eq 29, 3) := by decide +kernel
theorem dX7_plan_12 : decode cX7_plan 12 = .ok (.iload_n 2, 1) := by decide +kernel
theorem dX7_plan_13 : decode cX7_plan 13 = .ok (.aload_n 0, 1) := by decide +kernel
theorem dX7_plan_14 : decode cX7_plan 14 = .ok (.getfield 7, 3) := by decide +kernel
theorem dX7_plan_17 : decode cX7_plan 17 = .ok (.iconst 2, 1) := by decide +kernel
theorem dX7_plan_18 : decode cX7_plan 18 = .ok (.iaload, 1) := by decide +kernel
theorem dX7_plan_19 : decode cX7_plan 19 = .ok (.sipush 9999, 3) := by decide +kernel
theorem dX7_plan_22 : decode cX7_plan 22 = .ok (.invokestatic 30, 3) := by decide +kernel
theorem dX7_plan_25 : decode cX7_plan 25 = .ok (.ifCond .eq 13, 3) := by decide +kernel
theorem dX7_plan_28 : decode cX7_plan 28 = .ok (.iload_n 3, 1) := by decide +kernel
theorem dX7_plan_29 : decode cX7_plan 29 = .ok (.iconst 1, 1) := by decide +kernel
theorem dX7_plan_30 : decode cX7_plan 30 = .ok (.bipush 20, 2) := by decide +kernel
theorem dX7_plan_32 : decode cX7_plan 32 = .ok (.invokestatic 30, 3) := by decide +kernel
theorem dX7_plan_35 : decode cX7_plan 35 = .ok (.ifCond .ne 6, 3) := by decide +kernel
theorem dX7_plan_38 : decode cX7_plan 38 = .ok (.ldc 22, 2) := by decide +kernel
theorem dX7_plan_40 : decode cX7_plan 40 = .ok (.ireturn, 1) := by decide +kernel
theorem dX7_plan_41 : decode cX7_plan 41 = .ok (.iload_n 2, 1) := by decide +kernel
theorem dX7_plan_42 : decode cX7_plan 42 = .ok (.aload_n 0, 1) := by decide +kernel
theorem dX7_plan_43 : decode cX7_plan 43 = .ok (.getfield 7, 3) := by decide +kernel
theorem dX7_plan_46 : decode cX7_plan 46 = .ok (.iconst 2, 1) := by decide +kernel
theorem dX7_plan_47 : decode cX7_plan 47 = .ok (.iaload, 1) := by decide +kernel
theorem dX7_plan_48 : decode cX7_plan 48 = .ok (.if_icmp .ne 16, 3) := by decide +kernel
theorem dX7_plan_51 : decode cX7_plan 51 = .ok (.aload_n 0, 1) := by decide +kernel
theorem dX7_plan_52 : decode cX7_plan 52 = .ok (.iload_n 1, 1) := by decide +kernel
theorem dX7_plan_53 : decode cX7_plan 53 = .ok (.iconst 3, 1) := by decide +kernel
theorem dX7_plan_54 : decode cX7_plan 54 = .ok (.invokevirtual 34, 3) := by decide +kernel
theorem dX7_plan_57 : decode cX7_plan 57 = .ok (.iconst 1, 1) := by decide +kernel
theorem dX7_plan_58 : decode cX7_plan 58 = .ok (.if_icmp .ne 6, 3) := by decide +kernel
theorem dX7_plan_61 : decode cX7_plan 61 = .ok (.ldc 76, 2) := by decide +kernel
theorem dX7_plan_63 : decode cX7_plan 63 = .ok (.ireturn, 1) := by decide +kernel
theorem dX7_plan_64 : decode cX7_plan 64 = .ok (.aload_n 0, 1) := by decide +kernel
theorem dX7_plan_65 : decode cX7_plan 65 = .ok (.iload_n 1, 1) := by decide +kernel
theorem dX7_plan_66 : decode cX7_plan 66 = .ok (.bipush 7, 2) := by decide +kernel
theorem dX7_plan_68 : decode cX7_plan 68 = .ok (.iload_n 2, 1) := by decide +kernel
theorem dX7_plan_69 : decode cX7_plan 69 = .ok (.invokevirtual 52, 3) := by decide +kernel
theorem dX7_plan_72 : decode cX7_plan 72 = .ok (.aload_n 0, 1) := by decide +kernel
theorem dX7_plan_73 : decode cX7_plan 73 = .ok (.iload_n 1, 1) := by decide +kernel
theorem dX7_plan_74 : decode cX7_plan 74 = .ok (.bipush 8, 2) := by decide +kernel
theorem dX7_plan_76 : decode cX7_plan 76 = .ok (.iload_n 2, 1) := by decide +kernel
theorem dX7_plan_77 : decode cX7_plan 77 = .ok (.iload_n 3, 1) := by decide +kernel
theorem dX7_plan_78 : decode cX7_plan 78 = .ok (.iadd, 1) := by decide +kernel
theorem dX7_plan_79 : decode cX7_plan 79 = .ok (.iconst 1, 1) := by decide +kernel
theorem dX7_plan_80 : decode cX7_plan 80 = .ok (.isub, 1) := by decide +kernel
theorem dX7_plan_81 : decode cX7_plan 81 = .ok (.invokevirtual 52, 3) := by decide +kernel
theorem dX7_plan_84 : decode cX7_plan 84 = .ok (.aload_n 0, 1) := by decide +kernel
theorem dX7_plan_85 : decode cX7_plan 85 = .ok (.aload_n 0, 1) := by decide +kernel
theorem dX7_plan_86 : decode cX7_plan 86 = .ok (.iload_n 1, 1) := by decide +kernel
theorem dX7_plan_87 : decode cX7_plan 87 = .ok (.bipush 8, 2) := by decide +kernel
theorem dX7_plan_89 : decode cX7_plan 89 = .ok (.invokevirtual 34, 3) := by decide +kernel
theorem dX7_plan_92 : decode cX7_plan 92 = .ok (.invokevirtual 103, 3) := by decide +kernel
theorem dX7_plan_95 : decode cX7_plan 95 = .ok (.ireturn, 1) := by decide +kernel
theorem dX7_repair_0 : decode cX7_repair 0 = .ok (.aload_n 0, 1) := by decide +kernel
theorem dX7_repair_1 : decode cX7_repair 1 = .ok (.invokevirtual 97, 3) := by decide +kernel
theorem dX7_repair_4 : decode cX7_repair 4 = .ok (.aload_n 0, 1) := by decide +kernel
theorem dX7_repair_5 : decode cX7_repair 5 = .ok (.aload_n 0, 1) := by decide +kernel
theorem dX7_repair_6 : decode cX7_repair 6 = .ok (.iload_n 1, 1) := by decide +kernel
theorem dX7_repair_7 : decode cX7_repair 7 = .ok (.invokevirtual 115, 3) := by decide +kernel
theorem dX7_repair_10 : decode cX7_repair 10 = .ok (.invokevirtual 103, 3) := by decide +kernel
theorem dX7_repair_13 : decode cX7_repair 13 = .ok (.ireturn, 1) := by decide +kernel
theorem dX7_pass_0 : decode cX7_pass 0 = .ok (.aload_n 0, 1) := by decide +kernel
theorem dX7_pass_1 : decode cX7_pass 1 = .ok (.invokevirtual 97, 3) := by decide +kernel
theorem dX7_pass_4 : decode cX7_pass 4 = .ok (.aload_n 0, 1) := by decide +kernel
theorem dX7_pass_5 : decode cX7_pass 5 = .ok (.aload_n 0, 1) := by decide +kernel
theorem dX7_pass_6 : decode cX7_pass 6 = .ok (.iload_n 1, 1) := by decide +kernel
theorem dX7_pass_7 : decode cX7_pass 7 = .ok (.invokevirtual 118, 3) := by decide +kernel
theorem dX7_pass_10 : decode cX7_pass 10 = .ok (.invokevirtual 103, 3) := by decide +kernel
theorem dX7_pass_13 : decode cX7_pass 13 = .ok (.ireturn, 1) := by decide +kernel
theorem dX7_set_0 : decode cX7_set 0 = .ok (.aload_n 0, 1) := by decide +kernel
theorem dX7_set_1 : decode cX7_set 1 = .ok (.invokevirtual 97, 3) := by decide +kernel
theorem dX7_set_4 : decode cX7_set 4 = .ok (.iload_n 1, 1) := by decide +kernel
theorem dX7_set_5 : decode cX7_set 5 = .ok (.iconst 0, 1) := by decide +kernel
theorem dX7_set_6 : decode cX7_set 6 = .ok (.iconst 3, 1) := by decide +kernel
theorem dX7_set_7 : decode cX7_set 7 = .ok (.invokestatic 30, 3) := by decide +kernel
theorem dX7_set_10 : decode cX7_set 10 = .ok (.ifCond .eq 24, 3) := by decide +kernel
theorem dX7_set_13 : decode cX7_set 13 = .ok (.iload_n 2, 1) := by decide +kernel
theorem dX7_set_14 : decode cX7_set 14 = .ok (.iconst 0, 1) := by decide +kernel
theorem dX7_set_15 : decode cX7_set 15 = .ok (.iload_n 1, 1) := by decide +kernel
theorem dX7_set_16 : decode cX7_set 16 = .ok (.iconst 2, 1) := by decide +kernel
theorem dX7_set_17 : decode cX7_set 17 = .ok (.if_icmp .ge 9, 3) := by decide +kernel
theorem dX7_set_20 : decode cX7_set 20 = .ok (.sipush 200, 3) := by decide +kernel
theorem dX7_set_23 : decode cX7_set 23 = .ok (.goto 5, 3) := by decide +kernel
theorem dX7_set_26 : decode cX7_set 26 = .ok (.bipush 99, 2) := by decide +kernel
theorem dX7_set_28 : decode cX7_set 28 = .ok (.invokestatic 30, 3) := by decide +kernel
theorem dX7_set_31 : decode cX7_set 31 = .ok (.ifCond .ne 6, 3) := by decide +kernel
theorem dX7_set_34 : decode cX7_set 34 = .ok (.ldc 22, 2) := by decide +kernel
theorem dX7_set_36 : decode cX7_set 36 = .ok (.ireturn, 1) := by decide +kernel
theorem dX7_set_37 : decode cX7_set 37 = .ok (.aload_n 0, 1) := by decide +kernel
theorem dX7_set_38 : decode cX7_set 38 = .ok (.getfield 7, 3) := by decide +kernel
theorem dX7_set_41 : decode cX7_set 41 = .ok (.bipush 7, 2) := by decide +kernel
theorem dX7_set_43 : decode cX7_set 43 = .ok (.iload_n 1, 1) := by decide +kernel
theorem dX7_set_44 : decode cX7_set 44 = .ok (.iadd, 1) := by decide +kernel
theorem dX7_set_45 : decode cX7_set 45 = .ok (.iaload, 1) := by decide +kernel
theorem dX7_set_46 : decode cX7_set 46 = .ok (.istore_n 3, 1) := by decide +kernel
theorem dX7_set_47 : decode cX7_set 47 = .ok (.aload_n 0, 1) := by decide +kernel
theorem dX7_set_48 : decode cX7_set 48 = .ok (.getfield 7, 3) := by decide +kernel
theorem dX7_set_51 : decode cX7_set 51 = .ok (.bipush 7, 2) := by decide +kernel
theorem dX7_set_53 : decode cX7_set 53 = .ok (.iload_n 1, 1) := by decide +kernel
theorem dX7_set_54 : decode cX7_set 54 = .ok (.iadd, 1) := by decide +kernel
theorem dX7_set_55 : decode cX7_set 55 = .ok (.iload_n 2, 1) := by decide +kernel
theorem dX7_set_56 : decode cX7_set 56 = .ok (.iastore, 1) := by decide +kernel
theorem dX7_set_57 : decode cX7_set 57 = .ok (.aload_n 0, 1) := by decide +kernel
theorem dX7_set_58 : decode cX7_set 58 = .ok (.iload_n 3, 1) := by decide +kernel
theorem dX7_set_59 : decode cX7_set 59 = .ok (.invokevirtual 103, 3) := by decide +kernel
theorem dX7_set_62 : decode cX7_set 62 = .ok (.ireturn, 1) := by decide +kernel
theorem dX7_boilerOf_0 : decode cX7_boilerOf 0 = .ok (.aload_n 0, 1) := by decide +kernel
theorem dX7_boilerOf_1 : decode cX7_boilerOf 1 = .ok (.iload_n 1, 1) := by decide +kernel
theorem dX7_boilerOf_2 : decode cX7_boilerOf 2 = .ok (.invokevirtual 67, 3) := by decide +kernel
theorem dX7_boilerOf_5 : decode cX7_boilerOf 5 = .ok (.ifCond .eq 13, 3) := by decide +kernel
theorem dX7_boilerOf_8 : decode cX7_boilerOf 8 = .ok (.iload_n 2, 1) := by decide +kernel
theorem dX7_boilerOf_9 : decode cX7_boilerOf 9 = .ok (.iconst 0, 1) := by decide +kernel
theorem dX7_boilerOf_10 : decode cX7_boilerOf 10 = .ok (.bipush 9, 2) := by decide +kernel
theorem dX7_boilerOf_12 : decode cX7_boilerOf 12 = .ok (.invokestatic 30, 3) := by decide +kernel
theorem dX7_boilerOf_15 : decode cX7_boilerOf 15 = .ok (.ifCond .ne 6, 3) := by decide +kernel
theorem dX7_boilerOf_18 : decode cX7_boilerOf 18 = .ok (.ldc 22, 2) := by decide +kernel
theorem dX7_boilerOf_20 : decode cX7_boilerOf 20 = .ok (.ireturn, 1) := by decide +kernel
theorem dX7_boilerOf_21 : decode cX7_boilerOf 21 = .ok (.iload_n 2, 1) := by decide +kernel
theorem dX7_boilerOf_22 : decode cX7_boilerOf 22 = .ok (.tableswitch 116 4 9 #[38, 59, 116, 88, 88, 110], 38) := by decide +kernel
theorem dX7_boilerOf_60 : decode cX7_boilerOf 60 = .ok (.aload_n 0, 1) := by decide +kernel
theorem dX7_boilerOf_61 : decode cX7_boilerOf 61 = .ok (.iload_n 1, 1) := by decide +kernel
theorem dX7_boilerOf_62 : decode cX7_boilerOf 62 = .ok (.iconst 3, 1) := by decide +kernel
theorem dX7_boilerOf_63 : decode cX7_boilerOf 63 = .ok (.invokevirtual 34, 3) := by decide +kernel
theorem dX7_boilerOf_66 : decode cX7_boilerOf 66 = .ok (.ifCond .ne 12, 3) := by decide +kernel
theorem dX7_boilerOf_69 : decode cX7_boilerOf 69 = .ok (.aload_n 0, 1) := by decide +kernel
theorem dX7_boilerOf_70 : decode cX7_boilerOf 70 = .ok (.iload_n 1, 1) := by decide +kernel
theorem dX7_boilerOf_71 : decode cX7_boilerOf 71 = .ok (.iconst 4, 1) := by decide +kernel
theorem dX7_boilerOf_72 : decode cX7_boilerOf 72 = .ok (.invokevirtual 34, 3) := by decide +kernel
theorem dX7_boilerOf_75 : decode cX7_boilerOf 75 = .ok (.goto 5, 3) := by decide +kernel
theorem dX7_boilerOf_78 : decode cX7_boilerOf 78 = .ok (.ldc 121, 2) := by decide +kernel
theorem dX7_boilerOf_80 : decode cX7_boilerOf 80 = .ok (.ireturn, 1) := by decide +kernel
theorem dX7_boilerOf_81 : decode cX7_boilerOf 81 = .ok (.aload_n 0, 1) := by decide +kernel
theorem dX7_boilerOf_82 : decode cX7_boilerOf 82 = .ok (.iload_n 1, 1) := by decide +kernel
theorem dX7_boilerOf_83 : decode cX7_boilerOf 83 = .ok (.iconst 3, 1) := by decide +kernel
theorem dX7_boilerOf_84 : decode cX7_boilerOf 84 = .ok (.invokevirtual 34, 3) := by decide +kernel
theorem dX7_boilerOf_87 : decode cX7_boilerOf 87 = .ok (.iconst 2, 1) := by decide +kernel
theorem dX7_boilerOf_88 : decode cX7_boilerOf 88 = .ok (.if_icmp .ne 19, 3) := by decide +kernel
theorem dX7_boilerOf_91 : decode cX7_boilerOf 91 = .ok (.aload_n 0, 1) := by decide +kernel
theorem dX7_boilerOf_92 : decode cX7_boilerOf 92 = .ok (.iload_n 1, 1) := by decide +kernel
theorem dX7_boilerOf_93 : decode cX7_boilerOf 93 = .ok (.iconst 5, 1) := by decide +kernel
theorem dX7_boilerOf_94 : decode cX7_boilerOf 94 = .ok (.invokevirtual 34, 3) := by decide +kernel
theorem dX7_boilerOf_97 : decode cX7_boilerOf 97 = .ok (.aload_n 0, 1) := by decide +kernel
theorem dX7_boilerOf_98 : decode cX7_boilerOf 98 = .ok (.getfield 7, 3) := by decide +kernel
theorem dX7_boilerOf_101 : decode cX7_boilerOf 101 = .ok (.iconst 2, 1) := by decide +kernel
theorem dX7_boilerOf_102 : decode cX7_boilerOf 102 = .ok (.iaload, 1) := by decide +kernel
theorem dX7_boilerOf_103 : decode cX7_boilerOf 103 = .ok (.isub, 1) := by decide +kernel
theorem dX7_boilerOf_104 : decode cX7_boilerOf 104 = .ok (.goto 5, 3) := by decide +kernel
theorem dX7_boilerOf_107 : decode cX7_boilerOf 107 = .ok (.ldc 121, 2) := by decide +kernel
theorem dX7_boilerOf_109 : decode cX7_boilerOf 109 = .ok (.ireturn, 1) := by decide +kernel
theorem dX7_boilerOf_110 : decode cX7_boilerOf 110 = .ok (.aload_n 0, 1) := by decide +kernel
theorem dX7_boilerOf_111 : decode cX7_boilerOf 111 = .ok (.iload_n 1, 1) := by decide +kernel
theorem dX7_boilerOf_112 : decode cX7_boilerOf 112 = .ok (.bipush 7, 2) := by decide +kernel
theorem dX7_boilerOf_114 : decode cX7_boilerOf 114 = .ok (.invokevirtual 34, 3) := by decide +kernel
theorem dX7_boilerOf_117 : decode cX7_boilerOf 117 = .ok (.ifCond .ge 8, 3) := by decide +kernel
theorem dX7_boilerOf_120 : decode cX7_boilerOf 120 = .ok (.ldc 121, 2) := by decide +kernel
theorem dX7_boilerOf_122 : decode cX7_boilerOf 122 = .ok (.goto 9, 3) := by decide +kernel
theorem dX7_boilerOf_125 : decode cX7_boilerOf 125 = .ok (.aload_n 0, 1) := by decide +kernel
theorem dX7_boilerOf_126 : decode cX7_boilerOf 126 = .ok (.iload_n 1, 1) := by decide +kernel
theorem dX7_boilerOf_127 : decode cX7_boilerOf 127 = .ok (.iload_n 2, 1) := by decide +kernel
theorem dX7_boilerOf_128 : decode cX7_boilerOf 128 = .ok (.invokevirtual 34, 3) := by decide +kernel
theorem dX7_boilerOf_131 : decode cX7_boilerOf 131 = .ok (.ireturn, 1) := by decide +kernel
theorem dX7_boilerOf_132 : decode cX7_boilerOf 132 = .ok (.aload_n 0, 1) := by decide +kernel
theorem dX7_boilerOf_133 : decode cX7_boilerOf 133 = .ok (.iload_n 1, 1) := by decide +kernel
theorem dX7_boilerOf_134 : decode cX7_boilerOf 134 = .ok (.invokevirtual 38, 3) := by decide +kernel
theorem dX7_boilerOf_137 : decode cX7_boilerOf 137 = .ok (.ireturn, 1) := by decide +kernel
theorem dX7_boilerOf_138 : decode cX7_boilerOf 138 = .ok (.aload_n 0, 1) := by decide +kernel
theorem dX7_boilerOf_139 : decode cX7_boilerOf 139 = .ok (.iload_n 1, 1) := by decide +kernel
theorem dX7_boilerOf_140 : decode cX7_boilerOf 140 = .ok (.iload_n 2, 1) := by decide +kernel
theorem dX7_boilerOf_141 : decode cX7_boilerOf 141 = .ok (.invokevirtual 34, 3) := by decide +kernel
theorem dX7_boilerOf_144 : decode cX7_boilerOf 144 = .ok (.ireturn, 1) := by decide +kernel
theorem dX7_paperOf_0 : decode cX7_paperOf 0 = .ok (.aload_n 0, 1) := by decide +kernel
theorem dX7_paperOf_1 : decode cX7_paperOf 1 = .ok (.iload_n 1, 1) := by decide +kernel
theorem dX7_paperOf_2 : decode cX7_paperOf 2 = .ok (.invokevirtual 67, 3) := by decide +kernel
theorem dX7_paperOf_5 : decode cX7_paperOf 5 = .ok (.ifCond .eq 12, 3) := by decide +kernel
theorem dX7_paperOf_8 : decode cX7_paperOf 8 = .ok (.iload_n 2, 1) := by decide +kernel
theorem dX7_paperOf_9 : decode cX7_paperOf 9 = .ok (.iconst 0, 1) := by decide +kernel
theorem dX7_paperOf_10 : decode cX7_paperOf 10 = .ok (.iconst 2, 1) := by decide +kernel
theorem dX7_paperOf_11 : decode cX7_paperOf 11 = .ok (.invokestatic 30, 3) := by decide +kernel
theorem dX7_paperOf_14 : decode cX7_paperOf 14 = .ok (.ifCond .ne 6, 3) := by decide +kernel
theorem dX7_paperOf_17 : decode cX7_paperOf 17 = .ok (.ldc 22, 2) := by decide +kernel
theorem dX7_paperOf_19 : decode cX7_paperOf 19 = .ok (.ireturn, 1) := by decide +kernel
theorem dX7_paperOf_20 : decode cX7_paperOf 20 = .ok (.aload_n 0, 1) := by decide +kernel
theorem dX7_paperOf_21 : decode cX7_paperOf 21 = .ok (.iload_n 1, 1) := by decide +kernel
theorem dX7_paperOf_22 : decode cX7_paperOf 22 = .ok (.invokevirtual 46, 3) := by decide +kernel
theorem dX7_paperOf_25 : decode cX7_paperOf 25 = .ok (.ifCond .eq 15, 3) := by decide +kernel
theorem dX7_paperOf_28 : decode cX7_paperOf 28 = .ok (.aload_n 0, 1) := by decide +kernel
theorem dX7_paperOf_29 : decode cX7_paperOf 29 = .ok (.iload_n 1, 1) := by decide +kernel
theorem dX7_paperOf_30 : decode cX7_paperOf 30 = .ok (.bipush 9, 2) := by decide +kernel
theorem dX7_paperOf_32 : decode cX7_paperOf 32 = .ok (.iload_n 2, 1) := by decide +kernel
theorem dX7_paperOf_33 : decode cX7_paperOf 33 = .ok (.iadd, 1) := by decide +kernel
theorem dX7_paperOf_34 : decode cX7_paperOf 34 = .ok (.invokevirtual 34, 3) := by decide +kernel
theorem dX7_paperOf_37 : decode cX7_paperOf 37 = .ok (.goto 5, 3) := by decide +kernel
theorem dX7_paperOf_40 : decode cX7_paperOf 40 = .ok (.ldc 121, 2) := by decide +kernel
theorem dX7_paperOf_42 : decode cX7_paperOf 42 = .ok (.ireturn, 1) := by decide +kernel
theorem dX7_inspectorOf_0 : decode cX7_inspectorOf 0 = .ok (.aload_n 0, 1) := by decide +kernel
theorem dX7_inspectorOf_1 : decode cX7_inspectorOf 1 = .ok (.iload_n 1, 1) := by decide +kernel
theorem dX7_inspectorOf_2 : decode cX7_inspectorOf 2 = .ok (.invokevirtual 70, 3) := by decide +kernel
theorem dX7_inspectorOf_5 : decode cX7_inspectorOf 5 = .ok (.ifCond .eq 12, 3) := by decide +kernel
theorem dX7_inspectorOf_8 : decode cX7_inspectorOf 8 = .ok (.iload_n 2, 1) := by decide +kernel
theorem dX7_inspectorOf_9 : decode cX7_inspectorOf 9 = .ok (.iconst 0, 1) := by decide +kernel
theorem dX7_inspectorOf_10 : decode cX7_inspectorOf 10 = .ok (.iconst 4, 1) := by decide +kernel
theorem dX7_inspectorOf_11 : decode cX7_inspectorOf 11 = .ok (.invokestatic 30, 3) := by decide +kernel
theorem dX7_inspectorOf_14 : decode cX7_inspectorOf 14 = .ok (.ifCond .ne 6, 3) := by decide +kernel
theorem dX7_inspectorOf_17 : decode cX7_inspectorOf 17 = .ok (.ldc 22, 2) := by decide +kernel
theorem dX7_inspectorOf_19 : decode cX7_inspectorOf 19 = .ok (.ireturn, 1) := by decide +kernel
theorem dX7_inspectorOf_20 : decode cX7_inspectorOf 20 = .ok (.iload_n 2, 1) := by decide +kernel
theorem dX7_inspectorOf_21 : decode cX7_inspectorOf 21 = .ok (.iconst 2, 1) := by decide +kernel
theorem dX7_inspectorOf_22 : decode cX7_inspectorOf 22 = .ok (.if_icmp .ne 19, 3) := by decide +kernel
theorem dX7_inspectorOf_25 : decode cX7_inspectorOf 25 = .ok (.aload_n 0, 1) := by decide +kernel
theorem dX7_inspectorOf_26 : decode cX7_inspectorOf 26 = .ok (.iload_n 1, 1) := by decide +kernel
theorem dX7_inspectorOf_27 : decode cX7_inspectorOf 27 = .ok (.iconst 1, 1) := by decide +kernel
theorem dX7_inspectorOf_28 : decode cX7_inspectorOf 28 = .ok (.invokevirtual 49, 3) := by decide +kernel
theorem dX7_inspectorOf_31 : decode cX7_inspectorOf 31 = .ok (.aload_n 0, 1) := by decide +kernel
theorem dX7_inspectorOf_32 : decode cX7_inspectorOf 32 = .ok (.iload_n 1, 1) := by decide +kernel
theorem dX7_inspectorOf_33 : decode cX7_inspectorOf 33 = .ok (.iconst 2, 1) := by decide +kernel
theorem dX7_inspectorOf_34 : decode cX7_inspectorOf 34 = .ok (.invokevirtual 49, 3) := by decide +kernel
theorem dX7_inspectorOf_37 : decode cX7_inspectorOf 37 = .ok (.isub, 1) := by decide +kernel
theorem dX7_inspectorOf_38 : decode cX7_inspectorOf 38 = .ok (.goto 9, 3) := by decide +kernel
theorem dX7_inspectorOf_41 : decode cX7_inspectorOf 41 = .ok (.aload_n 0, 1) := by decide +kernel
theorem dX7_inspectorOf_42 : decode cX7_inspectorOf 42 = .ok (.iload_n 1, 1) := by decide +kernel
theorem dX7_inspectorOf_43 : decode cX7_inspectorOf 43 = .ok (.iload_n 2, 1) := by decide +kernel
theorem dX7_inspectorOf_44 : decode cX7_inspectorOf 44 = .ok (.invokevirtual 49, 3) := by decide +kernel
theorem dX7_inspectorOf_47 : decode cX7_inspectorOf 47 = .ok (.ireturn, 1) := by decide +kernel
theorem dX7_why_0 : decode cX7_why 0 = .ok (.aload_n 0, 1) := by decide +kernel
theorem dX7_why_1 : decode cX7_why 1 = .ok (.iload_n 1, 1) := by decide +kernel
theorem dX7_why_2 : decode cX7_why 2 = .ok (.invokevirtual 67, 3) := by decide +kernel
theorem dX7_why_5 : decode cX7_why 5 = .ok (.ifCond .eq 16, 3) := by decide +kernel
theorem dX7_why_8 : decode cX7_why 8 = .ok (.iload_n 2, 1) := by decide +kernel
theorem dX7_why_9 : decode cX7_why 9 = .ok (.iconst (-1), 1) := by decide +kernel
theorem dX7_why_10 : decode cX7_why 10 = .ok (.if_icmp .eq 14, 3) := by decide +kernel
theorem dX7_why_13 : decode cX7_why 13 = .ok (.aload_n 0, 1) := by decide +kernel
theorem dX7_why_14 : decode cX7_why 14 = .ok (.iload_n 2, 1) := by decide +kernel
theorem dX7_why_15 : decode cX7_why 15 = .ok (.invokevirtual 70, 3) := by decide +kernel
theorem dX7_why_18 : decode cX7_why 18 = .ok (.ifCond .ne 6, 3) := by decide +kernel
theorem dX7_why_21 : decode cX7_why 21 = .ok (.ldc 22, 2) := by decide +kernel
theorem dX7_why_23 : decode cX7_why 23 = .ok (.ireturn, 1) := by decide +kernel
theorem dX7_why_24 : decode cX7_why 24 = .ok (.iload_n 2, 1) := by decide +kernel
theorem dX7_why_25 : decode cX7_why 25 = .ok (.iconst (-1), 1) := by decide +kernel
theorem dX7_why_26 : decode cX7_why 26 = .ok (.if_icmp .ne 11, 3) := by decide +kernel
theorem dX7_why_29 : decode cX7_why 29 = .ok (.aload_n 0, 1) := by decide +kernel
theorem dX7_why_30 : decode cX7_why 30 = .ok (.iload_n 1, 1) := by decide +kernel
theorem dX7_why_31 : decode cX7_why 31 = .ok (.invokevirtual 90, 3) := by decide +kernel
theorem dX7_why_34 : decode cX7_why 34 = .ok (.goto 9, 3) := by decide +kernel
theorem dX7_why_37 : decode cX7_why 37 = .ok (.aload_n 0, 1) := by decide +kernel
theorem dX7_why_38 : decode cX7_why 38 = .ok (.iload_n 1, 1) := by decide +kernel
theorem dX7_why_39 : decode cX7_why 39 = .ok (.iload_n 2, 1) := by decide +kernel
theorem dX7_why_40 : decode cX7_why 40 = .ok (.invokevirtual 73, 3) := by decide +kernel
theorem dX7_why_43 : decode cX7_why 43 = .ok (.ireturn, 1) := by decide +kernel
theorem dX7_account_0 : decode cX7_account 0 = .ok (.iload_n 1, 1) := by decide +kernel
theorem dX7_account_1 : decode cX7_account 1 = .ok (.iconst 0, 1) := by decide +kernel
theorem dX7_account_2 : decode cX7_account 2 = .ok (.iconst 3, 1) := by decide +kernel
theorem dX7_account_3 : decode cX7_account 3 = .ok (.invokestatic 30, 3) := by decide +kernel
theorem dX7_account_6 : decode cX7_account 6 = .ok (.ifCond .eq 15, 3) := by decide +kernel
theorem dX7_account_9 : decode cX7_account 9 = .ok (.aload_n 0, 1) := by decide +kernel
theorem dX7_account_10 : decode cX7_account 10 = .ok (.getfield 7, 3) := by decide +kernel
theorem dX7_account_13 : decode cX7_account 13 = .ok (.bipush 11, 2) := by decide +kernel
theorem dX7_account_15 : decode cX7_account 15 = .ok (.iload_n 1, 1) := by decide +kernel
theorem dX7_account_16 : decode cX7_account 16 = .ok (.iadd, 1) := by decide +kernel
theorem dX7_account_17 : decode cX7_account 17 = .ok (.iaload, 1) := by decide +kernel
theorem dX7_account_18 : decode cX7_account 18 = .ok (.goto 5, 3) := by decide +kernel
theorem dX7_account_21 : decode cX7_account 21 = .ok (.ldc 22, 2) := by decide +kernel
theorem dX7_account_23 : decode cX7_account 23 = .ok (.ireturn, 1) := by decide +kernel
theorem dX7_would_0 : decode cX7_would 0 = .ok (.aload_n 0, 1) := by decide +kernel
theorem dX7_would_1 : decode cX7_would 1 = .ok (.iload_n 1, 1) := by decide +kernel
theorem dX7_would_2 : decode cX7_would 2 = .ok (.invokevirtual 67, 3) := by decide +kernel
theorem dX7_would_5 : decode cX7_would 5 = .ok (.ifCond .eq 21, 3) := by decide +kernel
theorem dX7_would_8 : decode cX7_would 8 = .ok (.iload_n 2, 1) := by decide +kernel
theorem dX7_would_9 : decode cX7_would 9 = .ok (.iconst 0, 1) := by decide +kernel
theorem dX7_would_10 : decode cX7_would 10 = .ok (.iconst 1, 1) := by decide +kernel
theorem dX7_would_11 : decode cX7_would 11 = .ok (.invokestatic 30, 3) := by decide +kernel
theorem dX7_would_14 : decode cX7_would 14 = .ok (.ifCond .eq 12, 3) := by decide +kernel
theorem dX7_would_17 : decode cX7_would 17 = .ok (.iload_n 3, 1) := by decide +kernel
theorem dX7_would_18 : decode cX7_would 18 = .ok (.iconst 0, 1) := by decide +kernel
theorem dX7_would_19 : decode cX7_would 19 = .ok (.iconst 1, 1) := by decide +kernel
theorem dX7_would_20 : decode cX7_would 20 = .ok (.invokestatic 30, 3) := by decide +kernel
theorem dX7_would_23 : decode cX7_would 23 = .ok (.ifCond .ne 6, 3) := by decide +kernel
theorem dX7_would_26 : decode cX7_would 26 = .ok (.ldc 22, 2) := by decide +kernel
theorem dX7_would_28 : decode cX7_would 28 = .ok (.ireturn, 1) := by decide +kernel
theorem dX7_would_29 : decode cX7_would 29 = .ok (.aload_n 0, 1) := by decide +kernel
end
section
theorem dX7_would_30 : decode cX7_would 30 = .ok (.iload_n 1, 1) := by decide +kernel
theorem dX7_would_31 : decode cX7_would 31 = .ok (.iload_n 2, 1) := by decide +kernel
theorem dX7_would_32 : decode cX7_would 32 = .ok (.invokevirtual 77, 3) := by decide +kernel
theorem dX7_would_35 : decode cX7_would 35 = .ok (.istore 4, 2) := by decide +kernel
theorem dX7_would_37 : decode cX7_would 37 = .ok (.iload_n 3, 1) := by decide +kernel
theorem dX7_would_38 : decode cX7_would 38 = .ok (.ifCond .ne 8, 3) := by decide +kernel
theorem dX7_would_41 : decode cX7_would 41 = .ok (.iload 4, 2) := by decide +kernel
theorem dX7_would_43 : decode cX7_would 43 = .ok (.goto 19, 3) := by decide +kernel
theorem dX7_would_46 : decode cX7_would 46 = .ok (.iload 4, 2) := by decide +kernel
theorem dX7_would_48 : decode cX7_would 48 = .ok (.ifCond .ne 8, 3) := by decide +kernel
theorem dX7_would_51 : decode cX7_would 51 = .ok (.ldc 121, 2) := by decide +kernel
theorem dX7_would_53 : decode cX7_would 53 = .ok (.goto 9, 3) := by decide +kernel
theorem dX7_would_56 : decode cX7_would 56 = .ok (.aload_n 0, 1) := by decide +kernel
theorem dX7_would_57 : decode cX7_would 57 = .ok (.iload_n 1, 1) := by decide +kernel
theorem dX7_would_58 : decode cX7_would 58 = .ok (.iload_n 2, 1) := by decide +kernel
theorem dX7_would_59 : decode cX7_would 59 = .ok (.invokevirtual 87, 3) := by decide +kernel
theorem dX7_would_62 : decode cX7_would 62 = .ok (.ireturn, 1) := by decide +kernel
theorem dX7_wouldDo_0 : decode cX7_wouldDo 0 = .ok (.aload_n 0, 1) := by decide +kernel
theorem dX7_wouldDo_1 : decode cX7_wouldDo 1 = .ok (.iload_n 1, 1) := by decide +kernel
theorem dX7_wouldDo_2 : decode cX7_wouldDo 2 = .ok (.iload_n 2, 1) := by decide +kernel
theorem dX7_wouldDo_3 : decode cX7_wouldDo 3 = .ok (.invokevirtual 77, 3) := by decide +kernel
theorem dX7_wouldDo_6 : decode cX7_wouldDo 6 = .ok (.aload_n 0, 1) := by decide +kernel
theorem dX7_wouldDo_7 : decode cX7_wouldDo 7 = .ok (.iload_n 1, 1) := by decide +kernel
theorem dX7_wouldDo_8 : decode cX7_wouldDo 8 = .ok (.iconst 1, 1) := by decide +kernel
theorem dX7_wouldDo_9 : decode cX7_wouldDo 9 = .ok (.invokevirtual 34, 3) := by decide +kernel
theorem dX7_wouldDo_12 : decode cX7_wouldDo 12 = .ok (.if_icmp .lt 7, 3) := by decide +kernel
theorem dX7_wouldDo_15 : decode cX7_wouldDo 15 = .ok (.iconst 1, 1) := by decide +kernel
theorem dX7_wouldDo_16 : decode cX7_wouldDo 16 = .ok (.goto 4, 3) := by decide +kernel
theorem dX7_wouldDo_19 : decode cX7_wouldDo 19 = .ok (.iconst 0, 1) := by decide +kernel
theorem dX7_wouldDo_20 : decode cX7_wouldDo 20 = .ok (.ireturn, 1) := by decide +kernel
theorem dX7_better_0 : decode cX7_better 0 = .ok (.aload_n 0, 1) := by decide +kernel
theorem dX7_better_1 : decode cX7_better 1 = .ok (.iload_n 1, 1) := by decide +kernel
theorem dX7_better_2 : decode cX7_better 2 = .ok (.invokevirtual 67, 3) := by decide +kernel
theorem dX7_better_5 : decode cX7_better 5 = .ok (.ifCond .ne 6, 3) := by decide +kernel
theorem dX7_better_8 : decode cX7_better 8 = .ok (.ldc 22, 2) := by decide +kernel
theorem dX7_better_10 : decode cX7_better 10 = .ok (.ireturn, 1) := by decide +kernel
theorem dX7_better_11 : decode cX7_better 11 = .ok (.aload_n 0, 1) := by decide +kernel
theorem dX7_better_12 : decode cX7_better 12 = .ok (.iload_n 1, 1) := by decide +kernel
theorem dX7_better_13 : decode cX7_better 13 = .ok (.iconst 0, 1) := by decide +kernel
theorem dX7_better_14 : decode cX7_better 14 = .ok (.invokevirtual 122, 3) := by decide +kernel
theorem dX7_better_17 : decode cX7_better 17 = .ok (.istore_n 2, 1) := by decide +kernel
theorem dX7_better_18 : decode cX7_better 18 = .ok (.aload_n 0, 1) := by decide +kernel
theorem dX7_better_19 : decode cX7_better 19 = .ok (.iload_n 1, 1) := by decide +kernel
theorem dX7_better_20 : decode cX7_better 20 = .ok (.iconst 1, 1) := by decide +kernel
theorem dX7_better_21 : decode cX7_better 21 = .ok (.invokevirtual 122, 3) := by decide +kernel
theorem dX7_better_24 : decode cX7_better 24 = .ok (.istore_n 3, 1) := by decide +kernel
theorem dX7_better_25 : decode cX7_better 25 = .ok (.iload_n 2, 1) := by decide +kernel
theorem dX7_better_26 : decode cX7_better 26 = .ok (.ifCond .eq 7, 3) := by decide +kernel
theorem dX7_better_29 : decode cX7_better 29 = .ok (.iload_n 3, 1) := by decide +kernel
theorem dX7_better_30 : decode cX7_better 30 = .ok (.ifCond .ne 22, 3) := by decide +kernel
theorem dX7_better_33 : decode cX7_better 33 = .ok (.iload_n 2, 1) := by decide +kernel
theorem dX7_better_34 : decode cX7_better 34 = .ok (.ifCond .eq 7, 3) := by decide +kernel
theorem dX7_better_37 : decode cX7_better 37 = .ok (.iconst 0, 1) := by decide +kernel
theorem dX7_better_38 : decode cX7_better 38 = .ok (.goto 13, 3) := by decide +kernel
theorem dX7_better_41 : decode cX7_better 41 = .ok (.iload_n 3, 1) := by decide +kernel
theorem dX7_better_42 : decode cX7_better 42 = .ok (.ifCond .eq 7, 3) := by decide +kernel
theorem dX7_better_45 : decode cX7_better 45 = .ok (.iconst 1, 1) := by decide +kernel
theorem dX7_better_46 : decode cX7_better 46 = .ok (.goto 5, 3) := by decide +kernel
theorem dX7_better_49 : decode cX7_better 49 = .ok (.ldc 121, 2) := by decide +kernel
theorem dX7_better_51 : decode cX7_better 51 = .ok (.ireturn, 1) := by decide +kernel
theorem dX7_better_52 : decode cX7_better 52 = .ok (.aload_n 0, 1) := by decide +kernel
theorem dX7_better_53 : decode cX7_better 53 = .ok (.iload_n 1, 1) := by decide +kernel
theorem dX7_better_54 : decode cX7_better 54 = .ok (.iconst 1, 1) := by decide +kernel
theorem dX7_better_55 : decode cX7_better 55 = .ok (.invokevirtual 87, 3) := by decide +kernel
theorem dX7_better_58 : decode cX7_better 58 = .ok (.aload_n 0, 1) := by decide +kernel
theorem dX7_better_59 : decode cX7_better 59 = .ok (.iload_n 1, 1) := by decide +kernel
theorem dX7_better_60 : decode cX7_better 60 = .ok (.iconst 0, 1) := by decide +kernel
theorem dX7_better_61 : decode cX7_better 61 = .ok (.invokevirtual 87, 3) := by decide +kernel
theorem dX7_better_64 : decode cX7_better 64 = .ok (.isub, 1) := by decide +kernel
theorem dX7_better_65 : decode cX7_better 65 = .ok (.istore 4, 2) := by decide +kernel
theorem dX7_better_67 : decode cX7_better 67 = .ok (.aload_n 0, 1) := by decide +kernel
theorem dX7_better_68 : decode cX7_better 68 = .ok (.iload_n 1, 1) := by decide +kernel
theorem dX7_better_69 : decode cX7_better 69 = .ok (.iconst 1, 1) := by decide +kernel
theorem dX7_better_70 : decode cX7_better 70 = .ok (.invokevirtual 77, 3) := by decide +kernel
theorem dX7_better_73 : decode cX7_better 73 = .ok (.aload_n 0, 1) := by decide +kernel
theorem dX7_better_74 : decode cX7_better 74 = .ok (.iload_n 1, 1) := by decide +kernel
theorem dX7_better_75 : decode cX7_better 75 = .ok (.iconst 0, 1) := by decide +kernel
theorem dX7_better_76 : decode cX7_better 76 = .ok (.invokevirtual 77, 3) := by decide +kernel
theorem dX7_better_79 : decode cX7_better 79 = .ok (.isub, 1) := by decide +kernel
theorem dX7_better_80 : decode cX7_better 80 = .ok (.istore 5, 2) := by decide +kernel
theorem dX7_better_82 : decode cX7_better 82 = .ok (.iload 4, 2) := by decide +kernel
theorem dX7_better_84 : decode cX7_better 84 = .ok (.ifCond .gt 13, 3) := by decide +kernel
theorem dX7_better_87 : decode cX7_better 87 = .ok (.iload 4, 2) := by decide +kernel
theorem dX7_better_89 : decode cX7_better 89 = .ok (.ifCond .ne 12, 3) := by decide +kernel
theorem dX7_better_92 : decode cX7_better 92 = .ok (.iload 5, 2) := by decide +kernel
theorem dX7_better_94 : decode cX7_better 94 = .ok (.ifCond .le 7, 3) := by decide +kernel
theorem dX7_better_97 : decode cX7_better 97 = .ok (.iconst 1, 1) := by decide +kernel
theorem dX7_better_98 : decode cX7_better 98 = .ok (.goto 4, 3) := by decide +kernel
theorem dX7_better_101 : decode cX7_better 101 = .ok (.iconst 0, 1) := by decide +kernel
theorem dX7_better_102 : decode cX7_better 102 = .ok (.ireturn, 1) := by decide +kernel
theorem dX7_first_0 : decode cX7_first 0 = .ok (.iload_n 1, 1) := by decide +kernel
theorem dX7_first_1 : decode cX7_first 1 = .ok (.iconst 0, 1) := by decide +kernel
theorem dX7_first_2 : decode cX7_first 2 = .ok (.iconst 1, 1) := by decide +kernel
theorem dX7_first_3 : decode cX7_first 3 = .ok (.invokestatic 30, 3) := by decide +kernel
theorem dX7_first_6 : decode cX7_first 6 = .ok (.ifCond .ne 6, 3) := by decide +kernel
theorem dX7_first_9 : decode cX7_first 9 = .ok (.ldc 22, 2) := by decide +kernel
theorem dX7_first_11 : decode cX7_first 11 = .ok (.ireturn, 1) := by decide +kernel
theorem dX7_first_12 : decode cX7_first 12 = .ok (.iconst (-1), 1) := by decide +kernel
theorem dX7_first_13 : decode cX7_first 13 = .ok (.istore_n 2, 1) := by decide +kernel
theorem dX7_first_14 : decode cX7_first 14 = .ok (.iconst 0, 1) := by decide +kernel
theorem dX7_first_15 : decode cX7_first 15 = .ok (.istore_n 3, 1) := by decide +kernel
theorem dX7_first_16 : decode cX7_first 16 = .ok (.iload_n 3, 1) := by decide +kernel
theorem dX7_first_17 : decode cX7_first 17 = .ok (.aload_n 0, 1) := by decide +kernel
theorem dX7_first_18 : decode cX7_first 18 = .ok (.getfield 7, 3) := by decide +kernel
theorem dX7_first_21 : decode cX7_first 21 = .ok (.iconst 0, 1) := by decide +kernel
theorem dX7_first_22 : decode cX7_first 22 = .ok (.iaload, 1) := by decide +kernel
theorem dX7_first_23 : decode cX7_first 23 = .ok (.if_icmp .ge 58, 3) := by decide +kernel
theorem dX7_first_26 : decode cX7_first 26 = .ok (.aload_n 0, 1) := by decide +kernel
theorem dX7_first_27 : decode cX7_first 27 = .ok (.iload_n 3, 1) := by decide +kernel
theorem dX7_first_28 : decode cX7_first 28 = .ok (.iconst 3, 1) := by decide +kernel
theorem dX7_first_29 : decode cX7_first 29 = .ok (.invokevirtual 34, 3) := by decide +kernel
theorem dX7_first_32 : decode cX7_first 32 = .ok (.iconst 1, 1) := by decide +kernel
theorem dX7_first_33 : decode cX7_first 33 = .ok (.if_icmp .ne 7, 3) := by decide +kernel
theorem dX7_first_36 : decode cX7_first 36 = .ok (.iconst 1, 1) := by decide +kernel
theorem dX7_first_37 : decode cX7_first 37 = .ok (.goto 4, 3) := by decide +kernel
theorem dX7_first_40 : decode cX7_first 40 = .ok (.iconst 0, 1) := by decide +kernel
theorem dX7_first_41 : decode cX7_first 41 = .ok (.istore 4, 2) := by decide +kernel
theorem dX7_first_43 : decode cX7_first 43 = .ok (.iload 4, 2) := by decide +kernel
theorem dX7_first_45 : decode cX7_first 45 = .ok (.ifCond .eq 28, 3) := by decide +kernel
theorem dX7_first_48 : decode cX7_first 48 = .ok (.iload_n 2, 1) := by decide +kernel
theorem dX7_first_49 : decode cX7_first 49 = .ok (.ifCond .lt 20, 3) := by decide +kernel
theorem dX7_first_52 : decode cX7_first 52 = .ok (.aload_n 0, 1) := by decide +kernel
theorem dX7_first_53 : decode cX7_first 53 = .ok (.iload_n 3, 1) := by decide +kernel
theorem dX7_first_54 : decode cX7_first 54 = .ok (.bipush 11, 2) := by decide +kernel
theorem dX7_first_56 : decode cX7_first 56 = .ok (.invokevirtual 34, 3) := by decide +kernel
theorem dX7_first_59 : decode cX7_first 59 = .ok (.aload_n 0, 1) := by decide +kernel
theorem dX7_first_60 : decode cX7_first 60 = .ok (.iload_n 2, 1) := by decide +kernel
theorem dX7_first_61 : decode cX7_first 61 = .ok (.bipush 11, 2) := by decide +kernel
theorem dX7_first_63 : decode cX7_first 63 = .ok (.invokevirtual 34, 3) := by decide +kernel
theorem dX7_first_66 : decode cX7_first 66 = .ok (.if_icmp .ge 7, 3) := by decide +kernel
theorem dX7_first_69 : decode cX7_first 69 = .ok (.iload_n 3, 1) := by decide +kernel
theorem dX7_first_70 : decode cX7_first 70 = .ok (.goto 4, 3) := by decide +kernel
theorem dX7_first_73 : decode cX7_first 73 = .ok (.iload_n 2, 1) := by decide +kernel
theorem dX7_first_74 : decode cX7_first 74 = .ok (.istore_n 2, 1) := by decide +kernel
theorem dX7_first_75 : decode cX7_first 75 = .ok (.iinc 3 1, 3) := by decide +kernel
theorem dX7_first_78 : decode cX7_first 78 = .ok (.goto (-62), 3) := by decide +kernel
theorem dX7_first_81 : decode cX7_first 81 = .ok (.iload_n 2, 1) := by decide +kernel
theorem dX7_first_82 : decode cX7_first 82 = .ok (.ifCond .ge 8, 3) := by decide +kernel
theorem dX7_first_85 : decode cX7_first 85 = .ok (.ldc 121, 2) := by decide +kernel
theorem dX7_first_87 : decode cX7_first 87 = .ok (.goto 18, 3) := by decide +kernel
theorem dX7_first_90 : decode cX7_first 90 = .ok (.iload_n 1, 1) := by decide +kernel
theorem dX7_first_91 : decode cX7_first 91 = .ok (.ifCond .ne 7, 3) := by decide +kernel
theorem dX7_first_94 : decode cX7_first 94 = .ok (.iload_n 2, 1) := by decide +kernel
theorem dX7_first_95 : decode cX7_first 95 = .ok (.goto 10, 3) := by decide +kernel
theorem dX7_first_98 : decode cX7_first 98 = .ok (.aload_n 0, 1) := by decide +kernel
theorem dX7_first_99 : decode cX7_first 99 = .ok (.iload_n 2, 1) := by decide +kernel
theorem dX7_first_100 : decode cX7_first 100 = .ok (.bipush 11, 2) := by decide +kernel
theorem dX7_first_102 : decode cX7_first 102 = .ok (.invokevirtual 34, 3) := by decide +kernel
theorem dX7_first_105 : decode cX7_first 105 = .ok (.ireturn, 1) := by decide +kernel
theorem dX7_goesOn_0 : decode cX7_goesOn 0 = .ok (.aload_n 0, 1) := by decide +kernel
theorem dX7_goesOn_1 : decode cX7_goesOn 1 = .ok (.iload_n 1, 1) := by decide +kernel
theorem dX7_goesOn_2 : decode cX7_goesOn 2 = .ok (.invokevirtual 67, 3) := by decide +kernel
theorem dX7_goesOn_5 : decode cX7_goesOn 5 = .ok (.ifCond .ne 6, 3) := by decide +kernel
theorem dX7_goesOn_8 : decode cX7_goesOn 8 = .ok (.ldc 22, 2) := by decide +kernel
theorem dX7_goesOn_10 : decode cX7_goesOn 10 = .ok (.ireturn, 1) := by decide +kernel
theorem dX7_goesOn_11 : decode cX7_goesOn 11 = .ok (.aload_n 0, 1) := by decide +kernel
theorem dX7_goesOn_12 : decode cX7_goesOn 12 = .ok (.iload_n 1, 1) := by decide +kernel
theorem dX7_goesOn_13 : decode cX7_goesOn 13 = .ok (.iconst 3, 1) := by decide +kernel
theorem dX7_goesOn_14 : decode cX7_goesOn 14 = .ok (.invokevirtual 34, 3) := by decide +kernel
theorem dX7_goesOn_17 : decode cX7_goesOn 17 = .ok (.iconst 1, 1) := by decide +kernel
theorem dX7_goesOn_18 : decode cX7_goesOn 18 = .ok (.if_icmp .eq 6, 3) := by decide +kernel
theorem dX7_goesOn_21 : decode cX7_goesOn 21 = .ok (.ldc 76, 2) := by decide +kernel
theorem dX7_goesOn_23 : decode cX7_goesOn 23 = .ok (.ireturn, 1) := by decide +kernel
theorem dX7_goesOn_24 : decode cX7_goesOn 24 = .ok (.aload_n 0, 1) := by decide +kernel
theorem dX7_goesOn_25 : decode cX7_goesOn 25 = .ok (.iload_n 1, 1) := by decide +kernel
theorem dX7_goesOn_26 : decode cX7_goesOn 26 = .ok (.bipush 11, 2) := by decide +kernel
theorem dX7_goesOn_28 : decode cX7_goesOn 28 = .ok (.invokevirtual 34, 3) := by decide +kernel
theorem dX7_goesOn_31 : decode cX7_goesOn 31 = .ok (.iconst 1, 1) := by decide +kernel
theorem dX7_goesOn_32 : decode cX7_goesOn 32 = .ok (.iadd, 1) := by decide +kernel
theorem dX7_goesOn_33 : decode cX7_goesOn 33 = .ok (.istore_n 2, 1) := by decide +kernel
theorem dX7_goesOn_34 : decode cX7_goesOn 34 = .ok (.aload_n 0, 1) := by decide +kernel
theorem dX7_goesOn_35 : decode cX7_goesOn 35 = .ok (.iload_n 1, 1) := by decide +kernel
theorem dX7_goesOn_36 : decode cX7_goesOn 36 = .ok (.bipush 7, 2) := by decide +kernel
theorem dX7_goesOn_38 : decode cX7_goesOn 38 = .ok (.invokevirtual 34, 3) := by decide +kernel
theorem dX7_goesOn_41 : decode cX7_goesOn 41 = .ok (.ifCond .lt 18, 3) := by decide +kernel
theorem dX7_goesOn_44 : decode cX7_goesOn 44 = .ok (.aload_n 0, 1) := by decide +kernel
theorem dX7_goesOn_45 : decode cX7_goesOn 45 = .ok (.iload_n 1, 1) := by decide +kernel
theorem dX7_goesOn_46 : decode cX7_goesOn 46 = .ok (.bipush 7, 2) := by decide +kernel
theorem dX7_goesOn_48 : decode cX7_goesOn 48 = .ok (.invokevirtual 34, 3) := by decide +kernel
theorem dX7_goesOn_51 : decode cX7_goesOn 51 = .ok (.iload_n 2, 1) := by decide +kernel
theorem dX7_goesOn_52 : decode cX7_goesOn 52 = .ok (.if_icmp .ge 7, 3) := by decide +kernel
theorem dX7_goesOn_55 : decode cX7_goesOn 55 = .ok (.iconst 1, 1) := by decide +kernel
theorem dX7_goesOn_56 : decode cX7_goesOn 56 = .ok (.goto 4, 3) := by decide +kernel
theorem dX7_goesOn_59 : decode cX7_goesOn 59 = .ok (.iconst 0, 1) := by decide +kernel
theorem dX7_goesOn_60 : decode cX7_goesOn 60 = .ok (.istore_n 3, 1) := by decide +kernel
theorem dX7_goesOn_61 : decode cX7_goesOn 61 = .ok (.iload_n 3, 1) := by decide +kernel
theorem dX7_goesOn_62 : decode cX7_goesOn 62 = .ok (.ifCond .eq 13, 3) := by decide +kernel
theorem dX7_goesOn_65 : decode cX7_goesOn 65 = .ok (.aload_n 0, 1) := by decide +kernel
theorem dX7_goesOn_66 : decode cX7_goesOn 66 = .ok (.iload_n 1, 1) := by decide +kernel
theorem dX7_goesOn_67 : decode cX7_goesOn 67 = .ok (.bipush 7, 2) := by decide +kernel
theorem dX7_goesOn_69 : decode cX7_goesOn 69 = .ok (.invokevirtual 34, 3) := by decide +kernel
theorem dX7_goesOn_72 : decode cX7_goesOn 72 = .ok (.goto 4, 3) := by decide +kernel
theorem dX7_goesOn_75 : decode cX7_goesOn 75 = .ok (.iload_n 2, 1) := by decide +kernel
theorem dX7_goesOn_76 : decode cX7_goesOn 76 = .ok (.aload_n 0, 1) := by decide +kernel
theorem dX7_goesOn_77 : decode cX7_goesOn 77 = .ok (.getfield 7, 3) := by decide +kernel
theorem dX7_goesOn_80 : decode cX7_goesOn 80 = .ok (.iconst 2, 1) := by decide +kernel
theorem dX7_goesOn_81 : decode cX7_goesOn 81 = .ok (.iaload, 1) := by decide +kernel
theorem dX7_goesOn_82 : decode cX7_goesOn 82 = .ok (.isub, 1) := by decide +kernel
theorem dX7_goesOn_83 : decode cX7_goesOn 83 = .ok (.ireturn, 1) := by decide +kernel
theorem dX7_share_0 : decode cX7_share 0 = .ok (.aload_n 0, 1) := by decide +kernel
theorem dX7_share_1 : decode cX7_share 1 = .ok (.iload_n 1, 1) := by decide +kernel
theorem dX7_share_2 : decode cX7_share 2 = .ok (.invokevirtual 67, 3) := by decide +kernel
theorem dX7_share_5 : decode cX7_share 5 = .ok (.ifCond .ne 6, 3) := by decide +kernel
theorem dX7_share_8 : decode cX7_share 8 = .ok (.ldc 22, 2) := by decide +kernel
theorem dX7_share_10 : decode cX7_share 10 = .ok (.ireturn, 1) := by decide +kernel
theorem dX7_share_11 : decode cX7_share 11 = .ok (.aload_n 0, 1) := by decide +kernel
theorem dX7_share_12 : decode cX7_share 12 = .ok (.iload_n 1, 1) := by decide +kernel
theorem dX7_share_13 : decode cX7_share 13 = .ok (.invokevirtual 38, 3) := by decide +kernel
theorem dX7_share_16 : decode cX7_share 16 = .ok (.i2f, 1) := by decide +kernel
theorem dX7_share_17 : decode cX7_share 17 = .ok (.fstore_n 2, 1) := by decide +kernel
theorem dX7_share_18 : decode cX7_share 18 = .ok (.aload_n 0, 1) := by decide +kernel
theorem dX7_share_19 : decode cX7_share 19 = .ok (.iload_n 1, 1) := by decide +kernel
theorem dX7_share_20 : decode cX7_share 20 = .ok (.iconst 0, 1) := by decide +kernel
theorem dX7_share_21 : decode cX7_share 21 = .ok (.invokevirtual 34, 3) := by decide +kernel
theorem dX7_share_24 : decode cX7_share 24 = .ok (.i2f, 1) := by decide +kernel
theorem dX7_share_25 : decode cX7_share 25 = .ok (.fstore_n 3, 1) := by decide +kernel
theorem dX7_share_26 : decode cX7_share 26 = .ok (.fload_n 2, 1) := by decide +kernel
theorem dX7_share_27 : decode cX7_share 27 = .ok (.fload_n 3, 1) := by decide +kernel
theorem dX7_share_28 : decode cX7_share 28 = .ok (.fdiv, 1) := by decide +kernel
theorem dX7_share_29 : decode cX7_share 29 = .ok (.invokestatic 126, 3) := by decide +kernel
theorem dX7_share_32 : decode cX7_share 32 = .ok (.ireturn, 1) := by decide +kernel
theorem dX7_set0_0 : decode cX7_set0 0 = .ok (.iconst 0, 1) := by decide +kernel
theorem dX7_set0_1 : decode cX7_set0 1 = .ok (.istore_n 2, 1) := by decide +kernel
theorem dX7_set0_2 : decode cX7_set0 2 = .ok (.iconst 0, 1) := by decide +kernel
theorem dX7_set0_3 : decode cX7_set0 3 = .ok (.istore_n 3, 1) := by decide +kernel
theorem dX7_set0_4 : decode cX7_set0 4 = .ok (.iload_n 3, 1) := by decide +kernel
theorem dX7_set0_5 : decode cX7_set0 5 = .ok (.aload_n 0, 1) := by decide +kernel
theorem dX7_set0_6 : decode cX7_set0 6 = .ok (.getfield 7, 3) := by decide +kernel
theorem dX7_set0_9 : decode cX7_set0 9 = .ok (.iconst 0, 1) := by decide +kernel
theorem dX7_set0_10 : decode cX7_set0 10 = .ok (.iaload, 1) := by decide +kernel
theorem dX7_set0_11 : decode cX7_set0 11 = .ok (.if_icmp .ge 123, 3) := by decide +kernel
theorem dX7_set0_14 : decode cX7_set0 14 = .ok (.iload_n 1, 1) := by decide +kernel
theorem dX7_set0_15 : decode cX7_set0 15 = .ok (.iconst 3, 1) := by decide +kernel
theorem dX7_set0_16 : decode cX7_set0 16 = .ok (.if_icmp .ne 21, 3) := by decide +kernel
theorem dX7_set0_19 : decode cX7_set0 19 = .ok (.aload_n 0, 1) := by decide +kernel
theorem dX7_set0_20 : decode cX7_set0 20 = .ok (.iload_n 3, 1) := by decide +kernel
theorem dX7_set0_21 : decode cX7_set0 21 = .ok (.iconst 3, 1) := by decide +kernel
theorem dX7_set0_22 : decode cX7_set0 22 = .ok (.invokevirtual 34, 3) := by decide +kernel
theorem dX7_set0_25 : decode cX7_set0 25 = .ok (.iconst 1, 1) := by decide +kernel
theorem dX7_set0_26 : decode cX7_set0 26 = .ok (.if_icmp .ne 7, 3) := by decide +kernel
theorem dX7_set0_29 : decode cX7_set0 29 = .ok (.iconst 1, 1) := by decide +kernel
theorem dX7_set0_30 : decode cX7_set0 30 = .ok (.goto 81, 3) := by decide +kernel
theorem dX7_set0_33 : decode cX7_set0 33 = .ok (.iconst 0, 1) := by decide +kernel
theorem dX7_set0_34 : decode cX7_set0 34 = .ok (.goto 77, 3) := by decide +kernel
theorem dX7_set0_37 : decode cX7_set0 37 = .ok (.iload_n 1, 1) := by decide +kernel
theorem dX7_set0_38 : decode cX7_set0 38 = .ok (.iconst 4, 1) := by decide +kernel
theorem dX7_set0_39 : decode cX7_set0 39 = .ok (.if_icmp .ne 21, 3) := by decide +kernel
theorem dX7_set0_42 : decode cX7_set0 42 = .ok (.aload_n 0, 1) := by decide +kernel
theorem dX7_set0_43 : decode cX7_set0 43 = .ok (.iload_n 3, 1) := by decide +kernel
theorem dX7_set0_44 : decode cX7_set0 44 = .ok (.iconst 3, 1) := by decide +kernel
theorem dX7_set0_45 : decode cX7_set0 45 = .ok (.invokevirtual 34, 3) := by decide +kernel
theorem dX7_set0_48 : decode cX7_set0 48 = .ok (.iconst 2, 1) := by decide +kernel
theorem dX7_set0_49 : decode cX7_set0 49 = .ok (.if_icmp .ne 7, 3) := by decide +kernel
theorem dX7_set0_52 : decode cX7_set0 52 = .ok (.iconst 1, 1) := by decide +kernel
theorem dX7_set0_53 : decode cX7_set0 53 = .ok (.goto 58, 3) := by decide +kernel
theorem dX7_set0_56 : decode cX7_set0 56 = .ok (.iconst 0, 1) := by decide +kernel
theorem dX7_set0_57 : decode cX7_set0 57 = .ok (.goto 54, 3) := by decide +kernel
theorem dX7_set0_60 : decode cX7_set0 60 = .ok (.iload_n 1, 1) := by decide +kernel
theorem dX7_set0_61 : decode cX7_set0 61 = .ok (.iconst 5, 1) := by decide +kernel
theorem dX7_set0_62 : decode cX7_set0 62 = .ok (.if_icmp .ne 22, 3) := by decide +kernel
theorem dX7_set0_65 : decode cX7_set0 65 = .ok (.aload_n 0, 1) := by decide +kernel
theorem dX7_set0_66 : decode cX7_set0 66 = .ok (.iload_n 3, 1) := by decide +kernel
theorem dX7_set0_67 : decode cX7_set0 67 = .ok (.bipush 6, 2) := by decide +kernel
theorem dX7_set0_69 : decode cX7_set0 69 = .ok (.invokevirtual 34, 3) := by decide +kernel
theorem dX7_set0_72 : decode cX7_set0 72 = .ok (.iconst 1, 1) := by decide +kernel
theorem dX7_set0_73 : decode cX7_set0 73 = .ok (.if_icmp .ne 7, 3) := by decide +kernel
theorem dX7_set0_76 : decode cX7_set0 76 = .ok (.iconst 1, 1) := by decide +kernel
theorem dX7_set0_77 : decode cX7_set0 77 = .ok (.goto 34, 3) := by decide +kernel
theorem dX7_set0_80 : decode cX7_set0 80 = .ok (.iconst 0, 1) := by decide +kernel
theorem dX7_set0_81 : decode cX7_set0 81 = .ok (.goto 30, 3) := by decide +kernel
theorem dX7_set0_84 : decode cX7_set0 84 = .ok (.iload_n 1, 1) := by decide +kernel
theorem dX7_set0_85 : decode cX7_set0 85 = .ok (.bipush 6, 2) := by decide +kernel
theorem dX7_set0_87 : decode cX7_set0 87 = .ok (.if_icmp .ne 11, 3) := by decide +kernel
theorem dX7_set0_90 : decode cX7_set0 90 = .ok (.aload_n 0, 1) := by decide +kernel
theorem dX7_set0_91 : decode cX7_set0 91 = .ok (.iload_n 3, 1) := by decide +kernel
theorem dX7_set0_92 : decode cX7_set0 92 = .ok (.invokevirtual 46, 3) := by decide +kernel
theorem dX7_set0_95 : decode cX7_set0 95 = .ok (.goto 16, 3) := by decide +kernel
theorem dX7_set0_98 : decode cX7_set0 98 = .ok (.aload_n 0, 1) := by decide +kernel
theorem dX7_set0_99 : decode cX7_set0 99 = .ok (.iload_n 3, 1) := by decide +kernel
theorem dX7_set0_100 : decode cX7_set0 100 = .ok (.invokevirtual 90, 3) := by decide +kernel
theorem dX7_set0_103 : decode cX7_set0 103 = .ok (.ifCond .ne 7, 3) := by decide +kernel
theorem dX7_set0_106 : decode cX7_set0 106 = .ok (.iconst 1, 1) := by decide +kernel
theorem dX7_set0_107 : decode cX7_set0 107 = .ok (.goto 4, 3) := by decide +kernel
theorem dX7_set0_110 : decode cX7_set0 110 = .ok (.iconst 0, 1) := by decide +kernel
theorem dX7_set0_111 : decode cX7_set0 111 = .ok (.istore 4, 2) := by decide +kernel
theorem dX7_set0_113 : decode cX7_set0 113 = .ok (.iload_n 2, 1) := by decide +kernel
theorem dX7_set0_114 : decode cX7_set0 114 = .ok (.iload 4, 2) := by decide +kernel
theorem dX7_set0_116 : decode cX7_set0 116 = .ok (.ifCond .eq 9, 3) := by decide +kernel
theorem dX7_set0_119 : decode cX7_set0 119 = .ok (.iconst 1, 1) := by decide +kernel
theorem dX7_set0_120 : decode cX7_set0 120 = .ok (.iload_n 3, 1) := by decide +kernel
theorem dX7_set0_121 : decode cX7_set0 121 = .ok (.ishl, 1) := by decide +kernel
theorem dX7_set0_122 : decode cX7_set0 122 = .ok (.goto 4, 3) := by decide +kernel
theorem dX7_set0_125 : decode cX7_set0 125 = .ok (.iconst 0, 1) := by decide +kernel
theorem dX7_set0_126 : decode cX7_set0 126 = .ok (.ior, 1) := by decide +kernel
theorem dX7_set0_127 : decode cX7_set0 127 = .ok (.istore_n 2, 1) := by decide +kernel
theorem dX7_set0_128 : decode cX7_set0 128 = .ok (.iinc 3 1, 3) := by decide +kernel
theorem dX7_set0_131 : decode cX7_set0 131 = .ok (.goto (-127), 3) := by decide +kernel
theorem dX7_set0_134 : decode cX7_set0 134 = .ok (.iload_n 2, 1) := by decide +kernel
theorem dX7_set0_135 : decode cX7_set0 135 = .ok (.ireturn, 1) := by decide +kernel
theorem dX7_count_0 : decode cX7_count 0 = .ok (.iload_n 1, 1) := by decide +kernel
theorem dX7_count_1 : decode cX7_count 1 = .ok (.tableswitch 159 0 14 #[75, 75, 75, 82, 82, 82, 82, 88, 120, 127, 135, 142, 82, 149, 154], 75) := by decide +kernel
theorem dX7_count_76 : decode cX7_count 76 = .ok (.aload_n 0, 1) := by decide +kernel
theorem dX7_count_77 : decode cX7_count 77 = .ok (.getfield 7, 3) := by decide +kernel
theorem dX7_count_80 : decode cX7_count 80 = .ok (.iload_n 1, 1) := by decide +kernel
theorem dX7_count_81 : decode cX7_count 81 = .ok (.iaload, 1) := by decide +kernel
theorem dX7_count_82 : decode cX7_count 82 = .ok (.ireturn, 1) := by decide +kernel
theorem dX7_count_83 : decode cX7_count 83 = .ok (.aload_n 0, 1) := by decide +kernel
theorem dX7_count_84 : decode cX7_count 84 = .ok (.iload_n 1, 1) := by decide +kernel
theorem dX7_count_85 : decode cX7_count 85 = .ok (.invokevirtual 132, 3) := by decide +kernel
theorem dX7_count_88 : decode cX7_count 88 = .ok (.ireturn, 1) := by decide +kernel
theorem dX7_count_89 : decode cX7_count 89 = .ok (.aload_n 0, 1) := by decide +kernel
theorem dX7_count_90 : decode cX7_count 90 = .ok (.getfield 7, 3) := by decide +kernel
theorem dX7_count_93 : decode cX7_count 93 = .ok (.bipush 11, 2) := by decide +kernel
theorem dX7_count_95 : decode cX7_count 95 = .ok (.iaload, 1) := by decide +kernel
theorem dX7_count_96 : decode cX7_count 96 = .ok (.aload_n 0, 1) := by decide +kernel
theorem dX7_count_97 : decode cX7_count 97 = .ok (.getfield 7, 3) := by decide +kernel
theorem dX7_count_100 : decode cX7_count 100 = .ok (.bipush 12, 2) := by decide +kernel
theorem dX7_count_102 : decode cX7_count 102 = .ok (.iaload, 1) := by decide +kernel
theorem dX7_count_103 : decode cX7_count 103 = .ok (.iadd, 1) := by decide +kernel
theorem dX7_count_104 : decode cX7_count 104 = .ok (.aload_n 0, 1) := by decide +kernel
theorem dX7_count_105 : decode cX7_count 105 = .ok (.getfield 7, 3) := by decide +kernel
theorem dX7_count_108 : decode cX7_count 108 = .ok (.bipush 13, 2) := by decide +kernel
theorem dX7_count_110 : decode cX7_count 110 = .ok (.iaload, 1) := by decide +kernel
theorem dX7_count_111 : decode cX7_count 111 = .ok (.iadd, 1) := by decide +kernel
theorem dX7_count_112 : decode cX7_count 112 = .ok (.aload_n 0, 1) := by decide +kernel
theorem dX7_count_113 : decode cX7_count 113 = .ok (.getfield 7, 3) := by decide +kernel
theorem dX7_count_116 : decode cX7_count 116 = .ok (.bipush 14, 2) := by decide +kernel
theorem dX7_count_118 : decode cX7_count 118 = .ok (.iaload, 1) := by decide +kernel
theorem dX7_count_119 : decode cX7_count 119 = .ok (.iadd, 1) := by decide +kernel
theorem dX7_count_120 : decode cX7_count 120 = .ok (.ireturn, 1) := by decide +kernel
theorem dX7_count_121 : decode cX7_count 121 = .ok (.aload_n 0, 1) := by decide +kernel
theorem dX7_count_122 : decode cX7_count 122 = .ok (.getfield 7, 3) := by decide +kernel
theorem dX7_count_125 : decode cX7_count 125 = .ok (.iconst 5, 1) := by decide +kernel
theorem dX7_count_126 : decode cX7_count 126 = .ok (.iaload, 1) := by decide +kernel
theorem dX7_count_127 : decode cX7_count 127 = .ok (.ireturn, 1) := by decide +kernel
theorem dX7_count_128 : decode cX7_count 128 = .ok (.aload_n 0, 1) := by decide +kernel
theorem dX7_count_129 : decode cX7_count 129 = .ok (.getfield 7, 3) := by decide +kernel
theorem dX7_count_132 : decode cX7_count 132 = .ok (.bipush 6, 2) := by decide +kernel
theorem dX7_count_134 : decode cX7_count 134 = .ok (.iaload, 1) := by decide +kernel
theorem dX7_count_135 : decode cX7_count 135 = .ok (.ireturn, 1) := by decide +kernel
theorem dX7_count_136 : decode cX7_count 136 = .ok (.aload_n 0, 1) := by decide +kernel
theorem dX7_count_137 : decode cX7_count 137 = .ok (.getfield 7, 3) := by decide +kernel
theorem dX7_count_140 : decode cX7_count 140 = .ok (.iconst 3, 1) := by decide +kernel
theorem dX7_count_141 : decode cX7_count 141 = .ok (.iaload, 1) := by decide +kernel
theorem dX7_count_142 : decode cX7_count 142 = .ok (.ireturn, 1) := by decide +kernel
theorem dX7_count_143 : decode cX7_count 143 = .ok (.aload_n 0, 1) := by decide +kernel
theorem dX7_count_144 : decode cX7_count 144 = .ok (.getfield 7, 3) := by decide +kernel
theorem dX7_count_147 : decode cX7_count 147 = .ok (.iconst 4, 1) := by decide +kernel
theorem dX7_count_148 : decode cX7_count 148 = .ok (.iaload, 1) := by decide +kernel
theorem dX7_count_149 : decode cX7_count 149 = .ok (.ireturn, 1) := by decide +kernel
theorem dX7_count_150 : decode cX7_count 150 = .ok (.aload_n 0, 1) := by decide +kernel
theorem dX7_count_151 : decode cX7_count 151 = .ok (.getfield 26, 3) := by decide +kernel
theorem dX7_count_154 : decode cX7_count 154 = .ok (.ireturn, 1) := by decide +kernel
theorem dX7_count_155 : decode cX7_count 155 = .ok (.aload_n 0, 1) := by decide +kernel
theorem dX7_count_156 : decode cX7_count 156 = .ok (.getfield 135, 3) := by decide +kernel
theorem dX7_count_159 : decode cX7_count 159 = .ok (.ireturn, 1) := by decide +kernel
theorem dX7_count_160 : decode cX7_count 160 = .ok (.iload_n 1, 1) := by decide +kernel
theorem dX7_count_161 : decode cX7_count 161 = .ok (.bipush 20, 2) := by decide +kernel
theorem dX7_count_163 : decode cX7_count 163 = .ok (.bipush 23, 2) := by decide +kernel
theorem dX7_count_165 : decode cX7_count 165 = .ok (.invokestatic 30, 3) := by decide +kernel
theorem dX7_count_168 : decode cX7_count 168 = .ok (.ifCond .eq 18, 3) := by decide +kernel
theorem dX7_count_171 : decode cX7_count 171 = .ok (.aload_n 0, 1) := by decide +kernel
theorem dX7_count_172 : decode cX7_count 172 = .ok (.getfield 7, 3) := by decide +kernel
theorem dX7_count_175 : decode cX7_count 175 = .ok (.bipush 7, 2) := by decide +kernel
theorem dX7_count_177 : decode cX7_count 177 = .ok (.iload_n 1, 1) := by decide +kernel
theorem dX7_count_178 : decode cX7_count 178 = .ok (.iadd, 1) := by decide +kernel
theorem dX7_count_179 : decode cX7_count 179 = .ok (.bipush 20, 2) := by decide +kernel
theorem dX7_count_181 : decode cX7_count 181 = .ok (.isub, 1) := by decide +kernel
theorem dX7_count_182 : decode cX7_count 182 = .ok (.iaload, 1) := by decide +kernel
theorem dX7_count_183 : decode cX7_count 183 = .ok (.goto 5, 3) := by decide +kernel
theorem dX7_count_186 : decode cX7_count 186 = .ok (.ldc 22, 2) := by decide +kernel
theorem dX7_count_188 : decode cX7_count 188 = .ok (.ireturn, 1) := by decide +kernel
theorem dX7_undo_0 : decode cX7_undo 0 = .ok (.aload_n 0, 1) := by decide +kernel
theorem dX7_undo_1 : decode cX7_undo 1 = .ok (.getfield 26, 3) := by decide +kernel
theorem dX7_undo_4 : decode cX7_undo 4 = .ok (.ifCond .ne 6, 3) := by decide +kernel
theorem dX7_undo_7 : decode cX7_undo 7 = .ok (.ldc 76, 2) := by decide +kernel
theorem dX7_undo_9 : decode cX7_undo 9 = .ok (.ireturn, 1) := by decide +kernel
theorem dX7_undo_10 : decode cX7_undo 10 = .ok (.aload_n 0, 1) := by decide +kernel
theorem dX7_undo_11 : decode cX7_undo 11 = .ok (.dup, 1) := by decide +kernel
theorem dX7_undo_12 : decode cX7_undo 12 = .ok (.getfield 26, 3) := by decide +kernel
theorem dX7_undo_15 : decode cX7_undo 15 = .ok (.iconst 1, 1) := by decide +kernel
theorem dX7_undo_16 : decode cX7_undo 16 = .ok (.isub, 1) := by decide +kernel
theorem dX7_undo_17 : decode cX7_undo 17 = .ok (.putfield 26, 3) := by decide +kernel
theorem dX7_undo_20 : decode cX7_undo 20 = .ok (.iconst 0, 1) := by decide +kernel
theorem dX7_undo_21 : decode cX7_undo 21 = .ok (.istore_n 1, 1) := by decide +kernel
theorem dX7_undo_22 : decode cX7_undo 22 = .ok (.iload_n 1, 1) := by decide +kernel
theorem dX7_undo_23 : decode cX7_undo 23 = .ok (.sipush 141, 3) := by decide +kernel
theorem dX7_undo_26 : decode cX7_undo 26 = .ok (.if_icmp .ge 30, 3) := by decide +kernel
theorem dX7_undo_29 : decode cX7_undo 29 = .ok (.aload_n 0, 1) := by decide +kernel
theorem dX7_undo_30 : decode cX7_undo 30 = .ok (.getfield 7, 3) := by decide +kernel
theorem dX7_undo_33 : decode cX7_undo 33 = .ok (.iload_n 1, 1) := by decide +kernel
theorem dX7_undo_34 : decode cX7_undo 34 = .ok (.aload_n 0, 1) := by decide +kernel
theorem dX7_undo_35 : decode cX7_undo 35 = .ok (.getfield 16, 3) := by decide +kernel
theorem dX7_undo_38 : decode cX7_undo 38 = .ok (.sipush 141, 3) := by decide +kernel
theorem dX7_undo_41 : decode cX7_undo 41 = .ok (.aload_n 0, 1) := by decide +kernel
theorem dX7_undo_42 : decode cX7_undo 42 = .ok (.getfield 26, 3) := by decide +kernel
theorem dX7_undo_45 : decode cX7_undo 45 = .ok (.imul, 1) := by decide +kernel
theorem dX7_undo_46 : decode cX7_undo 46 = .ok (.iload_n 1, 1) := by decide +kernel
theorem dX7_undo_47 : decode cX7_undo 47 = .ok (.iadd, 1) := by decide +kernel
theorem dX7_undo_48 : decode cX7_undo 48 = .ok (.iaload, 1) := by decide +kernel
theorem dX7_undo_49 : decode cX7_undo 49 = .ok (.iastore, 1) := by decide +kernel
theorem dX7_undo_50 : decode cX7_undo 50 = .ok (.iinc 1 1, 3) := by decide +kernel
theorem dX7_undo_53 : decode cX7_undo 53 = .ok (.goto (-31), 3) := by decide +kernel
theorem dX7_undo_56 : decode cX7_undo 56 = .ok (.aload_n 0, 1) := by decide +kernel
theorem dX7_undo_57 : decode cX7_undo 57 = .ok (.getfield 26, 3) := by decide +kernel
theorem dX7_undo_60 : decode cX7_undo 60 = .ok (.ireturn, 1) := by decide +kernel
theorem dX7_type_0 : decode cX7_type 0 = .ok (.iload_n 1, 1) := by decide +kernel
theorem dX7_type_1 : decode cX7_type 1 = .ok (.bipush 32, 2) := by decide +kernel
theorem dX7_type_3 : decode cX7_type 3 = .ok (.bipush 126, 2) := by decide +kernel
theorem dX7_type_5 : decode cX7_type 5 = .ok (.invokestatic 30, 3) := by decide +kernel
theorem dX7_type_8 : decode cX7_type 8 = .ok (.ifCond .ne 6, 3) := by decide +kernel
theorem dX7_type_11 : decode cX7_type 11 = .ok (.ldc 22, 2) := by decide +kernel
theorem dX7_type_13 : decode cX7_type 13 = .ok (.ireturn, 1) := by decide +kernel
theorem dX7_type_14 : decode cX7_type 14 = .ok (.aload_n 0, 1) := by decide +kernel
theorem dX7_type_15 : decode cX7_type 15 = .ok (.getfield 135, 3) := by decide +kernel
theorem dX7_type_18 : decode cX7_type 18 = .ok (.bipush 60, 2) := by decide +kernel
theorem dX7_type_20 : decode cX7_type 20 = .ok (.if_icmp .ne 6, 3) := by decide +kernel
theorem dX7_type_23 : decode cX7_type 23 = .ok (.ldc 66, 2) := by decide +kernel
theorem dX7_type_25 : decode cX7_type 25 = .ok (.ireturn, 1) := by decide +kernel
theorem dX7_type_26 : decode cX7_type 26 = .ok (.aload_n 0, 1) := by decide +kernel
theorem dX7_type_27 : decode cX7_type 27 = .ok (.getfield 19, 3) := by decide +kernel
theorem dX7_type_30 : decode cX7_type 30 = .ok (.aload_n 0, 1) := by decide +kernel
theorem dX7_type_31 : decode cX7_type 31 = .ok (.getfield 135, 3) := by decide +kernel
theorem dX7_type_34 : decode cX7_type 34 = .ok (.iload_n 1, 1) := by decide +kernel
theorem dX7_type_35 : decode cX7_type 35 = .ok (.iastore, 1) := by decide +kernel
theorem dX7_type_36 : decode cX7_type 36 = .ok (.aload_n 0, 1) := by decide +kernel
theorem dX7_type_37 : decode cX7_type 37 = .ok (.dup, 1) := by decide +kernel
theorem dX7_type_38 : decode cX7_type 38 = .ok (.getfield 135, 3) := by decide +kernel
theorem dX7_type_41 : decode cX7_type 41 = .ok (.iconst 1, 1) := by decide +kernel
theorem dX7_type_42 : decode cX7_type 42 = .ok (.iadd, 1) := by decide +kernel
theorem dX7_type_43 : decode cX7_type 43 = .ok (.putfield 135, 3) := by decide +kernel
theorem dX7_type_46 : decode cX7_type 46 = .ok (.aload_n 0, 1) := by decide +kernel
theorem dX7_type_47 : decode cX7_type 47 = .ok (.getfield 135, 3) := by decide +kernel
theorem dX7_type_50 : decode cX7_type 50 = .ok (.ireturn, 1) := by decide +kernel
theorem dX7_clearText_0 : decode cX7_clearText 0 = .ok (.aload_n 0, 1) := by decide +kernel
theorem dX7_clearText_1 : decode cX7_clearText 1 = .ok (.getfield 135, 3) := by decide +kernel
theorem dX7_clearText_4 : decode cX7_clearText 4 = .ok (.istore_n 1, 1) := by decide +kernel
theorem dX7_clearText_5 : decode cX7_clearText 5 = .ok (.aload_n 0, 1) := by decide +kernel
theorem dX7_clearText_6 : decode cX7_clearText 6 = .ok (.iconst 0, 1) := by decide +kernel
theorem dX7_clearText_7 : decode cX7_clearText 7 = .ok (.putfield 135, 3) := by decide +kernel
theorem dX7_clearText_10 : decode cX7_clearText 10 = .ok (.iload_n 1, 1) := by decide +kernel
theorem dX7_clearText_11 : decode cX7_clearText 11 = .ok (.ireturn, 1) := by decide +kernel
theorem dX7_here_0 : decode cX7_here 0 = .ok (.aload_n 0, 1) := by decide +kernel
theorem dX7_here_1 : decode cX7_here 1 = .ok (.getfield 138, 3) := by decide +kernel
theorem dX7_here_4 : decode cX7_here 4 = .ok (.aload_n 0, 1) := by decide +kernel
theorem dX7_here_5 : decode cX7_here 5 = .ok (.getfield 135, 3) := by decide +kernel
theorem dX7_here_8 : decode cX7_here 8 = .ok (.if_icmp .ge 15, 3) := by decide +kernel
theorem dX7_here_11 : decode cX7_here 11 = .ok (.aload_n 0, 1) := by decide +kernel
theorem dX7_here_12 : decode cX7_here 12 = .ok (.getfield 19, 3) := by decide +kernel
theorem dX7_here_15 : decode cX7_here 15 = .ok (.aload_n 0, 1) := by decide +kernel
theorem dX7_here_16 : decode cX7_here 16 = .ok (.getfield 138, 3) := by decide +kernel
theorem dX7_here_19 : decode cX7_here 19 = .ok (.iaload, 1) := by decide +kernel
theorem dX7_here_20 : decode cX7_here 20 = .ok (.goto 4, 3) := by decide +kernel
theorem dX7_here_23 : decode cX7_here 23 = .ok (.iconst (-1), 1) := by decide +kernel
theorem dX7_here_24 : decode cX7_here 24 = .ok (.ireturn, 1) := by decide +kernel
theorem dX7_isDigit_0 : decode cX7_isDigit 0 = .ok (.aload_n 0, 1) := by decide +kernel
theorem dX7_isDigit_1 : decode cX7_isDigit 1 = .ok (.invokevirtual 141, 3) := by decide +kernel
theorem dX7_isDigit_4 : decode cX7_isDigit 4 = .ok (.bipush 48, 2) := by decide +kernel
theorem dX7_isDigit_6 : decode cX7_isDigit 6 = .ok (.bipush 57, 2) := by decide +kernel
theorem dX7_isDigit_8 : decode cX7_isDigit 8 = .ok (.invokestatic 30, 3) := by decide +kernel
theorem dX7_isDigit_11 : decode cX7_isDigit 11 = .ok (.ireturn, 1) := by decide +kernel
theorem dX7_takesSign_0 : decode cX7_takesSign 0 = .ok (.aload_n 0, 1) := by decide +kernel
theorem dX7_takesSign_1 : decode cX7_takesSign 1 = .ok (.aload_n 0, 1) := by decide +kernel
theorem dX7_takesSign_2 : decode cX7_takesSign 2 = .ok (.getfield 144, 3) := by decide +kernel
theorem dX7_takesSign_5 : decode cX7_takesSign 5 = .ok (.ifCond .eq 15, 3) := by decide +kernel
theorem dX7_takesSign_8 : decode cX7_takesSign 8 = .ok (.aload_n 0, 1) := by decide +kernel
theorem dX7_takesSign_9 : decode cX7_takesSign 9 = .ok (.invokevirtual 141, 3) := by decide +kernel
theorem dX7_takesSign_12 : decode cX7_takesSign 12 = .ok (.iload_n 1, 1) := by decide +kernel
theorem dX7_takesSign_13 : decode cX7_takesSign 13 = .ok (.if_icmp .ne 7, 3) := by decide +kernel
theorem dX7_takesSign_16 : decode cX7_takesSign 16 = .ok (.iconst 1, 1) := by decide +kernel
theorem dX7_takesSign_17 : decode cX7_takesSign 17 = .ok (.goto 4, 3) := by decide +kernel
theorem dX7_takesSign_20 : decode cX7_takesSign 20 = .ok (.iconst 0, 1) := by decide +kernel
theorem dX7_takesSign_21 : decode cX7_takesSign 21 = .ok (.putfield 144, 3) := by decide +kernel
theorem dX7_takesSign_24 : decode cX7_takesSign 24 = .ok (.aload_n 0, 1) := by decide +kernel
theorem dX7_takesSign_25 : decode cX7_takesSign 25 = .ok (.dup, 1) := by decide +kernel
theorem dX7_takesSign_26 : decode cX7_takesSign 26 = .ok (.getfield 138, 3) := by decide +kernel
theorem dX7_takesSign_29 : decode cX7_takesSign 29 = .ok (.aload_n 0, 1) := by decide +kernel
theorem dX7_takesSign_30 : decode cX7_takesSign 30 = .ok (.getfield 144, 3) := by decide +kernel
theorem dX7_takesSign_33 : decode cX7_takesSign 33 = .ok (.ifCond .eq 7, 3) := by decide +kernel
theorem dX7_takesSign_36 : decode cX7_takesSign 36 = .ok (.iconst 1, 1) := by decide +kernel
theorem dX7_takesSign_37 : decode cX7_takesSign 37 = .ok (.goto 4, 3) := by decide +kernel
theorem dX7_takesSign_40 : decode cX7_takesSign 40 = .ok (.iconst 0, 1) := by decide +kernel
theorem dX7_takesSign_41 : decode cX7_takesSign 41 = .ok (.iadd, 1) := by decide +kernel
theorem dX7_takesSign_42 : decode cX7_takesSign 42 = .ok (.putfield 138, 3) := by decide +kernel
theorem dX7_takesSign_45 : decode cX7_takesSign 45 = .ok (.return_, 1) := by decide +kernel
theorem dX7_number_0 : decode cX7_number 0 = .ok (.aload_n 0, 1) := by decide +kernel
theorem dX7_number_1 : decode cX7_number 1 = .ok (.aload_n 0, 1) := by decide +kernel
theorem dX7_number_2 : decode cX7_number 2 = .ok (.getfield 144, 3) := by decide +kernel
theorem dX7_number_5 : decode cX7_number 5 = .ok (.ifCond .eq 14, 3) := by decide +kernel
theorem dX7_number_8 : decode cX7_number 8 = .ok (.aload_n 0, 1) := by decide +kernel
theorem dX7_number_9 : decode cX7_number 9 = .ok (.invokevirtual 148, 3) := by decide +kernel
theorem dX7_number_12 : decode cX7_number 12 = .ok (.ifCond .eq 7, 3) := by decide +kernel
theorem dX7_number_15 : decode cX7_number 15 = .ok (.iconst 1, 1) := by decide +kernel
theorem dX7_number_16 : decode cX7_number 16 = .ok (.goto 4, 3) := by decide +kernel
theorem dX7_number_19 : decode cX7_number 19 = .ok (.iconst 0, 1) := by decide +kernel
theorem dX7_number_20 : decode cX7_number 20 = .ok (.putfield 144, 3) := by decide +kernel
theorem dX7_number_23 : decode cX7_number 23 = .ok (.iconst 0, 1) := by decide +kernel
theorem dX7_number_24 : decode cX7_number 24 = .ok (.istore_n 1, 1) := by decide +kernel
theorem dX7_number_25 : decode cX7_number 25 = .ok (.iconst 0, 1) := by decide +kernel
theorem dX7_number_26 : decode cX7_number 26 = .ok (.istore_n 2, 1) := by decide +kernel
theorem dX7_number_27 : decode cX7_number 27 = .ok (.iload_n 2, 1) := by decide +kernel
theorem dX7_number_28 : decode cX7_number 28 = .ok (.iconst 2, 1) := by decide +kernel
theorem dX7_number_29 : decode cX7_number 29 = .ok (.if_icmp .ge 46, 3) := by decide +kernel
theorem dX7_number_32 : decode cX7_number 32 = .ok (.aload_n 0, 1) := by decide +kernel
theorem dX7_number_33 : decode cX7_number 33 = .ok (.getfield 144, 3) := by decide +kernel
theorem dX7_number_36 : decode cX7_number 36 = .ok (.ifCond .eq 39, 3) := by decide +kernel
theorem dX7_number_39 : decode cX7_number 39 = .ok (.aload_n 0, 1) := by decide +kernel
theorem dX7_number_40 : decode cX7_number 40 = .ok (.invokevirtual 148, 3) := by decide +kernel
theorem dX7_number_43 : decode cX7_number 43 = .ok (.ifCond .eq 32, 3) := by decide +kernel
theorem dX7_number_46 : decode cX7_number 46 = .ok (.bipush 10, 2) := by decide +kernel
theorem dX7_number_48 : decode cX7_number 48 = .ok (.iload_n 1, 1) := by decide +kernel
theorem dX7_number_49 : decode cX7_number 49 = .ok (.imul, 1) := by decide +kernel
theorem dX7_number_50 : decode cX7_number 50 = .ok (.aload_n 0, 1) := by decide +kernel
theorem dX7_number_51 : decode cX7_number 51 = .ok (.invokevirtual 141, 3) := by decide +kernel
theorem dX7_number_54 : decode cX7_number 54 = .ok (.iadd, 1) := by decide +kernel
theorem dX7_number_55 : decode cX7_number 55 = .ok (.bipush 48, 2) := by decide +kernel
theorem dX7_number_57 : decode cX7_number 57 = .ok (.isub, 1) := by decide +kernel
theorem dX7_number_58 : decode cX7_number 58 = .ok (.istore_n 1, 1) := by decide +kernel
theorem dX7_number_59 : decode cX7_number 59 = .ok (.aload_n 0, 1) := by decide +kernel
theorem dX7_number_60 : decode cX7_number 60 = .ok (.dup, 1) := by decide +kernel
theorem dX7_number_61 : decode cX7_number 61 = .ok (.getfield 138, 3) := by decide +kernel
theorem dX7_number_64 : decode cX7_number 64 = .ok (.iconst 1, 1) := by decide +kernel
theorem dX7_number_65 : decode cX7_number 65 = .ok (.iadd, 1) := by decide +kernel
theorem dX7_number_66 : decode cX7_number 66 = .ok (.putfield 138, 3) := by decide +kernel
theorem dX7_number_69 : decode cX7_number 69 = .ok (.iinc 2 1, 3) := by decide +kernel
theorem dX7_number_72 : decode cX7_number 72 = .ok (.goto (-45), 3) := by decide +kernel
theorem dX7_number_75 : decode cX7_number 75 = .ok (.iload_n 1, 1) := by decide +kernel
theorem dX7_number_76 : decode cX7_number 76 = .ok (.ireturn, 1) := by decide +kernel
theorem dX7_isOrder_0 : decode cX7_isOrder 0 = .ok (.iload_n 0, 1) := by decide +kernel
theorem dX7_isOrder_1 : decode cX7_isOrder 1 = .ok (.bipush 98, 2) := by decide +kernel
theorem dX7_isOrder_3 : decode cX7_isOrder 3 = .ok (.if_icmp .eq 33, 3) := by decide +kernel
theorem dX7_isOrder_6 : decode cX7_isOrder 6 = .ok (.iload_n 0, 1) := by decide +kernel
theorem dX7_isOrder_7 : decode cX7_isOrder 7 = .ok (.bipush 105, 2) := by decide +kernel
theorem dX7_isOrder_9 : decode cX7_isOrder 9 = .ok (.if_icmp .eq 27, 3) := by decide +kernel
theorem dX7_isOrder_12 : decode cX7_isOrder 12 = .ok (.iload_n 0, 1) := by decide +kernel
theorem dX7_isOrder_13 : decode cX7_isOrder 13 = .ok (.bipush 102, 2) := by decide +kernel
theorem dX7_isOrder_15 : decode cX7_isOrder 15 = .ok (.if_icmp .eq 21, 3) := by decide +kernel
theorem dX7_isOrder_18 : decode cX7_isOrder 18 = .ok (.iload_n 0, 1) := by decide +kernel
theorem dX7_isOrder_19 : decode cX7_isOrder 19 = .ok (.bipush 111, 2) := by decide +kernel
theorem dX7_isOrder_21 : decode cX7_isOrder 21 = .ok (.if_icmp .eq 15, 3) := by decide +kernel
theorem dX7_isOrder_24 : decode cX7_isOrder 24 = .ok (.iload_n 0, 1) := by decide +kernel
theorem dX7_isOrder_25 : decode cX7_isOrder 25 = .ok (.bipush 114, 2) := by decide +kernel
theorem dX7_isOrder_27 : decode cX7_isOrder 27 = .ok (.if_icmp .eq 9, 3) := by decide +kernel
theorem dX7_isOrder_30 : decode cX7_isOrder 30 = .ok (.iload_n 0, 1) := by decide +kernel
theorem dX7_isOrder_31 : decode cX7_isOrder 31 = .ok (.bipush 119, 2) := by decide +kernel
theorem dX7_isOrder_33 : decode cX7_isOrder 33 = .ok (.if_icmp .ne 7, 3) := by decide +kernel
theorem dX7_isOrder_36 : decode cX7_isOrder 36 = .ok (.iconst 1, 1) := by decide +kernel
theorem dX7_isOrder_37 : decode cX7_isOrder 37 = .ok (.goto 4, 3) := by decide +kernel
theorem dX7_isOrder_40 : decode cX7_isOrder 40 = .ok (.iconst 0, 1) := by decide +kernel
theorem dX7_isOrder_41 : decode cX7_isOrder 41 = .ok (.ireturn, 1) := by decide +kernel
theorem dX7_called_0 : decode cX7_called 0 = .ok (.iload_n 1, 1) := by decide +kernel
theorem dX7_called_1 : decode cX7_called 1 = .ok (.lookupswitch 100 #[(98, 51), (102, 73), (105, 60), (111, 82), (114, 91)], 51) := by decide +kernel
theorem dX7_called_52 : decode cX7_called 52 = .ok (.aload_n 0, 1) := by decide +kernel
theorem dX7_called_53 : decode cX7_called 53 = .ok (.aload_n 0, 1) := by decide +kernel
theorem dX7_called_54 : decode cX7_called 54 = .ok (.getfield 152, 3) := by decide +kernel
theorem dX7_called_57 : decode cX7_called 57 = .ok (.invokevirtual 100, 3) := by decide +kernel
theorem dX7_called_60 : decode cX7_called 60 = .ok (.ireturn, 1) := by decide +kernel
theorem dX7_called_61 : decode cX7_called 61 = .ok (.aload_n 0, 1) := by decide +kernel
theorem dX7_called_62 : decode cX7_called 62 = .ok (.aload_n 0, 1) := by decide +kernel
theorem dX7_called_63 : decode cX7_called 63 = .ok (.getfield 152, 3) := by decide +kernel
theorem dX7_called_66 : decode cX7_called 66 = .ok (.aload_n 0, 1) := by decide +kernel
theorem dX7_called_67 : decode cX7_called 67 = .ok (.getfield 155, 3) := by decide +kernel
theorem dX7_called_70 : decode cX7_called 70 = .ok (.invokevirtual 106, 3) := by decide +kernel
theorem dX7_called_73 : decode cX7_called 73 = .ok (.ireturn, 1) := by decide +kernel
theorem dX7_called_74 : decode cX7_called 74 = .ok (.aload_n 0, 1) := by decide +kernel
theorem dX7_called_75 : decode cX7_called 75 = .ok (.aload_n 0, 1) := by decide +kernel
theorem dX7_called_76 : decode cX7_called 76 = .ok (.getfield 152, 3) := by decide +kernel
theorem dX7_called_79 : decode cX7_called 79 = .ok (.invokevirtual 109, 3) := by decide +kernel
theorem dX7_called_82 : decode cX7_called 82 = .ok (.ireturn, 1) := by decide +kernel
theorem dX7_called_83 : decode cX7_called 83 = .ok (.aload_n 0, 1) := by decide +kernel
theorem dX7_called_84 : decode cX7_called 84 = .ok (.aload_n 0, 1) := by decide +kernel
theorem dX7_called_85 : decode cX7_called 85 = .ok (.getfield 152, 3) := by decide +kernel
theorem dX7_called_88 : decode cX7_called 88 = .ok (.invokevirtual 112, 3) := by decide +kernel
theorem dX7_called_91 : decode cX7_called 91 = .ok (.ireturn, 1) := by decide +kernel
theorem dX7_called_92 : decode cX7_called 92 = .ok (.aload_n 0, 1) := by decide +kernel
theorem dX7_called_93 : decode cX7_called 93 = .ok (.aload_n 0, 1) := by decide +kernel
theorem dX7_called_94 : decode cX7_called 94 = .ok (.getfield 152, 3) := by decide +kernel
theorem dX7_called_97 : decode cX7_called 97 = .ok (.invokevirtual 115, 3) := by decide +kernel
theorem dX7_called_100 : decode cX7_called 100 = .ok (.ireturn, 1) := by decide +kernel
theorem dX7_called_101 : decode cX7_called 101 = .ok (.aload_n 0, 1) := by decide +kernel
theorem dX7_called_102 : decode cX7_called 102 = .ok (.aload_n 0, 1) := by decide +kernel
theorem dX7_called_103 : decode cX7_called 103 = .ok (.getfield 152, 3) := by decide +kernel
theorem dX7_called_106 : decode cX7_called 106 = .ok (.invokevirtual 118, 3) := by decide +kernel
theorem dX7_called_109 : decode cX7_called 109 = .ok (.ireturn, 1) := by decide +kernel
theorem dX7_doesAll_0 : decode cX7_doesAll 0 = .ok (.aload_n 0, 1) := by decide +kernel
theorem dX7_doesAll_1 : decode cX7_doesAll 1 = .ok (.iconst 0, 1) := by decide +kernel
theorem dX7_doesAll_2 : decode cX7_doesAll 2 = .ok (.putfield 138, 3) := by decide +kernel
theorem dX7_doesAll_5 : decode cX7_doesAll 5 = .ok (.aload_n 0, 1) := by decide +kernel
theorem dX7_doesAll_6 : decode cX7_doesAll 6 = .ok (.iconst 0, 1) := by decide +kernel
theorem dX7_doesAll_7 : decode cX7_doesAll 7 = .ok (.putfield 158, 3) := by decide +kernel
theorem dX7_doesAll_10 : decode cX7_doesAll 10 = .ok (.aload_n 0, 1) := by decide +kernel
theorem dX7_doesAll_11 : decode cX7_doesAll 11 = .ok (.getfield 138, 3) := by decide +kernel
theorem dX7_doesAll_14 : decode cX7_doesAll 14 = .ok (.aload_n 0, 1) := by decide +kernel
theorem dX7_doesAll_15 : decode cX7_doesAll 15 = .ok (.getfield 135, 3) := by decide +kernel
theorem dX7_doesAll_18 : decode cX7_doesAll 18 = .ok (.if_icmp .ge 130, 3) := by decide +kernel
theorem dX7_doesAll_21 : decode cX7_doesAll 21 = .ok (.aload_n 0, 1) := by decide +kernel
theorem dX7_doesAll_22 : decode cX7_doesAll 22 = .ok (.aload_n 0, 1) := by decide +kernel
theorem dX7_doesAll_23 : decode cX7_doesAll 23 = .ok (.getfield 138, 3) := by decide +kernel
theorem dX7_doesAll_26 : decode cX7_doesAll 26 = .ok (.putfield 161, 3) := by decide +kernel
theorem dX7_doesAll_29 : decode cX7_doesAll 29 = .ok (.aload_n 0, 1) := by decide +kernel
theorem dX7_doesAll_30 : decode cX7_doesAll 30 = .ok (.invokevirtual 141, 3) := by decide +kernel
theorem dX7_doesAll_33 : decode cX7_doesAll 33 = .ok (.istore_n 1, 1) := by decide +kernel
theorem dX7_doesAll_34 : decode cX7_doesAll 34 = .ok (.aload_n 0, 1) := by decide +kernel
theorem dX7_doesAll_35 : decode cX7_doesAll 35 = .ok (.iload_n 1, 1) := by decide +kernel
theorem dX7_doesAll_36 : decode cX7_doesAll 36 = .ok (.invokestatic 164, 3) := by decide +kernel
theorem dX7_doesAll_39 : decode cX7_doesAll 39 = .ok (.putfield 144, 3) := by decide +kernel
theorem dX7_doesAll_42 : decode cX7_doesAll 42 = .ok (.aload_n 0, 1) := by decide +kernel
theorem dX7_doesAll_43 : decode cX7_doesAll 43 = .ok (.dup, 1) := by decide +kernel
theorem dX7_doesAll_44 : decode cX7_doesAll 44 = .ok (.getfield 138, 3) := by decide +kernel
theorem dX7_doesAll_47 : decode cX7_doesAll 47 = .ok (.aload_n 0, 1) := by decide +kernel
theorem dX7_doesAll_48 : decode cX7_doesAll 48 = .ok (.getfield 144, 3) := by decide +kernel
theorem dX7_doesAll_51 : decode cX7_doesAll 51 = .ok (.ifCond .eq 7, 3) := by decide +kernel
theorem dX7_doesAll_54 : decode cX7_doesAll 54 = .ok (.iconst 1, 1) := by decide +kernel
theorem dX7_doesAll_55 : decode cX7_doesAll 55 = .ok (.goto 4, 3) := by decide +kernel
theorem dX7_doesAll_58 : decode cX7_doesAll 58 = .ok (.iconst 0, 1) := by decide +kernel
theorem dX7_doesAll_59 : decode cX7_doesAll 59 = .ok (.iadd, 1) := by decide +kernel
theorem dX7_doesAll_60 : decode cX7_doesAll 60 = .ok (.putfield 138, 3) := by decide +kernel
theorem dX7_doesAll_63 : decode cX7_doesAll 63 = .ok (.aload_n 0, 1) := by decide +kernel
theorem dX7_doesAll_64 : decode cX7_doesAll 64 = .ok (.aload_n 0, 1) := by decide +kernel
theorem dX7_doesAll_65 : decode cX7_doesAll 65 = .ok (.invokevirtual 167, 3) := by decide +kernel
theorem dX7_doesAll_68 : decode cX7_doesAll 68 = .ok (.putfield 152, 3) := by decide +kernel
theorem dX7_doesAll_71 : decode cX7_doesAll 71 = .ok (.iload_n 1, 1) := by decide +kernel
theorem dX7_doesAll_72 : decode cX7_doesAll 72 = .ok (.bipush 105, 2) := by decide +kernel
theorem dX7_doesAll_74 : decode cX7_doesAll 74 = .ok (.if_icmp .ne 17, 3) := by decide +kernel
theorem dX7_doesAll_77 : decode cX7_doesAll 77 = .ok (.aload_n 0, 1) := by decide +kernel
theorem dX7_doesAll_78 : decode cX7_doesAll 78 = .ok (.bipush 44, 2) := by decide +kernel
theorem dX7_doesAll_80 : decode cX7_doesAll 80 = .ok (.invokevirtual 170, 3) := by decide +kernel
theorem dX7_doesAll_83 : decode cX7_doesAll 83 = .ok (.aload_n 0, 1) := by decide +kernel
theorem dX7_doesAll_84 : decode cX7_doesAll 84 = .ok (.aload_n 0, 1) := by decide +kernel
theorem dX7_doesAll_85 : decode cX7_doesAll 85 = .ok (.invokevirtual 167, 3) := by decide +kernel
theorem dX7_doesAll_88 : decode cX7_doesAll 88 = .ok (.putfield 155, 3) := by decide +kernel
theorem dX7_doesAll_91 : decode cX7_doesAll 91 = .ok (.aload_n 0, 1) := by decide +kernel
theorem dX7_doesAll_92 : decode cX7_doesAll 92 = .ok (.bipush 59, 2) := by decide +kernel
theorem dX7_doesAll_94 : decode cX7_doesAll 94 = .ok (.invokevirtual 170, 3) := by decide +kernel
theorem dX7_doesAll_97 : decode cX7_doesAll 97 = .ok (.aload_n 0, 1) := by decide +kernel
theorem dX7_doesAll_98 : decode cX7_doesAll 98 = .ok (.aload_n 0, 1) := by decide +kernel
theorem dX7_doesAll_99 : decode cX7_doesAll 99 = .ok (.getfield 144, 3) := by decide +kernel
theorem dX7_doesAll_102 : decode cX7_doesAll 102 = .ok (.ifCond .eq 11, 3) := by decide +kernel
theorem dX7_doesAll_105 : decode cX7_doesAll 105 = .ok (.aload_n 0, 1) := by decide +kernel
theorem dX7_doesAll_106 : decode cX7_doesAll 106 = .ok (.iload_n 1, 1) := by decide +kernel
theorem dX7_doesAll_107 : decode cX7_doesAll 107 = .ok (.invokevirtual 173, 3) := by decide +kernel
theorem dX7_doesAll_110 : decode cX7_doesAll 110 = .ok (.goto 4, 3) := by decide +kernel
theorem dX7_doesAll_113 : decode cX7_doesAll 113 = .ok (.iconst 0, 1) := by decide +kernel
theorem dX7_doesAll_114 : decode cX7_doesAll 114 = .ok (.putfield 176, 3) := by decide +kernel
theorem dX7_doesAll_117 : decode cX7_doesAll 117 = .ok (.aload_n 0, 1) := by decide +kernel
theorem dX7_doesAll_118 : decode cX7_doesAll 118 = .ok (.getfield 144, 3) := by decide +kernel
theorem dX7_doesAll_121 : decode cX7_doesAll 121 = .ok (.ifCond .eq 12, 3) := by decide +kernel
theorem dX7_doesAll_124 : decode cX7_doesAll 124 = .ok (.aload_n 0, 1) := by decide +kernel
theorem dX7_doesAll_125 : decode cX7_doesAll 125 = .ok (.getfield 176, 3) := by decide +kernel
theorem dX7_doesAll_128 : decode cX7_doesAll 128 = .ok (.ldc 22, 2) := by decide +kernel
theorem dX7_doesAll_130 : decode cX7_doesAll 130 = .ok (.if_icmp .gt 5, 3) := by decide +kernel
theorem dX7_doesAll_133 : decode cX7_doesAll 133 = .ok (.iconst 0, 1) := by decide +kernel
theorem dX7_doesAll_134 : decode cX7_doesAll 134 = .ok (.ireturn, 1) := by decide +kernel
theorem dX7_doesAll_135 : decode cX7_doesAll 135 = .ok (.aload_n 0, 1) := by decide +kernel
theorem dX7_doesAll_136 : decode cX7_doesAll 136 = .ok (.dup, 1) := by decide +kernel
theorem dX7_doesAll_137 : decode cX7_doesAll 137 = .ok (.getfield 158, 3) := by decide +kernel
theorem dX7_doesAll_140 : decode cX7_doesAll 140 = .ok (.iconst 1, 1) := by decide +kernel
theorem dX7_doesAll_141 : decode cX7_doesAll 141 = .ok (.iadd, 1) := by decide +kernel
theorem dX7_doesAll_142 : decode cX7_doesAll 142 = .ok (.putfield 158, 3) := by decide +kernel
theorem dX7_doesAll_145 : decode cX7_doesAll 145 = .ok (.goto (-135), 3) := by decide +kernel
theorem dX7_doesAll_148 : decode cX7_doesAll 148 = .ok (.iconst 1, 1) := by decide +kernel
theorem dX7_doesAll_149 : decode cX7_doesAll 149 = .ok (.ireturn, 1) := by decide +kernel
theorem dX7_fault_0 : decode cX7_fault 0 = .ok (.iload_n 1, 1) := by decide +kernel
theorem dX7_fault_1 : decode cX7_fault 1 = .ok (.iconst 0, 1) := by decide +kernel
theorem dX7_fault_2 : decode cX7_fault 2 = .ok (.iconst 2, 1) := by decide +kernel
theorem dX7_fault_3 : decode cX7_fault 3 = .ok (.invokestatic 30, 3) := by decide +kernel
theorem dX7_fault_6 : decode cX7_fault 6 = .ok (.ifCond .ne 6, 3) := by decide +kernel
theorem dX7_fault_9 : decode cX7_fault 9 = .ok (.ldc 22, 2) := by decide +kernel
theorem dX7_fault_11 : decode cX7_fault 11 = .ok (.ireturn, 1) := by decide +kernel
theorem dX7_fault_12 : decode cX7_fault 12 = .ok (.aload_n 0, 1) := by decide +kernel
theorem dX7_fault_13 : decode cX7_fault 13 = .ok (.invokevirtual 97, 3) := by decide +kernel
theorem dX7_fault_16 : decode cX7_fault 16 = .ok (.aload_n 0, 1) := by decide +kernel
theorem dX7_fault_17 : decode cX7_fault 17 = .ok (.invokevirtual 179, 3) := by decide +kernel
theorem dX7_fault_20 : decode cX7_fault 20 = .ok (.istore_n 2, 1) := by decide +kernel
theorem dX7_fault_21 : decode cX7_fault 21 = .ok (.aload_n 0, 1) := by decide +kernel
theorem dX7_fault_22 : decode cX7_fault 22 = .ok (.invokevirtual 23, 3) := by decide +kernel
theorem dX7_fault_25 : decode cX7_fault 25 = .ok (.iload_n 2, 1) := by decide +kernel
theorem dX7_fault_26 : decode cX7_fault 26 = .ok (.ifCond .eq 6, 3) := by decide +kernel
theorem dX7_fault_29 : decode cX7_fault 29 = .ok (.ldc 121, 2) := by decide +kernel
theorem dX7_fault_31 : decode cX7_fault 31 = .ok (.ireturn, 1) := by decide +kernel
theorem dX7_fault_32 : decode cX7_fault 32 = .ok (.iload_n 1, 1) := by decide +kernel
theorem dX7_fault_33 : decode cX7_fault 33 = .ok (.ifCond .ne 10, 3) := by decide +kernel
theorem dX7_fault_36 : decode cX7_fault 36 = .ok (.aload_n 0, 1) := by decide +kernel
theorem dX7_fault_37 : decode cX7_fault 37 = .ok (.getfield 161, 3) := by decide +kernel
theorem dX7_fault_40 : decode cX7_fault 40 = .ok (.goto 46, 3) := by decide +kernel
theorem dX7_fault_43 : decode cX7_fault 43 = .ok (.iload_n 1, 1) := by decide +kernel
theorem dX7_fault_44 : decode cX7_fault 44 = .ok (.iconst 1, 1) := by decide +kernel
theorem dX7_fault_45 : decode cX7_fault 45 = .ok (.if_icmp .ne 18, 3) := by decide +kernel
theorem dX7_fault_48 : decode cX7_fault 48 = .ok (.aload_n 0, 1) := by decide +kernel
theorem dX7_fault_49 : decode cX7_fault 49 = .ok (.getfield 144, 3) := by decide +kernel
theorem dX7_fault_52 : decode cX7_fault 52 = .ok (.ifCond .eq 7, 3) := by decide +kernel
theorem dX7_fault_55 : decode cX7_fault 55 = .ok (.iconst 2, 1) := by decide +kernel
theorem dX7_fault_56 : decode cX7_fault 56 = .ok (.goto 30, 3) := by decide +kernel
theorem dX7_fault_59 : decode cX7_fault 59 = .ok (.iconst 1, 1) := by decide +kernel
theorem dX7_fault_60 : decode cX7_fault 60 = .ok (.goto 26, 3) := by decide +kernel
theorem dX7_fault_63 : decode cX7_fault 63 = .ok (.aload_n 0, 1) := by decide +kernel
theorem dX7_fault_64 : decode cX7_fault 64 = .ok (.getfield 144, 3) := by decide +kernel
theorem dX7_fault_67 : decode cX7_fault 67 = .ok (.ifCond .eq 10, 3) := by decide +kernel
theorem dX7_fault_70 : decode cX7_fault 70 = .ok (.aload_n 0, 1) := by decide +kernel
theorem dX7_fault_71 : decode cX7_fault 71 = .ok (.getfield 176, 3) := by decide +kernel
theorem dX7_fault_74 : decode cX7_fault 74 = .ok (.goto 12, 3) := by decide +kernel
theorem dX7_fault_77 : decode cX7_fault 77 = .ok (.aload_n 0, 1) := by decide +kernel
theorem dX7_fault_78 : decode cX7_fault 78 = .ok (.getfield 138, 3) := by decide +kernel
theorem dX7_fault_81 : decode cX7_fault 81 = .ok (.aload_n 0, 1) := by decide +kernel
theorem dX7_fault_82 : decode cX7_fault 82 = .ok (.getfield 161, 3) := by decide +kernel
theorem dX7_fault_85 : decode cX7_fault 85 = .ok (.isub, 1) := by decide +kernel
theorem dX7_fault_86 : decode cX7_fault 86 = .ok (.ireturn, 1) := by decide +kernel
theorem dX7_play_0 : decode cX7_play 0 = .ok (.aload_n 0, 1) := by decide +kernel
theorem dX7_play_1 : decode cX7_play 1 = .ok (.invokevirtual 97, 3) := by decide +kernel
theorem dX7_play_4 : decode cX7_play 4 = .ok (.aload_n 0, 1) := by decide +kernel
theorem dX7_play_5 : decode cX7_play 5 = .ok (.aload_n 0, 1) := by decide +kernel
theorem dX7_play_6 : decode cX7_play 6 = .ok (.invokevirtual 179, 3) := by decide +kernel
theorem dX7_play_9 : decode cX7_play 9 = .ok (.ifCond .eq 10, 3) := by decide +kernel
theorem dX7_play_12 : decode cX7_play 12 = .ok (.aload_n 0, 1) := by decide +kernel
theorem dX7_play_13 : decode cX7_play 13 = .ok (.getfield 158, 3) := by decide +kernel
theorem dX7_play_16 : decode cX7_play 16 = .ok (.goto 5, 3) := by decide +kernel
theorem dX7_play_19 : decode cX7_play 19 = .ok (.ldc 76, 2) := by decide +kernel
theorem dX7_play_21 : decode cX7_play 21 = .ok (.invokevirtual 103, 3) := by decide +kernel
theorem dX7_play_24 : decode cX7_play 24 = .ok (.ireturn, 1) := by decide +kernel
theorem dL_law_0 : decode cL_law 0 = .ok (.new 7, 3) := by decide +kernel
theorem dL_law_3 : decode cL_law 3 = .ok (.dup, 1) := by decide +kernel
theorem dL_law_4 : decode cL_law 4 = .ok (.invokespecial 9, 3) := by decide +kernel
theorem dL_law_7 : decode cL_law 7 = .ok (.astore_n 1, 1) := by decide +kernel
theorem dL_law_8 : decode cL_law 8 = .ok (.new 10, 3) := by decide +kernel
theorem dL_law_11 : decode cL_law 11 = .ok (.dup, 1) := by decide +kernel
theorem dL_law_12 : decode cL_law 12 = .ok (.invokespecial 12, 3) := by decide +kernel
theorem dL_law_15 : decode cL_law 15 = .ok (.astore_n 2, 1) := by decide +kernel
theorem dL_law_16 : decode cL_law 16 = .ok (.iconst 0, 1) := by decide +kernel
theorem dL_law_17 : decode cL_law 17 = .ok (.istore_n 3, 1) := by decide +kernel
theorem dL_law_18 : decode cL_law 18 = .ok (.iload_n 3, 1) := by decide +kernel
theorem dL_law_19 : decode cL_law 19 = .ok (.aload_n 0, 1) := by decide +kernel
theorem dL_law_20 : decode cL_law 20 = .ok (.arraylength, 1) := by decide +kernel
theorem dL_law_21 : decode cL_law 21 = .ok (.iconst 4, 1) := by decide +kernel
theorem dL_law_22 : decode cL_law 22 = .ok (.isub, 1) := by decide +kernel
theorem dL_law_23 : decode cL_law 23 = .ok (.if_icmp .gt 823, 3) := by decide +kernel
theorem dL_law_26 : decode cL_law 26 = .ok (.aload_n 0, 1) := by decide +kernel
theorem dL_law_27 : decode cL_law 27 = .ok (.iload_n 3, 1) := by decide +kernel
theorem dL_law_28 : decode cL_law 28 = .ok (.iaload, 1) := by decide +kernel
theorem dL_law_29 : decode cL_law 29 = .ok (.bipush 31, 2) := by decide +kernel
theorem dL_law_31 : decode cL_law 31 = .ok (.iand, 1) := by decide +kernel
theorem dL_law_32 : decode cL_law 32 = .ok (.tableswitch 808 0 25 #[120, 143, 176, 209, 242, 265, 288, 331, 354, 377, 410, 443, 476, 509, 542, 565, 608, 631, 654, 677, 700, 723, 736, 759, 772, 795], 120) := by decide +kernel
theorem dL_law_152 : decode cL_law 152 = .ok (.aload_n 1, 1) := by decide +kernel
theorem dL_law_153 : decode cL_law 153 = .ok (.aload_n 0, 1) := by decide +kernel
theorem dL_law_154 : decode cL_law 154 = .ok (.iload_n 3, 1) := by decide +kernel
theorem dL_law_155 : decode cL_law 155 = .ok (.iconst 1, 1) := by decide +kernel
theorem dL_law_156 : decode cL_law 156 = .ok (.iadd, 1) := by decide +kernel
theorem dL_law_157 : decode cL_law 157 = .ok (.iaload, 1) := by decide +kernel
theorem dL_law_158 : decode cL_law 158 = .ok (.invokevirtual 13, 3) := by decide +kernel
theorem dL_law_161 : decode cL_law 161 = .ok (.aload_n 2, 1) := by decide +kernel
theorem dL_law_162 : decode cL_law 162 = .ok (.aload_n 0, 1) := by decide +kernel
theorem dL_law_163 : decode cL_law 163 = .ok (.iload_n 3, 1) := by decide +kernel
theorem dL_law_164 : decode cL_law 164 = .ok (.iconst 1, 1) := by decide +kernel
theorem dL_law_165 : decode cL_law 165 = .ok (.iadd, 1) := by decide +kernel
theorem dL_law_166 : decode cL_law 166 = .ok (.iaload, 1) := by decide +kernel
theorem dL_law_167 : decode cL_law 167 = .ok (.invokevirtual 17, 3) := by decide +kernel
theorem dL_law_170 : decode cL_law 170 = .ok (.if_icmp .eq 670, 3) := by decide +kernel
theorem dL_law_173 : decode cL_law 173 = .ok (.iconst 0, 1) := by decide +kernel
theorem dL_law_174 : decode cL_law 174 = .ok (.ireturn, 1) := by decide +kernel
theorem dL_law_175 : decode cL_law 175 = .ok (.aload_n 1, 1) := by decide +kernel
theorem dL_law_176 : decode cL_law 176 = .ok (.aload_n 0, 1) := by decide +kernel
theorem dL_law_177 : decode cL_law 177 = .ok (.iload_n 3, 1) := by decide +kernel
theorem dL_law_178 : decode cL_law 178 = .ok (.iconst 1, 1) := by decide +kernel
theorem dL_law_179 : decode cL_law 179 = .ok (.iadd, 1) := by decide +kernel
theorem dL_law_180 : decode cL_law 180 = .ok (.iaload, 1) := by decide +kernel
theorem dL_law_181 : decode cL_law 181 = .ok (.aload_n 0, 1) := by decide +kernel
theorem dL_law_182 : decode cL_law 182 = .ok (.iload_n 3, 1) := by decide +kernel
theorem dL_law_183 : decode cL_law 183 = .ok (.iconst 2, 1) := by decide +kernel
theorem dL_law_184 : decode cL_law 184 = .ok (.iadd, 1) := by decide +kernel
theorem dL_law_185 : decode cL_law 185 = .ok (.iaload, 1) := by decide +kernel
theorem dL_law_186 : decode cL_law 186 = .ok (.invokevirtual 18, 3) := by decide +kernel
theorem dL_law_189 : decode cL_law 189 = .ok (.aload_n 2, 1) := by decide +kernel
theorem dL_law_190 : decode cL_law 190 = .ok (.aload_n 0, 1) := by decide +kernel
theorem dL_law_191 : decode cL_law 191 = .ok (.iload_n 3, 1) := by decide +kernel
theorem dL_law_192 : decode cL_law 192 = .ok (.iconst 1, 1) := by decide +kernel
theorem dL_law_193 : decode cL_law 193 = .ok (.iadd, 1) := by decide +kernel
theorem dL_law_194 : decode cL_law 194 = .ok (.iaload, 1) := by decide +kernel
theorem dL_law_195 : decode cL_law 195 = .ok (.aload_n 0, 1) := by decide +kernel
theorem dL_law_196 : decode cL_law 196 = .ok (.iload_n 3, 1) := by decide +kernel
theorem dL_law_197 : decode cL_law 197 = .ok (.iconst 2, 1) := by decide +kernel
theorem dL_law_198 : decode cL_law 198 = .ok (.iadd, 1) := by decide +kernel
theorem dL_law_199 : decode cL_law 199 = .ok (.iaload, 1) := by decide +kernel
theorem dL_law_200 : decode cL_law 200 = .ok (.invokevirtual 22, 3) := by decide +kernel
theorem dL_law_203 : decode cL_law 203 = .ok (.if_icmp .eq 637, 3) := by decide +kernel
theorem dL_law_206 : decode cL_law 206 = .ok (.iconst 0, 1) := by decide +kernel
theorem dL_law_207 : decode cL_law 207 = .ok (.ireturn, 1) := by decide +kernel
theorem dL_law_208 : decode cL_law 208 = .ok (.aload_n 1, 1) := by decide +kernel
theorem dL_law_209 : decode cL_law 209 = .ok (.aload_n 0, 1) := by decide +kernel
theorem dL_law_210 : decode cL_law 210 = .ok (.iload_n 3, 1) := by decide +kernel
theorem dL_law_211 : decode cL_law 211 = .ok (.iconst 1, 1) := by decide +kernel
theorem dL_law_212 : decode cL_law 212 = .ok (.iadd, 1) := by decide +kernel
theorem dL_law_213 : decode cL_law 213 = .ok (.iaload, 1) := by decide +kernel
theorem dL_law_214 : decode cL_law 214 = .ok (.aload_n 0, 1) := by decide +kernel
theorem dL_law_215 : decode cL_law 215 = .ok (.iload_n 3, 1) := by decide +kernel
theorem dL_law_216 : decode cL_law 216 = .ok (.iconst 2, 1) := by decide +kernel
theorem dL_law_217 : decode cL_law 217 = .ok (.iadd, 1) := by decide +kernel
theorem dL_law_218 : decode cL_law 218 = .ok (.iaload, 1) := by decide +kernel
theorem dL_law_219 : decode cL_law 219 = .ok (.invokevirtual 23, 3) := by decide +kernel
theorem dL_law_222 : decode cL_law 222 = .ok (.aload_n 2, 1) := by decide +kernel
theorem dL_law_223 : decode cL_law 223 = .ok (.aload_n 0, 1) := by decide +kernel
theorem dL_law_224 : decode cL_law 224 = .ok (.iload_n 3, 1) := by decide +kernel
theorem dL_law_225 : decode cL_law 225 = .ok (.iconst 1, 1) := by decide +kernel
theorem dL_law_226 : decode cL_law 226 = .ok (.iadd, 1) := by decide +kernel
theorem dL_law_227 : decode cL_law 227 = .ok (.iaload, 1) := by decide +kernel
theorem dL_law_228 : decode cL_law 228 = .ok (.aload_n 0, 1) := by decide +kernel
theorem dL_law_229 : decode cL_law 229 = .ok (.iload_n 3, 1) := by decide +kernel
theorem dL_law_230 : decode cL_law 230 = .ok (.iconst 2, 1) := by decide +kernel
theorem dL_law_231 : decode cL_law 231 = .ok (.iadd, 1) := by decide +kernel
theorem dL_law_232 : decode cL_law 232 = .ok (.iaload, 1) := by decide +kernel
theorem dL_law_233 : decode cL_law 233 = .ok (.invokevirtual 26, 3) := by decide +kernel
theorem dL_law_236 : decode cL_law 236 = .ok (.if_icmp .eq 604, 3) := by decide +kernel
theorem dL_law_239 : decode cL_law 239 = .ok (.iconst 0, 1) := by decide +kernel
theorem dL_law_240 : decode cL_law 240 = .ok (.ireturn, 1) := by decide +kernel
theorem dL_law_241 : decode cL_law 241 = .ok (.aload_n 1, 1) := by decide +kernel
theorem dL_law_242 : decode cL_law 242 = .ok (.aload_n 0, 1) := by decide +kernel
theorem dL_law_243 : decode cL_law 243 = .ok (.iload_n 3, 1) := by decide +kernel
theorem dL_law_244 : decode cL_law 244 = .ok (.iconst 1, 1) := by decide +kernel
theorem dL_law_245 : decode cL_law 245 = .ok (.iadd, 1) := by decide +kernel
theorem dL_law_246 : decode cL_law 246 = .ok (.iaload, 1) := by decide +kernel
theorem dL_law_247 : decode cL_law 247 = .ok (.aload_n 0, 1) := by decide +kernel
theorem dL_law_248 : decode cL_law 248 = .ok (.iload_n 3, 1) := by decide +kernel
theorem dL_law_249 : decode cL_law 249 = .ok (.iconst 2, 1) := by decide +kernel
theorem dL_law_250 : decode cL_law 250 = .ok (.iadd, 1) := by decide +kernel
theorem dL_law_251 : decode cL_law 251 = .ok (.iaload, 1) := by decide +kernel
theorem dL_law_252 : decode cL_law 252 = .ok (.invokevirtual 27, 3) := by decide +kernel
theorem dL_law_255 : decode cL_law 255 = .ok (.aload_n 2, 1) := by decide +kernel
theorem dL_law_256 : decode cL_law 256 = .ok (.aload_n 0, 1) := by decide +kernel
theorem dL_law_257 : decode cL_law 257 = .ok (.iload_n 3, 1) := by decide +kernel
theorem dL_law_258 : decode cL_law 258 = .ok (.iconst 1, 1) := by decide +kernel
theorem dL_law_259 : decode cL_law 259 = .ok (.iadd, 1) := by decide +kernel
theorem dL_law_260 : decode cL_law 260 = .ok (.iaload, 1) := by decide +kernel
theorem dL_law_261 : decode cL_law 261 = .ok (.aload_n 0, 1) := by decide +kernel
theorem dL_law_262 : decode cL_law 262 = .ok (.iload_n 3, 1) := by decide +kernel
theorem dL_law_263 : decode cL_law 263 = .ok (.iconst 2, 1) := by decide +kernel
theorem dL_law_264 : decode cL_law 264 = .ok (.iadd, 1) := by decide +kernel
theorem dL_law_265 : decode cL_law 265 = .ok (.iaload, 1) := by decide +kernel
theorem dL_law_266 : decode cL_law 266 = .ok (.invokevirtual 30, 3) := by decide +kernel
theorem dL_law_269 : decode cL_law 269 = .ok (.if_icmp .eq 571, 3) := by decide +kernel
theorem dL_law_272 : decode cL_law 272 = .ok (.iconst 0, 1) := by decide +kernel
theorem dL_law_273 : decode cL_law 273 = .ok (.ireturn, 1) := by decide +kernel
theorem dL_law_274 : decode cL_law 274 = .ok (.aload_n 1, 1) := by decide +kernel
theorem dL_law_275 : decode cL_law 275 = .ok (.aload_n 0, 1) := by decide +kernel
theorem dL_law_276 : decode cL_law 276 = .ok (.iload_n 3, 1) := by decide +kernel
theorem dL_law_277 : decode cL_law 277 = .ok (.iconst 1, 1) := by decide +kernel
theorem dL_law_278 : decode cL_law 278 = .ok (.iadd, 1) := by decide +kernel
theorem dL_law_279 : decode cL_law 279 = .ok (.iaload, 1) := by decide +kernel
theorem dL_law_280 : decode cL_law 280 = .ok (.invokevirtual 31, 3) := by decide +kernel
theorem dL_law_283 : decode cL_law 283 = .ok (.aload_n 2, 1) := by decide +kernel
theorem dL_law_284 : decode cL_law 284 = .ok (.aload_n 0, 1) := by decide +kernel
theorem dL_law_285 : decode cL_law 285 = .ok (.iload_n 3, 1) := by decide +kernel
theorem dL_law_286 : decode cL_law 286 = .ok (.iconst 1, 1) := by decide +kernel
theorem dL_law_287 : decode cL_law 287 = .ok (.iadd, 1) := by decide +kernel
theorem dL_law_288 : decode cL_law 288 = .ok (.iaload, 1) := by decide +kernel
theorem dL_law_289 : decode cL_law 289 = .ok (.invokevirtual 34, 3) := by decide +kernel
theorem dL_law_292 : decode cL_law 292 = .ok (.if_icmp .eq 548, 3) := by decide +kernel
theorem dL_law_295 : decode cL_law 295 = .ok (.iconst 0, 1) := by decide +kernel
theorem dL_law_296 : decode cL_law 296 = .ok (.ireturn, 1) := by decide +kernel
theorem dL_law_297 : decode cL_law 297 = .ok (.aload_n 1, 1) := by decide +kernel
theorem dL_law_298 : decode cL_law 298 = .ok (.aload_n 0, 1) := by decide +kernel
theorem dL_law_299 : decode cL_law 299 = .ok (.iload_n 3, 1) := by decide +kernel
theorem dL_law_300 : decode cL_law 300 = .ok (.iconst 1, 1) := by decide +kernel
theorem dL_law_301 : decode cL_law 301 = .ok (.iadd, 1) := by decide +kernel
theorem dL_law_302 : decode cL_law 302 = .ok (.iaload, 1) := by decide +kernel
theorem dL_law_303 : decode cL_law 303 = .ok (.invokevirtual 35, 3) := by decide +kernel
theorem dL_law_306 : decode cL_law 306 = .ok (.aload_n 2, 1) := by decide +kernel
theorem dL_law_307 : decode cL_law 307 = .ok (.aload_n 0, 1) := by decide +kernel
theorem dL_law_308 : decode cL_law 308 = .ok (.iload_n 3, 1) := by decide +kernel
theorem dL_law_309 : decode cL_law 309 = .ok (.iconst 1, 1) := by decide +kernel
theorem dL_law_310 : decode cL_law 310 = .ok (.iadd, 1) := by decide +kernel
theorem dL_law_311 : decode cL_law 311 = .ok (.iaload, 1) := by decide +kernel
theorem dL_law_312 : decode cL_law 312 = .ok (.invokevirtual 38, 3) := by decide +kernel
theorem dL_law_315 : decode cL_law 315 = .ok (.if_icmp .eq 525, 3) := by decide +kernel
theorem dL_law_318 : decode cL_law 318 = .ok (.iconst 0, 1) := by decide +kernel
theorem dL_law_319 : decode cL_law 319 = .ok (.ireturn, 1) := by decide +kernel
theorem dL_law_320 : decode cL_law 320 = .ok (.aload_n 1, 1) := by decide +kernel
theorem dL_law_321 : decode cL_law 321 = .ok (.aload_n 0, 1) := by decide +kernel
theorem dL_law_322 : decode cL_law 322 = .ok (.iload_n 3, 1) := by decide +kernel
theorem dL_law_323 : decode cL_law 323 = .ok (.iconst 1, 1) := by decide +kernel
theorem dL_law_324 : decode cL_law 324 = .ok (.iadd, 1) := by decide +kernel
theorem dL_law_325 : decode cL_law 325 = .ok (.iaload, 1) := by decide +kernel
theorem dL_law_326 : decode cL_law 326 = .ok (.aload_n 0, 1) := by decide +kernel
theorem dL_law_327 : decode cL_law 327 = .ok (.iload_n 3, 1) := by decide +kernel
theorem dL_law_328 : decode cL_law 328 = .ok (.iconst 2, 1) := by decide +kernel
theorem dL_law_329 : decode cL_law 329 = .ok (.iadd, 1) := by decide +kernel
theorem dL_law_330 : decode cL_law 330 = .ok (.iaload, 1) := by decide +kernel
theorem dL_law_331 : decode cL_law 331 = .ok (.aload_n 0, 1) := by decide +kernel
theorem dL_law_332 : decode cL_law 332 = .ok (.iload_n 3, 1) := by decide +kernel
theorem dL_law_333 : decode cL_law 333 = .ok (.iconst 3, 1) := by decide +kernel
theorem dL_law_334 : decode cL_law 334 = .ok (.iadd, 1) := by decide +kernel
theorem dL_law_335 : decode cL_law 335 = .ok (.iaload, 1) := by decide +kernel
theorem dL_law_336 : decode cL_law 336 = .ok (.invokevirtual 39, 3) := by decide +kernel
theorem dL_law_339 : decode cL_law 339 = .ok (.aload_n 2, 1) := by decide +kernel
theorem dL_law_340 : decode cL_law 340 = .ok (.aload_n 0, 1) := by decide +kernel
theorem dL_law_341 : decode cL_law 341 = .ok (.iload_n 3, 1) := by decide +kernel
theorem dL_law_342 : decode cL_law 342 = .ok (.iconst 1, 1) := by decide +kernel
theorem dL_law_343 : decode cL_law 343 = .ok (.iadd, 1) := by decide +kernel
theorem dL_law_344 : decode cL_law 344 = .ok (.iaload, 1) := by decide +kernel
theorem dL_law_345 : decode cL_law 345 = .ok (.aload_n 0, 1) := by decide +kernel
theorem dL_law_346 : decode cL_law 346 = .ok (.iload_n 3, 1) := by decide +kernel
theorem dL_law_347 : decode cL_law 347 = .ok (.iconst 2, 1) := by decide +kernel
theorem dL_law_348 : decode cL_law 348 = .ok (.iadd, 1) := by decide +kernel
theorem dL_law_349 : decode cL_law 349 = .ok (.iaload, 1) := by decide +kernel
theorem dL_law_350 : decode cL_law 350 = .ok (.aload_n 0, 1) := by decide +kernel
theorem dL_law_351 : decode cL_law 351 = .ok (.iload_n 3, 1) := by decide +kernel
theorem dL_law_352 : decode cL_law 352 = .ok (.iconst 3, 1) := by decide +kernel
theorem dL_law_353 : decode cL_law 353 = .ok (.iadd, 1) := by decide +kernel
theorem dL_law_354 : decode cL_law 354 = .ok (.iaload, 1) := by decide +kernel
theorem dL_law_355 : decode cL_law 355 = .ok (.invokevirtual 43, 3) := by decide +kernel
theorem dL_law_358 : decode cL_law 358 = .ok (.if_icmp .eq 482, 3) := by decide +kernel
theorem dL_law_361 : decode cL_law 361 = .ok (.iconst 0, 1) := by decide +kernel
theorem dL_law_362 : decode cL_law 362 = .ok (.ireturn, 1) := by decide +kernel
theorem dL_law_363 : decode cL_law 363 = .ok (.aload_n 1, 1) := by decide +kernel
theorem dL_law_364 : decode cL_law 364 = .ok (.aload_n 0, 1) := by decide +kernel
theorem dL_law_365 : decode cL_law 365 = .ok (.iload_n 3, 1) := by decide +kernel
theorem dL_law_366 : decode cL_law 366 = .ok (.iconst 1, 1) := by decide +kernel
theorem dL_law_367 : decode cL_law 367 = .ok (.iadd, 1) := by decide +kernel
theorem dL_law_368 : decode cL_law 368 = .ok (.iaload, 1) := by decide +kernel
theorem dL_law_369 : decode cL_law 369 = .ok (.invokevirtual 44, 3) := by decide +kernel
theorem dL_law_372 : decode cL_law 372 = .ok (.aload_n 2, 1) := by decide +kernel
theorem dL_law_373 : decode cL_law 373 = .ok (.aload_n 0, 1) := by decide +kernel
theorem dL_law_374 : decode cL_law 374 = .ok (.iload_n 3, 1) := by decide +kernel
theorem dL_law_375 : decode cL_law 375 = .ok (.iconst 1, 1) := by decide +kernel
theorem dL_law_376 : decode cL_law 376 = .ok (.iadd, 1) := by decide +kernel
theorem dL_law_377 : decode cL_law 377 = .ok (.iaload, 1) := by decide +kernel
theorem dL_law_378 : decode cL_law 378 = .ok (.invokevirtual 47, 3) := by decide +kernel
theorem dL_law_381 : decode cL_law 381 = .ok (.if_icmp .eq 459, 3) := by decide +kernel
theorem dL_law_384 : decode cL_law 384 = .ok (.iconst 0, 1) := by decide +kernel
theorem dL_law_385 : decode cL_law 385 = .ok (.ireturn, 1) := by decide +kernel
theorem dL_law_386 : decode cL_law 386 = .ok (.aload_n 1, 1) := by decide +kernel
theorem dL_law_387 : decode cL_law 387 = .ok (.aload_n 0, 1) := by decide +kernel
theorem dL_law_388 : decode cL_law 388 = .ok (.iload_n 3, 1) := by decide +kernel
theorem dL_law_389 : decode cL_law 389 = .ok (.iconst 1, 1) := by decide +kernel
theorem dL_law_390 : decode cL_law 390 = .ok (.iadd, 1) := by decide +kernel
theorem dL_law_391 : decode cL_law 391 = .ok (.iaload, 1) := by decide +kernel
theorem dL_law_392 : decode cL_law 392 = .ok (.invokevirtual 48, 3) := by decide +kernel
theorem dL_law_395 : decode cL_law 395 = .ok (.aload_n 2, 1) := by decide +kernel
theorem dL_law_396 : decode cL_law 396 = .ok (.aload_n 0, 1) := by decide +kernel
theorem dL_law_397 : decode cL_law 397 = .ok (.iload_n 3, 1) := by decide +kernel
theorem dL_law_398 : decode cL_law 398 = .ok (.iconst 1, 1) := by decide +kernel
theorem dL_law_399 : decode cL_law 399 = .ok (.iadd, 1) := by decide +kernel
theorem dL_law_400 : decode cL_law 400 = .ok (.iaload, 1) := by decide +kernel
theorem dL_law_401 : decode cL_law 401 = .ok (.invokevirtual 51, 3) := by decide +kernel
theorem dL_law_404 : decode cL_law 404 = .ok (.if_icmp .eq 436, 3) := by decide +kernel
theorem dL_law_407 : decode cL_law 407 = .ok (.iconst 0, 1) := by decide +kernel
theorem dL_law_408 : decode cL_law 408 = .ok (.ireturn, 1) := by decide +kernel
theorem dL_law_409 : decode cL_law 409 = .ok (.aload_n 1, 1) := by decide +kernel
theorem dL_law_410 : decode cL_law 410 = .ok (.aload_n 0, 1) := by decide +kernel
theorem dL_law_411 : decode cL_law 411 = .ok (.iload_n 3, 1) := by decide +kernel
theorem dL_law_412 : decode cL_law 412 = .ok (.iconst 1, 1) := by decide +kernel
theorem dL_law_413 : decode cL_law 413 = .ok (.iadd, 1) := by decide +kernel
theorem dL_law_414 : decode cL_law 414 = .ok (.iaload, 1) := by decide +kernel
theorem dL_law_415 : decode cL_law 415 = .ok (.aload_n 0, 1) := by decide +kernel
theorem dL_law_416 : decode cL_law 416 = .ok (.iload_n 3, 1) := by decide +kernel
theorem dL_law_417 : decode cL_law 417 = .ok (.iconst 2, 1) := by decide +kernel
theorem dL_law_418 : decode cL_law 418 = .ok (.iadd, 1) := by decide +kernel
theorem dL_law_419 : decode cL_law 419 = .ok (.iaload, 1) := by decide +kernel
theorem dL_law_420 : decode cL_law 420 = .ok (.invokevirtual 52, 3) := by decide +kernel
theorem dL_law_423 : decode cL_law 423 = .ok (.aload_n 2, 1) := by decide +kernel
theorem dL_law_424 : decode cL_law 424 = .ok (.aload_n 0, 1) := by decide +kernel
theorem dL_law_425 : decode cL_law 425 = .ok (.iload_n 3, 1) := by decide +kernel
theorem dL_law_426 : decode cL_law 426 = .ok (.iconst 1, 1) := by decide +kernel
theorem dL_law_427 : decode cL_law 427 = .ok (.iadd, 1) := by decide +kernel
theorem dL_law_428 : decode cL_law 428 = .ok (.iaload, 1) := by decide +kernel
theorem dL_law_429 : decode cL_law 429 = .ok (.aload_n 0, 1) := by decide +kernel
theorem dL_law_430 : decode cL_law 430 = .ok (.iload_n 3, 1) := by decide +kernel
theorem dL_law_431 : decode cL_law 431 = .ok (.iconst 2, 1) := by decide +kernel
theorem dL_law_432 : decode cL_law 432 = .ok (.iadd, 1) := by decide +kernel
theorem dL_law_433 : decode cL_law 433 = .ok (.iaload, 1) := by decide +kernel
theorem dL_law_434 : decode cL_law 434 = .ok (.invokevirtual 55, 3) := by decide +kernel
theorem dL_law_437 : decode cL_law 437 = .ok (.if_icmp .eq 403, 3) := by decide +kernel
theorem dL_law_440 : decode cL_law 440 = .ok (.iconst 0, 1) := by decide +kernel
theorem dL_law_441 : decode cL_law 441 = .ok (.ireturn, 1) := by decide +kernel
theorem dL_law_442 : decode cL_law 442 = .ok (.aload_n 1, 1) := by decide +kernel
theorem dL_law_443 : decode cL_law 443 = .ok (.aload_n 0, 1) := by decide +kernel
theorem dL_law_444 : decode cL_law 444 = .ok (.iload_n 3, 1) := by decide +kernel
theorem dL_law_445 : decode cL_law 445 = .ok (.iconst 1, 1) := by decide +kernel
theorem dL_law_446 : decode cL_law 446 = .ok (.iadd, 1) := by decide +kernel
theorem dL_law_447 : decode cL_law 447 = .ok (.iaload, 1) := by decide +kernel
theorem dL_law_448 : decode cL_law 448 = .ok (.aload_n 0, 1) := by decide +kernel
theorem dL_law_449 : decode cL_law 449 = .ok (.iload_n 3, 1) := by decide +kernel
theorem dL_law_450 : decode cL_law 450 = .ok (.iconst 2, 1) := by decide +kernel
theorem dL_law_451 : decode cL_law 451 = .ok (.iadd, 1) := by decide +kernel
theorem dL_law_452 : decode cL_law 452 = .ok (.iaload, 1) := by decide +kernel
theorem dL_law_453 : decode cL_law 453 = .ok (.invokevirtual 56, 3) := by decide +kernel
theorem dL_law_456 : decode cL_law 456 = .ok (.aload_n 2, 1) := by decide +kernel
theorem dL_law_457 : decode cL_law 457 = .ok (.aload_n 0, 1) := by decide +kernel
theorem dL_law_458 : decode cL_law 458 = .ok (.iload_n 3, 1) := by decide +kernel
theorem dL_law_459 : decode cL_law 459 = .ok (.iconst 1, 1) := by decide +kernel
theorem dL_law_460 : decode cL_law 460 = .ok (.iadd, 1) := by decide +kernel
theorem dL_law_461 : decode cL_law 461 = .ok (.iaload, 1) := by decide +kernel
theorem dL_law_462 : decode cL_law 462 = .ok (.aload_n 0, 1) := by decide +kernel
theorem dL_law_463 : decode cL_law 463 = .ok (.iload_n 3, 1) := by decide +kernel
theorem dL_law_464 : decode cL_law 464 = .ok (.iconst 2, 1) := by decide +kernel
theorem dL_law_465 : decode cL_law 465 = .ok (.iadd, 1) := by decide +kernel
theorem dL_law_466 : decode cL_law 466 = .ok (.iaload, 1) := by decide +kernel
theorem dL_law_467 : decode cL_law 467 = .ok (.invokevirtual 59, 3) := by decide +kernel
theorem dL_law_470 : decode cL_law 470 = .ok (.if_icmp .eq 370, 3) := by decide +kernel
theorem dL_law_473 : decode cL_law 473 = .ok (.iconst 0, 1) := by decide +kernel
theorem dL_law_474 : decode cL_law 474 = .ok (.ireturn, 1) := by decide +kernel
theorem dL_law_475 : decode cL_law 475 = .ok (.aload_n 1, 1) := by decide +kernel
theorem dL_law_476 : decode cL_law 476 = .ok (.aload_n 0, 1) := by decide +kernel
theorem dL_law_477 : decode cL_law 477 = .ok (.iload_n 3, 1) := by decide +kernel
theorem dL_law_478 : decode cL_law 478 = .ok (.iconst 1, 1) := by decide +kernel
theorem dL_law_479 : decode cL_law 479 = .ok (.iadd, 1) := by decide +kernel
theorem dL_law_480 : decode cL_law 480 = .ok (.iaload, 1) := by decide +kernel
theorem dL_law_481 : decode cL_law 481 = .ok (.aload_n 0, 1) := by decide +kernel
theorem dL_law_482 : decode cL_law 482 = .ok (.iload_n 3, 1) := by decide +kernel
theorem dL_law_483 : decode cL_law 483 = .ok (.iconst 2, 1) := by decide +kernel
theorem dL_law_484 : decode cL_law 484 = .ok (.iadd, 1) := by decide +kernel
theorem dL_law_485 : decode cL_law 485 = .ok (.iaload, 1) := by decide +kernel
theorem dL_law_486 : decode cL_law 486 = .ok (.invokevirtual 60, 3) := by decide +kernel
theorem dL_law_489 : decode cL_law 489 = .ok (.aload_n 2, 1) := by decide +kernel
theorem dL_law_490 : decode cL_law 490 = .ok (.aload_n 0, 1) := by decide +kernel
theorem dL_law_491 : decode cL_law 491 = .ok (.iload_n 3, 1) := by decide +kernel
theorem dL_law_492 : decode cL_law 492 = .ok (.iconst 1, 1) := by decide +kernel
theorem dL_law_493 : decode cL_law 493 = .ok (.iadd, 1) := by decide +kernel
theorem dL_law_494 : decode cL_law 494 = .ok (.iaload, 1) := by decide +kernel
theorem dL_law_495 : decode cL_law 495 = .ok (.aload_n 0, 1) := by decide +kernel
theorem dL_law_496 : decode cL_law 496 = .ok (.iload_n 3, 1) := by decide +kernel
theorem dL_law_497 : decode cL_law 497 = .ok (.iconst 2, 1) := by decide +kernel
theorem dL_law_498 : decode cL_law 498 = .ok (.iadd, 1) := by decide +kernel
theorem dL_law_499 : decode cL_law 499 = .ok (.iaload, 1) := by decide +kernel
theorem dL_law_500 : decode cL_law 500 = .ok (.invokevirtual 63, 3) := by decide +kernel
theorem dL_law_503 : decode cL_law 503 = .ok (.if_icmp .eq 337, 3) := by decide +kernel
theorem dL_law_506 : decode cL_law 506 = .ok (.iconst 0, 1) := by decide +kernel
theorem dL_law_507 : decode cL_law 507 = .ok (.ireturn, 1) := by decide +kernel
theorem dL_law_508 : decode cL_law 508 = .ok (.aload_n 1, 1) := by decide +kernel
theorem dL_law_509 : decode cL_law 509 = .ok (.aload_n 0, 1) := by decide +kernel
theorem dL_law_510 : decode cL_law 510 = .ok (.iload_n 3, 1) := by decide +kernel
theorem dL_law_511 : decode cL_law 511 = .ok (.iconst 1, 1) := by decide +kernel
theorem dL_law_512 : decode cL_law 512 = .ok (.iadd, 1) := by decide +kernel
theorem dL_law_513 : decode cL_law 513 = .ok (.iaload, 1) := by decide +kernel
theorem dL_law_514 : decode cL_law 514 = .ok (.aload_n 0, 1) := by decide +kernel
theorem dL_law_515 : decode cL_law 515 = .ok (.iload_n 3, 1) := by decide +kernel
theorem dL_law_516 : decode cL_law 516 = .ok (.iconst 2, 1) := by decide +kernel
theorem dL_law_517 : decode cL_law 517 = .ok (.iadd, 1) := by decide +kernel
theorem dL_law_518 : decode cL_law 518 = .ok (.iaload, 1) := by decide +kernel
theorem dL_law_519 : decode cL_law 519 = .ok (.invokevirtual 64, 3) := by decide +kernel
theorem dL_law_522 : decode cL_law 522 = .ok (.aload_n 2, 1) := by decide +kernel
theorem dL_law_523 : decode cL_law 523 = .ok (.aload_n 0, 1) := by decide +kernel
theorem dL_law_524 : decode cL_law 524 = .ok (.iload_n 3, 1) := by decide +kernel
theorem dL_law_525 : decode cL_law 525 = .ok (.iconst 1, 1) := by decide +kernel
theorem dL_law_526 : decode cL_law 526 = .ok (.iadd, 1) := by decide +kernel
theorem dL_law_527 : decode cL_law 527 = .ok (.iaload, 1) := by decide +kernel
theorem dL_law_528 : decode cL_law 528 = .ok (.aload_n 0, 1) := by decide +kernel
theorem dL_law_529 : decode cL_law 529 = .ok (.iload_n 3, 1) := by decide +kernel
theorem dL_law_530 : decode cL_law 530 = .ok (.iconst 2, 1) := by decide +kernel
theorem dL_law_531 : decode cL_law 531 = .ok (.iadd, 1) := by decide +kernel
theorem dL_law_532 : decode cL_law 532 = .ok (.iaload, 1) := by decide +kernel
theorem dL_law_533 : decode cL_law 533 = .ok (.invokevirtual 67, 3) := by decide +kernel
theorem dL_law_536 : decode cL_law 536 = .ok (.if_icmp .eq 304, 3) := by decide +kernel
theorem dL_law_539 : decode cL_law 539 = .ok (.iconst 0, 1) := by decide +kernel
theorem dL_law_540 : decode cL_law 540 = .ok (.ireturn, 1) := by decide +kernel
theorem dL_law_541 : decode cL_law 541 = .ok (.aload_n 1, 1) := by decide +kernel
theorem dL_law_542 : decode cL_law 542 = .ok (.aload_n 0, 1) := by decide +kernel
theorem dL_law_543 : decode cL_law 543 = .ok (.iload_n 3, 1) := by decide +kernel
theorem dL_law_544 : decode cL_law 544 = .ok (.iconst 1, 1) := by decide +kernel
theorem dL_law_545 : decode cL_law 545 = .ok (.iadd, 1) := by decide +kernel
theorem dL_law_546 : decode cL_law 546 = .ok (.iaload, 1) := by decide +kernel
theorem dL_law_547 : decode cL_law 547 = .ok (.aload_n 0, 1) := by decide +kernel
theorem dL_law_548 : decode cL_law 548 = .ok (.iload_n 3, 1) := by decide +kernel
theorem dL_law_549 : decode cL_law 549 = .ok (.iconst 2, 1) := by decide +kernel
theorem dL_law_550 : decode cL_law 550 = .ok (.iadd, 1) := by decide +kernel
theorem dL_law_551 : decode cL_law 551 = .ok (.iaload, 1) := by decide +kernel
theorem dL_law_552 : decode cL_law 552 = .ok (.invokevirtual 68, 3) := by decide +kernel
theorem dL_law_555 : decode cL_law 555 = .ok (.aload_n 2, 1) := by decide +kernel
theorem dL_law_556 : decode cL_law 556 = .ok (.aload_n 0, 1) := by decide +kernel
theorem dL_law_557 : decode cL_law 557 = .ok (.iload_n 3, 1) := by decide +kernel
theorem dL_law_558 : decode cL_law 558 = .ok (.iconst 1, 1) := by decide +kernel
theorem dL_law_559 : decode cL_law 559 = .ok (.iadd, 1) := by decide +kernel
theorem dL_law_560 : decode cL_law 560 = .ok (.iaload, 1) := by decide +kernel
theorem dL_law_561 : decode cL_law 561 = .ok (.aload_n 0, 1) := by decide +kernel
theorem dL_law_562 : decode cL_law 562 = .ok (.iload_n 3, 1) := by decide +kernel
theorem dL_law_563 : decode cL_law 563 = .ok (.iconst 2, 1) := by decide +kernel
theorem dL_law_564 : decode cL_law 564 = .ok (.iadd, 1) := by decide +kernel
theorem dL_law_565 : decode cL_law 565 = .ok (.iaload, 1) := by decide +kernel
theorem dL_law_566 : decode cL_law 566 = .ok (.invokevirtual 71, 3) := by decide +kernel
theorem dL_law_569 : decode cL_law 569 = .ok (.if_icmp .eq 271, 3) := by decide +kernel
theorem dL_law_572 : decode cL_law 572 = .ok (.iconst 0, 1) := by decide +kernel
theorem dL_law_573 : decode cL_law 573 = .ok (.ireturn, 1) := by decide +kernel
theorem dL_law_574 : decode cL_law 574 = .ok (.aload_n 1, 1) := by decide +kernel
theorem dL_law_575 : decode cL_law 575 = .ok (.aload_n 0, 1) := by decide +kernel
theorem dL_law_576 : decode cL_law 576 = .ok (.iload_n 3, 1) := by decide +kernel
theorem dL_law_577 : decode cL_law 577 = .ok (.iconst 1, 1) := by decide +kernel
theorem dL_law_578 : decode cL_law 578 = .ok (.iadd, 1) := by decide +kernel
theorem dL_law_579 : decode cL_law 579 = .ok (.iaload, 1) := by decide +kernel
theorem dL_law_580 : decode cL_law 580 = .ok (.invokevirtual 72, 3) := by decide +kernel
theorem dL_law_583 : decode cL_law 583 = .ok (.aload_n 2, 1) := by decide +kernel
theorem dL_law_584 : decode cL_law 584 = .ok (.aload_n 0, 1) := by decide +kernel
theorem dL_law_585 : decode cL_law 585 = .ok (.iload_n 3, 1) := by decide +kernel
theorem dL_law_586 : decode cL_law 586 = .ok (.iconst 1, 1) := by decide +kernel
theorem dL_law_587 : decode cL_law 587 = .ok (.iadd, 1) := by decide +kernel
theorem dL_law_588 : decode cL_law 588 = .ok (.iaload, 1) := by decide +kernel
theorem dL_law_589 : decode cL_law 589 = .ok (.invokevirtual 75, 3) := by decide +kernel
theorem dL_law_592 : decode cL_law 592 = .ok (.if_icmp .eq 248, 3) := by decide +kernel
theorem dL_law_595 : decode cL_law 595 = .ok (.iconst 0, 1) := by decide +kernel
theorem dL_law_596 : decode cL_law 596 = .ok (.ireturn, 1) := by decide +kernel
theorem dL_law_597 : decode cL_law 597 = .ok (.aload_n 1, 1) := by decide +kernel
theorem dL_law_598 : decode cL_law 598 = .ok (.aload_n 0, 1) := by decide +kernel
theorem dL_law_599 : decode cL_law 599 = .ok (.iload_n 3, 1) := by decide +kernel
theorem dL_law_600 : decode cL_law 600 = .ok (.iconst 1, 1) := by decide +kernel
theorem dL_law_601 : decode cL_law 601 = .ok (.iadd, 1) := by decide +kernel
theorem dL_law_602 : decode cL_law 602 = .ok (.iaload, 1) := by decide +kernel
theorem dL_law_603 : decode cL_law 603 = .ok (.aload_n 0, 1) := by decide +kernel
theorem dL_law_604 : decode cL_law 604 = .ok (.iload_n 3, 1) := by decide +kernel
theorem dL_law_605 : decode cL_law 605 = .ok (.iconst 2, 1) := by decide +kernel
theorem dL_law_606 : decode cL_law 606 = .ok (.iadd, 1) := by decide +kernel
theorem dL_law_607 : decode cL_law 607 = .ok (.iaload, 1) := by decide +kernel
theorem dL_law_608 : decode cL_law 608 = .ok (.aload_n 0, 1) := by decide +kernel
theorem dL_law_609 : decode cL_law 609 = .ok (.iload_n 3, 1) := by decide +kernel
theorem dL_law_610 : decode cL_law 610 = .ok (.iconst 3, 1) := by decide +kernel
theorem dL_law_611 : decode cL_law 611 = .ok (.iadd, 1) := by decide +kernel
theorem dL_law_612 : decode cL_law 612 = .ok (.iaload, 1) := by decide +kernel
theorem dL_law_613 : decode cL_law 613 = .ok (.invokevirtual 76, 3) := by decide +kernel
theorem dL_law_616 : decode cL_law 616 = .ok (.aload_n 2, 1) := by decide +kernel
theorem dL_law_617 : decode cL_law 617 = .ok (.aload_n 0, 1) := by decide +kernel
theorem dL_law_618 : decode cL_law 618 = .ok (.iload_n 3, 1) := by decide +kernel
theorem dL_law_619 : decode cL_law 619 = .ok (.iconst 1, 1) := by decide +kernel
theorem dL_law_620 : decode cL_law 620 = .ok (.iadd, 1) := by decide +kernel
theorem dL_law_621 : decode cL_law 621 = .ok (.iaload, 1) := by decide +kernel
theorem dL_law_622 : decode cL_law 622 = .ok (.aload_n 0, 1) := by decide +kernel
theorem dL_law_623 : decode cL_law 623 = .ok (.iload_n 3, 1) := by decide +kernel
theorem dL_law_624 : decode cL_law 624 = .ok (.iconst 2, 1) := by decide +kernel
theorem dL_law_625 : decode cL_law 625 = .ok (.iadd, 1) := by decide +kernel
theorem dL_law_626 : decode cL_law 626 = .ok (.iaload, 1) := by decide +kernel
theorem dL_law_627 : decode cL_law 627 = .ok (.aload_n 0, 1) := by decide +kernel
theorem dL_law_628 : decode cL_law 628 = .ok (.iload_n 3, 1) := by decide +kernel
theorem dL_law_629 : decode cL_law 629 = .ok (.iconst 3, 1) := by decide +kernel
theorem dL_law_630 : decode cL_law 630 = .ok (.iadd, 1) := by decide +kernel
theorem dL_law_631 : decode cL_law 631 = .ok (.iaload, 1) := by decide +kernel
theorem dL_law_632 : decode cL_law 632 = .ok (.invokevirtual 79, 3) := by decide +kernel
theorem dL_law_635 : decode cL_law 635 = .ok (.if_icmp .eq 205, 3) := by decide +kernel
theorem dL_law_638 : decode cL_law 638 = .ok (.iconst 0, 1) := by decide +kernel
theorem dL_law_639 : decode cL_law 639 = .ok (.ireturn, 1) := by decide +kernel
theorem dL_law_640 : decode cL_law 640 = .ok (.aload_n 1, 1) := by decide +kernel
theorem dL_law_641 : decode cL_law 641 = .ok (.aload_n 0, 1) := by decide +kernel
theorem dL_law_642 : decode cL_law 642 = .ok (.iload_n 3, 1) := by decide +kernel
theorem dL_law_643 : decode cL_law 643 = .ok (.iconst 1, 1) := by decide +kernel
theorem dL_law_644 : decode cL_law 644 = .ok (.iadd, 1) := by decide +kernel
theorem dL_law_645 : decode cL_law 645 = .ok (.iaload, 1) := by decide +kernel
theorem dL_law_646 : decode cL_law 646 = .ok (.invokevirtual 80, 3) := by decide +kernel
theorem dL_law_649 : decode cL_law 649 = .ok (.aload_n 2, 1) := by decide +kernel
theorem dL_law_650 : decode cL_law 650 = .ok (.aload_n 0, 1) := by decide +kernel
theorem dL_law_651 : decode cL_law 651 = .ok (.iload_n 3, 1) := by decide +kernel
theorem dL_law_652 : decode cL_law 652 = .ok (.iconst 1, 1) := by decide +kernel
theorem dL_law_653 : decode cL_law 653 = .ok (.iadd, 1) := by decide +kernel
theorem dL_law_654 : decode cL_law 654 = .ok (.iaload, 1) := by decide +kernel
theorem dL_law_655 : decode cL_law 655 = .ok (.invokevirtual 83, 3) := by decide +kernel
theorem dL_law_658 : decode cL_law 658 = .ok (.if_icmp .eq 182, 3) := by decide +kernel
theorem dL_law_661 : decode cL_law 661 = .ok (.iconst 0, 1) := by decide +kernel
theorem dL_law_662 : decode cL_law 662 = .ok (.ireturn, 1) := by decide +kernel
theorem dL_law_663 : decode cL_law 663 = .ok (.aload_n 1, 1) := by decide +kernel
theorem dL_law_664 : decode cL_law 664 = .ok (.aload_n 0, 1) := by decide +kernel
theorem dL_law_665 : decode cL_law 665 = .ok (.iload_n 3, 1) := by decide +kernel
theorem dL_law_666 : decode cL_law 666 = .ok (.iconst 1, 1) := by decide +kernel
theorem dL_law_667 : decode cL_law 667 = .ok (.iadd, 1) := by decide +kernel
theorem dL_law_668 : decode cL_law 668 = .ok (.iaload, 1) := by decide +kernel
theorem dL_law_669 : decode cL_law 669 = .ok (.invokevirtual 84, 3) := by decide +kernel
theorem dL_law_672 : decode cL_law 672 = .ok (.aload_n 2, 1) := by decide +kernel
theorem dL_law_673 : decode cL_law 673 = .ok (.aload_n 0, 1) := by decide +kernel
theorem dL_law_674 : decode cL_law 674 = .ok (.iload_n 3, 1) := by decide +kernel
theorem dL_law_675 : decode cL_law 675 = .ok (.iconst 1, 1) := by decide +kernel
theorem dL_law_676 : decode cL_law 676 = .ok (.iadd, 1) := by decide +kernel
theorem dL_law_677 : decode cL_law 677 = .ok (.iaload, 1) := by decide +kernel
theorem dL_law_678 : decode cL_law 678 = .ok (.invokevirtual 87, 3) := by decide +kernel
theorem dL_law_681 : decode cL_law 681 = .ok (.if_icmp .eq 159, 3) := by decide +kernel
theorem dL_law_684 : decode cL_law 684 = .ok (.iconst 0, 1) := by decide +kernel
theorem dL_law_685 : decode cL_law 685 = .ok (.ireturn, 1) := by decide +kernel
theorem dL_law_686 : decode cL_law 686 = .ok (.aload_n 1, 1) := by decide +kernel
theorem dL_law_687 : decode cL_law 687 = .ok (.aload_n 0, 1) := by decide +kernel
theorem dL_law_688 : decode cL_law 688 = .ok (.iload_n 3, 1) := by decide +kernel
theorem dL_law_689 : decode cL_law 689 = .ok (.iconst 1, 1) := by decide +kernel
theorem dL_law_690 : decode cL_law 690 = .ok (.iadd, 1) := by decide +kernel
theorem dL_law_691 : decode cL_law 691 = .ok (.iaload, 1) := by decide +kernel
theorem dL_law_692 : decode cL_law 692 = .ok (.invokevirtual 88, 3) := by decide +kernel
theorem dL_law_695 : decode cL_law 695 = .ok (.aload_n 2, 1) := by decide +kernel
theorem dL_law_696 : decode cL_law 696 = .ok (.aload_n 0, 1) := by decide +kernel
theorem dL_law_697 : decode cL_law 697 = .ok (.iload_n 3, 1) := by decide +kernel
theorem dL_law_698 : decode cL_law 698 = .ok (.iconst 1, 1) := by decide +kernel
theorem dL_law_699 : decode cL_law 699 = .ok (.iadd, 1) := by decide +kernel
theorem dL_law_700 : decode cL_law 700 = .ok (.iaload, 1) := by decide +kernel
theorem dL_law_701 : decode cL_law 701 = .ok (.invokevirtual 91, 3) := by decide +kernel
theorem dL_law_704 : decode cL_law 704 = .ok (.if_icmp .eq 136, 3) := by decide +kernel
theorem dL_law_707 : decode cL_law 707 = .ok (.iconst 0, 1) := by decide +kernel
theorem dL_law_708 : decode cL_law 708 = .ok (.ireturn, 1) := by decide +kernel
theorem dL_law_709 : decode cL_law 709 = .ok (.aload_n 1, 1) := by decide +kernel
theorem dL_law_710 : decode cL_law 710 = .ok (.aload_n 0, 1) := by decide +kernel
theorem dL_law_711 : decode cL_law 711 = .ok (.iload_n 3, 1) := by decide +kernel
theorem dL_law_712 : decode cL_law 712 = .ok (.iconst 1, 1) := by decide +kernel
theorem dL_law_713 : decode cL_law 713 = .ok (.iadd, 1) := by decide +kernel
theorem dL_law_714 : decode cL_law 714 = .ok (.iaload, 1) := by decide +kernel
theorem dL_law_715 : decode cL_law 715 = .ok (.invokevirtual 92, 3) := by decide +kernel
theorem dL_law_718 : decode cL_law 718 = .ok (.aload_n 2, 1) := by decide +kernel
theorem dL_law_719 : decode cL_law 719 = .ok (.aload_n 0, 1) := by decide +kernel
theorem dL_law_720 : decode cL_law 720 = .ok (.iload_n 3, 1) := by decide +kernel
theorem dL_law_721 : decode cL_law 721 = .ok (.iconst 1, 1) := by decide +kernel
theorem dL_law_722 : decode cL_law 722 = .ok (.iadd, 1) := by decide +kernel
theorem dL_law_723 : decode cL_law 723 = .ok (.iaload, 1) := by decide +kernel
theorem dL_law_724 : decode cL_law 724 = .ok (.invokevirtual 95, 3) := by decide +kernel
theorem dL_law_727 : decode cL_law 727 = .ok (.if_icmp .eq 113, 3) := by decide +kernel
theorem dL_law_730 : decode cL_law 730 = .ok (.iconst 0, 1) := by decide +kernel
theorem dL_law_731 : decode cL_law 731 = .ok (.ireturn, 1) := by decide +kernel
theorem dL_law_732 : decode cL_law 732 = .ok (.aload_n 1, 1) := by decide +kernel
theorem dL_law_733 : decode cL_law 733 = .ok (.aload_n 0, 1) := by decide +kernel
theorem dL_law_734 : decode cL_law 734 = .ok (.iload_n 3, 1) := by decide +kernel
theorem dL_law_735 : decode cL_law 735 = .ok (.iconst 1, 1) := by decide +kernel
theorem dL_law_736 : decode cL_law 736 = .ok (.iadd, 1) := by decide +kernel
theorem dL_law_737 : decode cL_law 737 = .ok (.iaload, 1) := by decide +kernel
theorem dL_law_738 : decode cL_law 738 = .ok (.invokevirtual 96, 3) := by decide +kernel
theorem dL_law_741 : decode cL_law 741 = .ok (.aload_n 2, 1) := by decide +kernel
theorem dL_law_742 : decode cL_law 742 = .ok (.aload_n 0, 1) := by decide +kernel
theorem dL_law_743 : decode cL_law 743 = .ok (.iload_n 3, 1) := by decide +kernel
theorem dL_law_744 : decode cL_law 744 = .ok (.iconst 1, 1) := by decide +kernel
theorem dL_law_745 : decode cL_law 745 = .ok (.iadd, 1) := by decide +kernel
theorem dL_law_746 : decode cL_law 746 = .ok (.iaload, 1) := by decide +kernel
theorem dL_law_747 : decode cL_law 747 = .ok (.invokevirtual 99, 3) := by decide +kernel
theorem dL_law_750 : decode cL_law 750 = .ok (.if_icmp .eq 90, 3) := by decide +kernel
theorem dL_law_753 : decode cL_law 753 = .ok (.iconst 0, 1) := by decide +kernel
theorem dL_law_754 : decode cL_law 754 = .ok (.ireturn, 1) := by decide +kernel
theorem dL_law_755 : decode cL_law 755 = .ok (.aload_n 1, 1) := by decide +kernel
theorem dL_law_756 : decode cL_law 756 = .ok (.invokevirtual 100, 3) := by decide +kernel
theorem dL_law_759 : decode cL_law 759 = .ok (.aload_n 2, 1) := by decide +kernel
theorem dL_law_760 : decode cL_law 760 = .ok (.invokevirtual 104, 3) := by decide +kernel
theorem dL_law_763 : decode cL_law 763 = .ok (.if_icmp .eq 77, 3) := by decide +kernel
theorem dL_law_766 : decode cL_law 766 = .ok (.iconst 0, 1) := by decide +kernel
theorem dL_law_767 : decode cL_law 767 = .ok (.ireturn, 1) := by decide +kernel
theorem dL_law_768 : decode cL_law 768 = .ok (.aload_n 1, 1) := by decide +kernel
theorem dL_law_769 : decode cL_law 769 = .ok (.aload_n 0, 1) := by decide +kernel
theorem dL_law_770 : decode cL_law 770 = .ok (.iload_n 3, 1) := by decide +kernel
theorem dL_law_771 : decode cL_law 771 = .ok (.iconst 1, 1) := by decide +kernel
theorem dL_law_772 : decode cL_law 772 = .ok (.iadd, 1) := by decide +kernel
theorem dL_law_773 : decode cL_law 773 = .ok (.iaload, 1) := by decide +kernel
theorem dL_law_774 : decode cL_law 774 = .ok (.invokevirtual 105, 3) := by decide +kernel
theorem dL_law_777 : decode cL_law 777 = .ok (.aload_n 2, 1) := by decide +kernel
theorem dL_law_778 : decode cL_law 778 = .ok (.aload_n 0, 1) := by decide +kernel
theorem dL_law_779 : decode cL_law 779 = .ok (.iload_n 3, 1) := by decide +kernel
theorem dL_law_780 : decode cL_law 780 = .ok (.iconst 1, 1) := by decide +kernel
theorem dL_law_781 : decode cL_law 781 = .ok (.iadd, 1) := by decide +kernel
theorem dL_law_782 : decode cL_law 782 = .ok (.iaload, 1) := by decide +kernel
theorem dL_law_783 : decode cL_law 783 = .ok (.invokevirtual 108, 3) := by decide +kernel
theorem dL_law_786 : decode cL_law 786 = .ok (.if_icmp .eq 54, 3) := by decide +kernel
theorem dL_law_789 : decode cL_law 789 = .ok (.iconst 0, 1) := by decide +kernel
theorem dL_law_790 : decode cL_law 790 = .ok (.ireturn, 1) := by decide +kernel
theorem dL_law_791 : decode cL_law 791 = .ok (.aload_n 1, 1) := by decide +kernel
theorem dL_law_792 : decode cL_law 792 = .ok (.invokevirtual 109, 3) := by decide +kernel
theorem dL_law_795 : decode cL_law 795 = .ok (.aload_n 2, 1) := by decide +kernel
theorem dL_law_796 : decode cL_law 796 = .ok (.invokevirtual 112, 3) := by decide +kernel
theorem dL_law_799 : decode cL_law 799 = .ok (.if_icmp .eq 41, 3) := by decide +kernel
theorem dL_law_802 : decode cL_law 802 = .ok (.iconst 0, 1) := by decide +kernel
theorem dL_law_803 : decode cL_law 803 = .ok (.ireturn, 1) := by decide +kernel
theorem dL_law_804 : decode cL_law 804 = .ok (.aload_n 1, 1) := by decide +kernel
theorem dL_law_805 : decode cL_law 805 = .ok (.aload_n 0, 1) := by decide +kernel
theorem dL_law_806 : decode cL_law 806 = .ok (.iload_n 3, 1) := by decide +kernel
theorem dL_law_807 : decode cL_law 807 = .ok (.iconst 1, 1) := by decide +kernel
theorem dL_law_808 : decode cL_law 808 = .ok (.iadd, 1) := by decide +kernel
theorem dL_law_809 : decode cL_law 809 = .ok (.iaload, 1) := by decide +kernel
theorem dL_law_810 : decode cL_law 810 = .ok (.invokevirtual 113, 3) := by decide +kernel
theorem dL_law_813 : decode cL_law 813 = .ok (.aload_n 2, 1) := by decide +kernel
theorem dL_law_814 : decode cL_law 814 = .ok (.aload_n 0, 1) := by decide +kernel
theorem dL_law_815 : decode cL_law 815 = .ok (.iload_n 3, 1) := by decide +kernel
theorem dL_law_816 : decode cL_law 816 = .ok (.iconst 1, 1) := by decide +kernel
theorem dL_law_817 : decode cL_law 817 = .ok (.iadd, 1) := by decide +kernel
theorem dL_law_818 : decode cL_law 818 = .ok (.iaload, 1) := by decide +kernel
theorem dL_law_819 : decode cL_law 819 = .ok (.invokevirtual 116, 3) := by decide +kernel
theorem dL_law_822 : decode cL_law 822 = .ok (.if_icmp .eq 18, 3) := by decide +kernel
theorem dL_law_825 : decode cL_law 825 = .ok (.iconst 0, 1) := by decide +kernel
theorem dL_law_826 : decode cL_law 826 = .ok (.ireturn, 1) := by decide +kernel
theorem dL_law_827 : decode cL_law 827 = .ok (.aload_n 1, 1) := by decide +kernel
theorem dL_law_828 : decode cL_law 828 = .ok (.invokevirtual 117, 3) := by decide +kernel
theorem dL_law_831 : decode cL_law 831 = .ok (.aload_n 2, 1) := by decide +kernel
theorem dL_law_832 : decode cL_law 832 = .ok (.invokevirtual 120, 3) := by decide +kernel
theorem dL_law_835 : decode cL_law 835 = .ok (.if_icmp .eq 5, 3) := by decide +kernel
theorem dL_law_838 : decode cL_law 838 = .ok (.iconst 0, 1) := by decide +kernel
theorem dL_law_839 : decode cL_law 839 = .ok (.ireturn, 1) := by decide +kernel
theorem dL_law_840 : decode cL_law 840 = .ok (.iinc 3 4, 3) := by decide +kernel
theorem dL_law_843 : decode cL_law 843 = .ok (.goto (-825), 3) := by decide +kernel
theorem dL_law_846 : decode cL_law 846 = .ok (.iconst 1, 1) := by decide +kernel
theorem dL_law_847 : decode cL_law 847 = .ok (.ireturn, 1) := by decide +kernel
end
section
/-- the words that a method needs: those of the tables that hold wherever it is called -/
def jtw : List Cond := lw_tbl.filter goodWord
theorem jin {w : Cond} (i : Nat) (h : lw_tbl[i]? = some w) (hg : goodWord w = true) : w ∈ jtw := List.mem_filter.mpr ⟨List.mem_of_getElem? h, hg⟩
/-- the words that link private members of nest mates: carried as facts of the state -/
def jnw : List Cond := [Cond.methodLinkNest RX2 30 yX0_init "BoilerPapers", Cond.fieldLinkNest RX2 80 "BoilerPapers$Boiler" "builtFor" "I" "BoilerPapers", Cond.fieldLinkNest RX2 90 "BoilerPapers$Boiler" "working" "I" "BoilerPapers", Cond.fieldLinkNest RX2 134 "BoilerPapers$Boiler" "wear" "I" "BoilerPapers", Cond.fieldLinkNest RX2 83 "BoilerPapers$Boiler" "condition" "I" "BoilerPapers", Cond.fieldLinkNest RX2 147 "BoilerPapers$Boiler" "repairEnd" "I" "BoilerPapers", Cond.fieldLinkNest RX2 228 "BoilerPapers$Boiler" "repairAsked" "Z" "BoilerPapers", Cond.fieldLinkNest RX2 231 "BoilerPapers$Boiler" "paperGiven" "Z" "BoilerPapers", Cond.fieldLinkNest RX2 86 "BoilerPapers$Boiler" "paperPressure" "I" "BoilerPapers", Cond.fieldLinkNest RX2 128 "BoilerPapers$Boiler" "paperLast" "I" "BoilerPapers", Cond.fieldLinkNest RX2 137 "BoilerPapers$Boiler" "shutPlanned" "Z" "BoilerPapers", Cond.fieldLinkNest RX2 141 "BoilerPapers$Boiler" "shutFrom" "I" "BoilerPapers", Cond.fieldLinkNest RX2 144 "BoilerPapers$Boiler" "shutLast" "I" "BoilerPapers", Cond.methodLinkNest RX2 31 yX3_init "BoilerPapers", Cond.fieldLinkNest RX2 97 "BoilerPapers$Inspector" "insurer" "I" "BoilerPapers", Cond.methodLinkNest RX6 28 yX4_init "BoilerPapers", Cond.fieldLinkNest RX5 30 "BoilerPapers$OrderText" "start" "I" "BoilerPapers", Cond.fieldLinkNest RX5 33 "BoilerPapers$OrderText" "kind" "C" "BoilerPapers", Cond.fieldLinkNest RX5 37 "BoilerPapers$OrderText" "one" "I" "BoilerPapers", Cond.fieldLinkNest RX5 40 "BoilerPapers$OrderText" "other" "I" "BoilerPapers", Cond.methodLinkNest RX6 35 yX5_init "BoilerPapers", Cond.methodLinkNest RX2 73 yX6_isInsurer "BoilerPapers", Cond.fieldLinkNest RX2 169 "BoilerPapers" "GREATEST_SETTINGS" "[I" "BoilerPapers", Cond.methodLinkNest RX5 61 yX6_isError "BoilerPapers"]
def jnest (w : Cond) : Bool := match w with
  | .fieldLinkNest .. => true
  | .methodLinkNest .. => true
  | _ => false
theorem jnw_ok : jnw.all jnest = true := rfl
theorem jw_30 : Cond.methodLinkNest RX2 30 yX0_init "BoilerPapers" ∈ jnw := List.mem_of_getElem? (i := 0) rfl
theorem jw_35 : Cond.fieldLinkNest RX2 80 "BoilerPapers$Boiler" "builtFor" "I" "BoilerPapers" ∈ jnw := List.mem_of_getElem? (i := 1) rfl
theorem jw_37 : Cond.fieldLinkNest RX2 90 "BoilerPapers$Boiler" "working" "I" "BoilerPapers" ∈ jnw := List.mem_of_getElem? (i := 2) rfl
theorem jw_39 : Cond.fieldLinkNest RX2 134 "BoilerPapers$Boiler" "wear" "I" "BoilerPapers" ∈ jnw := List.mem_of_getElem? (i := 3) rfl
theorem jw_41 : Cond.fieldLinkNest RX2 83 "BoilerPapers$Boiler" "condition" "I" "BoilerPapers" ∈ jnw := List.mem_of_getElem? (i := 4) rfl
theorem jw_44 : Cond.fieldLinkNest RX2 147 "BoilerPapers$Boiler" "repairEnd" "I" "BoilerPapers" ∈ jnw := List.mem_of_getElem? (i := 5) rfl
theorem jw_46 : Cond.fieldLinkNest RX2 228 "BoilerPapers$Boiler" "repairAsked" "Z" "BoilerPapers" ∈ jnw := List.mem_of_getElem? (i := 6) rfl
theorem jw_48 : Cond.fieldLinkNest RX2 231 "BoilerPapers$Boiler" "paperGiven" "Z" "BoilerPapers" ∈ jnw := List.mem_of_getElem? (i := 7) rfl
theorem jw_51 : Cond.fieldLinkNest RX2 86 "BoilerPapers$Boiler" "paperPressure" "I" "BoilerPapers" ∈ jnw := List.mem_of_getElem? (i := 8) rfl
theorem jw_53 : Cond.fieldLinkNest RX2 128 "BoilerPapers$Boiler" "paperLast" "I" "BoilerPapers" ∈ jnw := List.mem_of_getElem? (i := 9) rfl
theorem jw_55 : Cond.fieldLinkNest RX2 137 "BoilerPapers$Boiler" "shutPlanned" "Z" "BoilerPapers" ∈ jnw := List.mem_of_getElem? (i := 10) rfl
theorem jw_57 : Cond.fieldLinkNest RX2 141 "BoilerPapers$Boiler" "shutFrom" "I" "BoilerPapers" ∈ jnw := List.mem_of_getElem? (i := 11) rfl
theorem jw_59 : Cond.fieldLinkNest RX2 144 "BoilerPapers$Boiler" "shutLast" "I" "BoilerPapers" ∈ jnw := List.mem_of_getElem? (i := 12) rfl
theorem jw_91 : Cond.methodLinkNest RX2 31 yX3_init "BoilerPapers" ∈ jnw := List.mem_of_getElem? (i := 13) rfl
theorem jw_96 : Cond.fieldLinkNest RX2 97 "BoilerPapers$Inspector" "insurer" "I" "BoilerPapers" ∈ jnw := List.mem_of_getElem? (i := 14) rfl
theorem jw_161 : Cond.methodLinkNest RX6 28 yX4_init "BoilerPapers" ∈ jnw := List.mem_of_getElem? (i := 15) rfl
theorem jw_167 : Cond.fieldLinkNest RX5 30 "BoilerPapers$OrderText" "start" "I" "BoilerPapers" ∈ jnw := List.mem_of_getElem? (i := 16) rfl
theorem jw_170 : Cond.fieldLinkNest RX5 33 "BoilerPapers$OrderText" "kind" "C" "BoilerPapers" ∈ jnw := List.mem_of_getElem? (i := 17) rfl
theorem jw_172 : Cond.fieldLinkNest RX5 37 "BoilerPapers$OrderText" "one" "I" "BoilerPapers" ∈ jnw := List.mem_of_getElem? (i := 18) rfl
theorem jw_174 : Cond.fieldLinkNest RX5 40 "BoilerPapers$OrderText" "other" "I" "BoilerPapers" ∈ jnw := List.mem_of_getElem? (i := 19) rfl
theorem jw_194 : Cond.methodLinkNest RX6 35 yX5_init "BoilerPapers" ∈ jnw := List.mem_of_getElem? (i := 20) rfl
theorem jw_296 : Cond.methodLinkNest RX2 73 yX6_isInsurer "BoilerPapers" ∈ jnw := List.mem_of_getElem? (i := 21) rfl
theorem jw_446 : Cond.fieldLinkNest RX2 169 "BoilerPapers" "GREATEST_SETTINGS" "[I" "BoilerPapers" ∈ jnw := List.mem_of_getElem? (i := 22) rfl
theorem jw_676 : Cond.methodLinkNest RX5 61 yX6_isError "BoilerPapers" ∈ jnw := List.mem_of_getElem? (i := 23) rfl
set_option maxRecDepth 100000 in
theorem jw_30_t : Cond.methodLinkNest RX2 30 yX0_init "BoilerPapers" ∈ lw_tbl := List.mem_of_getElem? (i := 87) (by decide +kernel)
set_option maxRecDepth 100000 in
theorem jw_35_t : Cond.fieldLinkNest RX2 80 "BoilerPapers$Boiler" "builtFor" "I" "BoilerPapers" ∈ lw_tbl := List.mem_of_getElem? (i := 92) (by decide +kernel)
set_option maxRecDepth 100000 in
theorem jw_37_t : Cond.fieldLinkNest RX2 90 "BoilerPapers$Boiler" "working" "I" "BoilerPapers" ∈ lw_tbl := List.mem_of_getElem? (i := 94) (by decide +kernel)
set_option maxRecDepth 100000 in
theorem jw_39_t : Cond.fieldLinkNest RX2 134 "BoilerPapers$Boiler" "wear" "I" "BoilerPapers" ∈ lw_tbl := List.mem_of_getElem? (i := 96) (by decide +kernel)
set_option maxRecDepth 100000 in
theorem jw_41_t : Cond.fieldLinkNest RX2 83 "BoilerPapers$Boiler" "condition" "I" "BoilerPapers" ∈ lw_tbl := List.mem_of_getElem? (i := 98) (by decide +kernel)
set_option maxRecDepth 100000 in
theorem jw_44_t : Cond.fieldLinkNest RX2 147 "BoilerPapers$Boiler" "repairEnd" "I" "BoilerPapers" ∈ lw_tbl := List.mem_of_getElem? (i := 101) (by decide +kernel)
set_option maxRecDepth 100000 in
theorem jw_46_t : Cond.fieldLinkNest RX2 228 "BoilerPapers$Boiler" "repairAsked" "Z" "BoilerPapers" ∈ lw_tbl := List.mem_of_getElem? (i := 103) (by decide +kernel)
set_option maxRecDepth 100000 in
theorem jw_48_t : Cond.fieldLinkNest RX2 231 "BoilerPapers$Boiler" "paperGiven" "Z" "BoilerPapers" ∈ lw_tbl := List.mem_of_getElem? (i := 105) (by decide +kernel)
set_option maxRecDepth 100000 in
theorem jw_51_t : Cond.fieldLinkNest RX2 86 "BoilerPapers$Boiler" "paperPressure" "I" "BoilerPapers" ∈ lw_tbl := List.mem_of_getElem? (i := 108) (by decide +kernel)
set_option maxRecDepth 100000 in
theorem jw_53_t : Cond.fieldLinkNest RX2 128 "BoilerPapers$Boiler" "paperLast" "I" "BoilerPapers" ∈ lw_tbl := List.mem_of_getElem? (i := 110) (by decide +kernel)
set_option maxRecDepth 100000 in
theorem jw_55_t : Cond.fieldLinkNest RX2 137 "BoilerPapers$Boiler" "shutPlanned" "Z" "BoilerPapers" ∈ lw_tbl := List.mem_of_getElem? (i := 112) (by decide +kernel)
set_option maxRecDepth 100000 in
theorem jw_57_t : Cond.fieldLinkNest RX2 141 "BoilerPapers$Boiler" "shutFrom" "I" "BoilerPapers" ∈ lw_tbl := List.mem_of_getElem? (i := 114) (by decide +kernel)
set_option maxRecDepth 100000 in
theorem jw_59_t : Cond.fieldLinkNest RX2 144 "BoilerPapers$Boiler" "shutLast" "I" "BoilerPapers" ∈ lw_tbl := List.mem_of_getElem? (i := 116) (by decide +kernel)
set_option maxRecDepth 100000 in
theorem jw_91_t : Cond.methodLinkNest RX2 31 yX3_init "BoilerPapers" ∈ lw_tbl := List.mem_of_getElem? (i := 148) (by decide +kernel)
set_option maxRecDepth 100000 in
theorem jw_96_t : Cond.fieldLinkNest RX2 97 "BoilerPapers$Inspector" "insurer" "I" "BoilerPapers" ∈ lw_tbl := List.mem_of_getElem? (i := 153) (by decide +kernel)
set_option maxRecDepth 100000 in
theorem jw_161_t : Cond.methodLinkNest RX6 28 yX4_init "BoilerPapers" ∈ lw_tbl := List.mem_of_getElem? (i := 218) (by decide +kernel)
set_option maxRecDepth 100000 in
theorem jw_167_t : Cond.fieldLinkNest RX5 30 "BoilerPapers$OrderText" "start" "I" "BoilerPapers" ∈ lw_tbl := List.mem_of_getElem? (i := 224) (by decide +kernel)
set_option maxRecDepth 100000 in
theorem jw_170_t : Cond.fieldLinkNest RX5 33 "BoilerPapers$OrderText" "kind" "C" "BoilerPapers" ∈ lw_tbl := List.mem_of_getElem? (i := 227) (by decide +kernel)
set_option maxRecDepth 100000 in
theorem jw_172_t : Cond.fieldLinkNest RX5 37 "BoilerPapers$OrderText" "one" "I" "BoilerPapers" ∈ lw_tbl := List.mem_of_getElem? (i := 229) (by decide +kernel)
set_option maxRecDepth 100000 in
theorem jw_174_t : Cond.fieldLinkNest RX5 40 "BoilerPapers$OrderText" "other" "I" "BoilerPapers" ∈ lw_tbl := List.mem_of_getElem? (i := 231) (by decide +kernel)
set_option maxRecDepth 100000 in
theorem jw_194_t : Cond.methodLinkNest RX6 35 yX5_init "BoilerPapers" ∈ lw_tbl := List.mem_of_getElem? (i := 251) (by decide +kernel)
set_option maxRecDepth 100000 in
theorem jw_296_t : Cond.methodLinkNest RX2 73 yX6_isInsurer "BoilerPapers" ∈ lw_tbl := List.mem_of_getElem? (i := 353) (by decide +kernel)
set_option maxRecDepth 100000 in
theorem jw_446_t : Cond.fieldLinkNest RX2 169 "BoilerPapers" "GREATEST_SETTINGS" "[I" "BoilerPapers" ∈ lw_tbl := List.mem_of_getElem? (i := 503) (by decide +kernel)
set_option maxRecDepth 100000 in
theorem jw_676_t : Cond.methodLinkNest RX5 61 yX6_isError "BoilerPapers" ∈ lw_tbl := List.mem_of_getElem? (i := 733) (by decide +kernel)
theorem jnw_tbl : ∀ w ∈ jnw, w ∈ lw_tbl := by
  intro w hw
  simp only [jnw, List.mem_cons, List.not_mem_nil, or_false] at hw
  rcases hw with rfl | rfl | rfl | rfl | rfl | rfl | rfl | rfl | rfl | rfl | rfl | rfl | rfl | rfl | rfl | rfl | rfl | rfl | rfl | rfl | rfl | rfl | rfl | rfl
  · exact jw_30_t
  · exact jw_35_t
  · exact jw_37_t
  · exact jw_39_t
  · exact jw_41_t
  · exact jw_44_t
  · exact jw_46_t
  · exact jw_48_t
  · exact jw_51_t
  · exact jw_53_t
  · exact jw_55_t
  · exact jw_57_t
  · exact jw_59_t
  · exact jw_91_t
  · exact jw_96_t
  · exact jw_161_t
  · exact jw_167_t
  · exact jw_170_t
  · exact jw_172_t
  · exact jw_174_t
  · exact jw_194_t
  · exact jw_296_t
  · exact jw_446_t
  · exact jw_676_t
end
section
set_option maxRecDepth 100000 in
theorem jw_0 : Cond.initialized RL ∈ jtw := jin 57 (by decide +kernel) rfl
set_option maxRecDepth 100000 in
theorem jw_1 : Cond.initialized RX6 ∈ jtw := jin 58 (by decide +kernel) rfl
set_option maxRecDepth 100000 in
theorem jw_2 : Cond.initialized RX2 ∈ jtw := jin 59 (by decide +kernel) rfl
set_option maxRecDepth 100000 in
theorem jw_3 : Cond.initialized RX0 ∈ jtw := jin 60 (by decide +kernel) rfl
set_option maxRecDepth 100000 in
theorem jw_4 : Cond.initialized RX3 ∈ jtw := jin 61 (by decide +kernel) rfl
set_option maxRecDepth 100000 in
theorem jw_5 : Cond.initialized RX1 ∈ jtw := jin 62 (by decide +kernel) rfl
set_option maxRecDepth 100000 in
theorem jw_6 : Cond.initialized RX4 ∈ jtw := jin 63 (by decide +kernel) rfl
set_option maxRecDepth 100000 in
theorem jw_7 : Cond.initialized RX5 ∈ jtw := jin 64 (by decide +kernel) rfl
set_option maxRecDepth 100000 in
theorem jw_8 : Cond.initialized RX7 ∈ jtw := jin 65 (by decide +kernel) rfl
set_option maxRecDepth 100000 in
theorem jw_9 : Cond.initialized RJ9 ∈ jtw := jin 66 (by decide +kernel) rfl
set_option maxRecDepth 100000 in
theorem jw_10 : Cond.initialized RJxf58ca ∈ jtw := jin 67 (by decide +kernel) rfl
set_option maxRecDepth 100000 in
theorem jw_11 : Cond.classLink RL 7 RX6 ∈ jtw := jin 68 (by decide +kernel) rfl
set_option maxRecDepth 100000 in
theorem jw_12 : Cond.instantiable RX6 5 ∈ jtw := jin 69 (by decide +kernel) rfl
set_option maxRecDepth 100000 in
theorem jw_13 : Cond.methodLink RL 9 yX6_init ∈ jtw := jin 70 (by decide +kernel) rfl
set_option maxRecDepth 100000 in
theorem jw_14 : Cond.instanceMethod yX6_init ∈ jtw := jin 71 (by decide +kernel) rfl
set_option maxRecDepth 100000 in
theorem jw_15 : Cond.code yX6_init cX6_init 1 none ∈ jtw := jin 72 rfl rfl
set_option maxRecDepth 100000 in
theorem jw_16 : Cond.methodLink RX6 1 objectInit ∈ jtw := jin 73 (by decide +kernel) rfl
set_option maxRecDepth 100000 in
theorem jw_17 : Cond.instanceMethod objectInit ∈ jtw := jin 74 (by decide +kernel) rfl
set_option maxRecDepth 100000 in
theorem jw_19 : Cond.classLink RX6 7 RX2 ∈ jtw := jin 76 (by decide +kernel) rfl
set_option maxRecDepth 100000 in
theorem jw_20 : Cond.instantiable RX2 9 ∈ jtw := jin 77 (by decide +kernel) rfl
set_option maxRecDepth 100000 in
theorem jw_21 : Cond.methodLink RX6 9 yX2_init ∈ jtw := jin 78 (by decide +kernel) rfl
set_option maxRecDepth 100000 in
theorem jw_22 : Cond.instanceMethod yX2_init ∈ jtw := jin 79 (by decide +kernel) rfl
set_option maxRecDepth 100000 in
theorem jw_23 : Cond.code yX2_init cX2_init 2 none ∈ jtw := jin 80 rfl rfl
set_option maxRecDepth 100000 in
theorem jw_24 : Cond.methodLink RX2 3 objectInit ∈ jtw := jin 81 (by decide +kernel) rfl
set_option maxRecDepth 100000 in
theorem jw_25 : Cond.classLink RX2 9 RX0 ∈ jtw := jin 82 (by decide +kernel) rfl
set_option maxRecDepth 100000 in
theorem jw_27 : Cond.classLink RX2 17 RX3 ∈ jtw := jin 84 (by decide +kernel) rfl
set_option maxRecDepth 100000 in
theorem jw_29 : Cond.instantiable RX0 14 ∈ jtw := jin 86 (by decide +kernel) rfl
set_option maxRecDepth 100000 in
theorem jw_31 : Cond.instanceMethod yX0_init ∈ jtw := jin 88 (by decide +kernel) rfl
set_option maxRecDepth 100000 in
theorem jw_32 : Cond.code yX0_init cX0_init 1 none ∈ jtw := jin 89 rfl rfl
set_option maxRecDepth 100000 in
theorem jw_33 : Cond.methodLink RX0 3 objectInit ∈ jtw := jin 90 (by decide +kernel) rfl
set_option maxRecDepth 100000 in
theorem jw_34 : Cond.fieldLink RX0 9 "BoilerPapers$Boiler" "builtFor" "I" ∈ jtw := jin 91 (by decide +kernel) rfl
set_option maxRecDepth 100000 in
theorem jw_36 : Cond.fieldLink RX0 15 "BoilerPapers$Boiler" "working" "I" ∈ jtw := jin 93 (by decide +kernel) rfl
set_option maxRecDepth 100000 in
theorem jw_38 : Cond.fieldLink RX0 18 "BoilerPapers$Boiler" "wear" "I" ∈ jtw := jin 95 (by decide +kernel) rfl
set_option maxRecDepth 100000 in
theorem jw_40 : Cond.fieldLink RX0 21 "BoilerPapers$Boiler" "condition" "I" ∈ jtw := jin 97 (by decide +kernel) rfl
set_option maxRecDepth 100000 in
theorem jw_42 : Cond.fieldLink RX0 24 "BoilerPapers$Boiler" "coldWeeks" "I" ∈ jtw := jin 99 (by decide +kernel) rfl
set_option maxRecDepth 100000 in
theorem jw_43 : Cond.fieldLink RX0 27 "BoilerPapers$Boiler" "repairEnd" "I" ∈ jtw := jin 100 (by decide +kernel) rfl
set_option maxRecDepth 100000 in
theorem jw_45 : Cond.fieldLink RX0 30 "BoilerPapers$Boiler" "repairAsked" "Z" ∈ jtw := jin 102 (by decide +kernel) rfl
set_option maxRecDepth 100000 in
theorem jw_47 : Cond.fieldLink RX0 34 "BoilerPapers$Boiler" "paperGiven" "Z" ∈ jtw := jin 104 (by decide +kernel) rfl
set_option maxRecDepth 100000 in
theorem jw_49 : Cond.fieldLink RX0 40 "BoilerPapers$Boiler" "paperInsurer" "I" ∈ jtw := jin 106 (by decide +kernel) rfl
set_option maxRecDepth 100000 in
theorem jw_50 : Cond.fieldLink RX0 43 "BoilerPapers$Boiler" "paperPressure" "I" ∈ jtw := jin 107 (by decide +kernel) rfl
set_option maxRecDepth 100000 in
theorem jw_52 : Cond.fieldLink RX0 46 "BoilerPapers$Boiler" "paperLast" "I" ∈ jtw := jin 109 (by decide +kernel) rfl
set_option maxRecDepth 100000 in
theorem jw_54 : Cond.fieldLink RX0 37 "BoilerPapers$Boiler" "shutPlanned" "Z" ∈ jtw := jin 111 (by decide +kernel) rfl
set_option maxRecDepth 100000 in
theorem jw_56 : Cond.fieldLink RX0 49 "BoilerPapers$Boiler" "shutFrom" "I" ∈ jtw := jin 113 (by decide +kernel) rfl
set_option maxRecDepth 100000 in
theorem jw_58 : Cond.fieldLink RX0 52 "BoilerPapers$Boiler" "shutLast" "I" ∈ jtw := jin 115 (by decide +kernel) rfl
set_option maxRecDepth 100000 in
theorem jw_60 : Cond.lays RX0 "BoilerPapers$Boiler" "builtFor" "I" ∈ jtw := jin 117 (by decide +kernel) rfl
set_option maxRecDepth 100000 in
theorem jw_62 : Cond.lays RX0 "BoilerPapers$Boiler" "working" "I" ∈ jtw := jin 119 (by decide +kernel) rfl
set_option maxRecDepth 100000 in
theorem jw_64 : Cond.lays RX0 "BoilerPapers$Boiler" "wear" "I" ∈ jtw := jin 121 (by decide +kernel) rfl
set_option maxRecDepth 100000 in
theorem jw_66 : Cond.lays RX0 "BoilerPapers$Boiler" "condition" "I" ∈ jtw := jin 123 (by decide +kernel) rfl
set_option maxRecDepth 100000 in
theorem jw_68 : Cond.lays RX0 "BoilerPapers$Boiler" "coldWeeks" "I" ∈ jtw := jin 125 (by decide +kernel) rfl
set_option maxRecDepth 100000 in
theorem jw_70 : Cond.lays RX0 "BoilerPapers$Boiler" "repairEnd" "I" ∈ jtw := jin 127 (by decide +kernel) rfl
set_option maxRecDepth 100000 in
theorem jw_72 : Cond.lays RX0 "BoilerPapers$Boiler" "repairAsked" "Z" ∈ jtw := jin 129 (by decide +kernel) rfl
set_option maxRecDepth 100000 in
theorem jw_74 : Cond.lays RX0 "BoilerPapers$Boiler" "paperGiven" "Z" ∈ jtw := jin 131 (by decide +kernel) rfl
set_option maxRecDepth 100000 in
theorem jw_76 : Cond.lays RX0 "BoilerPapers$Boiler" "paperInsurer" "I" ∈ jtw := jin 133 (by decide +kernel) rfl
set_option maxRecDepth 100000 in
theorem jw_78 : Cond.lays RX0 "BoilerPapers$Boiler" "paperPressure" "I" ∈ jtw := jin 135 (by decide +kernel) rfl
set_option maxRecDepth 100000 in
theorem jw_80 : Cond.lays RX0 "BoilerPapers$Boiler" "paperLast" "I" ∈ jtw := jin 137 (by decide +kernel) rfl
set_option maxRecDepth 100000 in
theorem jw_82 : Cond.lays RX0 "BoilerPapers$Boiler" "shutPlanned" "Z" ∈ jtw := jin 139 (by decide +kernel) rfl
set_option maxRecDepth 100000 in
theorem jw_84 : Cond.lays RX0 "BoilerPapers$Boiler" "shutFrom" "I" ∈ jtw := jin 141 (by decide +kernel) rfl
set_option maxRecDepth 100000 in
theorem jw_86 : Cond.lays RX0 "BoilerPapers$Boiler" "shutLast" "I" ∈ jtw := jin 143 (by decide +kernel) rfl
set_option maxRecDepth 100000 in
theorem jw_89 : Cond.arrayClass .int ∈ jtw := jin 146 (by decide +kernel) rfl
set_option maxRecDepth 100000 in
theorem jw_90 : Cond.instantiable RX3 5 ∈ jtw := jin 147 (by decide +kernel) rfl
set_option maxRecDepth 100000 in
theorem jw_92 : Cond.instanceMethod yX3_init ∈ jtw := jin 149 (by decide +kernel) rfl
set_option maxRecDepth 100000 in
theorem jw_93 : Cond.code yX3_init cX3_init 1 none ∈ jtw := jin 150 rfl rfl
set_option maxRecDepth 100000 in
theorem jw_94 : Cond.methodLink RX3 3 objectInit ∈ jtw := jin 151 (by decide +kernel) rfl
set_option maxRecDepth 100000 in
theorem jw_95 : Cond.fieldLink RX3 9 "BoilerPapers$Inspector" "insurer" "I" ∈ jtw := jin 152 (by decide +kernel) rfl
set_option maxRecDepth 100000 in
theorem jw_97 : Cond.fieldLink RX3 15 "BoilerPapers$Inspector" "inWeek" "I" ∈ jtw := jin 154 (by decide +kernel) rfl
set_option maxRecDepth 100000 in
theorem jw_98 : Cond.fieldLink RX3 18 "BoilerPapers$Inspector" "doneThisWeek" "I" ∈ jtw := jin 155 (by decide +kernel) rfl
set_option maxRecDepth 100000 in
theorem jw_99 : Cond.fieldLink RX3 21 "BoilerPapers$Inspector" "inspections" "I" ∈ jtw := jin 156 (by decide +kernel) rfl
set_option maxRecDepth 100000 in
theorem jw_100 : Cond.fieldLink RX3 24 "BoilerPapers$Inspector" "papers" "I" ∈ jtw := jin 157 (by decide +kernel) rfl
set_option maxRecDepth 100000 in
theorem jw_101 : Cond.lays RX3 "BoilerPapers$Inspector" "insurer" "I" ∈ jtw := jin 158 (by decide +kernel) rfl
set_option maxRecDepth 100000 in
theorem jw_103 : Cond.lays RX3 "BoilerPapers$Inspector" "inWeek" "I" ∈ jtw := jin 160 (by decide +kernel) rfl
set_option maxRecDepth 100000 in
theorem jw_105 : Cond.lays RX3 "BoilerPapers$Inspector" "doneThisWeek" "I" ∈ jtw := jin 162 (by decide +kernel) rfl
set_option maxRecDepth 100000 in
theorem jw_107 : Cond.lays RX3 "BoilerPapers$Inspector" "inspections" "I" ∈ jtw := jin 164 (by decide +kernel) rfl
set_option maxRecDepth 100000 in
theorem jw_109 : Cond.lays RX3 "BoilerPapers$Inspector" "papers" "I" ∈ jtw := jin 166 (by decide +kernel) rfl
set_option maxRecDepth 100000 in
theorem jw_112 : Cond.fieldLink RX2 11 "BoilerPapers$House" "boilers" "[LBoilerPapers$Boiler;" ∈ jtw := jin 169 (by decide +kernel) rfl
set_option maxRecDepth 100000 in
theorem jw_113 : Cond.fieldLink RX2 19 "BoilerPapers$House" "inspectors" "[LBoilerPapers$Inspector;" ∈ jtw := jin 170 (by decide +kernel) rfl
set_option maxRecDepth 100000 in
theorem jw_114 : Cond.fieldLink RX2 23 "BoilerPapers$House" "settings" "[I" ∈ jtw := jin 171 (by decide +kernel) rfl
set_option maxRecDepth 100000 in
theorem jw_115 : Cond.fieldLink RX2 27 "BoilerPapers$House" "accounts" "[I" ∈ jtw := jin 172 (by decide +kernel) rfl
set_option maxRecDepth 100000 in
theorem jw_116 : Cond.fieldLink RX2 32 "BoilerPapers$House" "boilerCount" "I" ∈ jtw := jin 173 (by decide +kernel) rfl
set_option maxRecDepth 100000 in
theorem jw_117 : Cond.fieldLink RX2 36 "BoilerPapers$House" "inspectorCount" "I" ∈ jtw := jin 174 (by decide +kernel) rfl
set_option maxRecDepth 100000 in
theorem jw_118 : Cond.fieldLink RX2 39 "BoilerPapers$House" "week" "I" ∈ jtw := jin 175 (by decide +kernel) rfl
set_option maxRecDepth 100000 in
theorem jw_119 : Cond.fieldLink RX2 42 "BoilerPapers$House" "putOutByWeeks" "I" ∈ jtw := jin 176 (by decide +kernel) rfl
set_option maxRecDepth 100000 in
theorem jw_120 : Cond.fieldLink RX2 45 "BoilerPapers$House" "repairWeeksPaid" "I" ∈ jtw := jin 177 (by decide +kernel) rfl
set_option maxRecDepth 100000 in
theorem jw_121 : Cond.laysFinal RX2 "BoilerPapers$House" "boilers" "[LBoilerPapers$Boiler;" ∈ jtw := jin 178 (by decide +kernel) rfl
set_option maxRecDepth 100000 in
theorem jw_123 : Cond.laysFinal RX2 "BoilerPapers$House" "inspectors" "[LBoilerPapers$Inspector;" ∈ jtw := jin 180 (by decide +kernel) rfl
set_option maxRecDepth 100000 in
theorem jw_125 : Cond.laysFinal RX2 "BoilerPapers$House" "settings" "[I" ∈ jtw := jin 182 (by decide +kernel) rfl
set_option maxRecDepth 100000 in
theorem jw_127 : Cond.laysFinal RX2 "BoilerPapers$House" "accounts" "[I" ∈ jtw := jin 184 (by decide +kernel) rfl
set_option maxRecDepth 100000 in
theorem jw_129 : Cond.lays RX2 "BoilerPapers$House" "boilerCount" "I" ∈ jtw := jin 186 (by decide +kernel) rfl
set_option maxRecDepth 100000 in
theorem jw_131 : Cond.lays RX2 "BoilerPapers$House" "inspectorCount" "I" ∈ jtw := jin 188 (by decide +kernel) rfl
set_option maxRecDepth 100000 in
theorem jw_133 : Cond.lays RX2 "BoilerPapers$House" "week" "I" ∈ jtw := jin 190 (by decide +kernel) rfl
set_option maxRecDepth 100000 in
theorem jw_135 : Cond.lays RX2 "BoilerPapers$House" "putOutByWeeks" "I" ∈ jtw := jin 192 (by decide +kernel) rfl
set_option maxRecDepth 100000 in
theorem jw_137 : Cond.lays RX2 "BoilerPapers$House" "repairWeeksPaid" "I" ∈ jtw := jin 194 (by decide +kernel) rfl
set_option maxRecDepth 100000 in
theorem jw_140 : Cond.classLink RX6 19 RX1 ∈ jtw := jin 197 (by decide +kernel) rfl
set_option maxRecDepth 100000 in
theorem jw_141 : Cond.instantiable RX1 3 ∈ jtw := jin 198 (by decide +kernel) rfl
set_option maxRecDepth 100000 in
theorem jw_142 : Cond.methodLink RX6 21 yX1_init ∈ jtw := jin 199 (by decide +kernel) rfl
set_option maxRecDepth 100000 in
theorem jw_143 : Cond.instanceMethod yX1_init ∈ jtw := jin 200 (by decide +kernel) rfl
set_option maxRecDepth 100000 in
theorem jw_144 : Cond.code yX1_init cX1_init 2 none ∈ jtw := jin 201 rfl rfl
set_option maxRecDepth 100000 in
theorem jw_145 : Cond.methodLink RX1 3 objectInit ∈ jtw := jin 202 (by decide +kernel) rfl
set_option maxRecDepth 100000 in
theorem jw_146 : Cond.classLink RX1 9 RX2 ∈ jtw := jin 203 (by decide +kernel) rfl
set_option maxRecDepth 100000 in
theorem jw_148 : Cond.methodLink RX1 17 yX2_init ∈ jtw := jin 205 (by decide +kernel) rfl
set_option maxRecDepth 100000 in
theorem jw_149 : Cond.fieldLink RX1 11 "BoilerPapers$History" "states" "[LBoilerPapers$House;" ∈ jtw := jin 206 (by decide +kernel) rfl
set_option maxRecDepth 100000 in
theorem jw_150 : Cond.fieldLink RX1 18 "BoilerPapers$History" "size" "I" ∈ jtw := jin 207 (by decide +kernel) rfl
set_option maxRecDepth 100000 in
theorem jw_151 : Cond.fieldLink RX1 22 "BoilerPapers$History" "next" "I" ∈ jtw := jin 208 (by decide +kernel) rfl
set_option maxRecDepth 100000 in
theorem jw_152 : Cond.laysFinal RX1 "BoilerPapers$History" "states" "[LBoilerPapers$House;" ∈ jtw := jin 209 (by decide +kernel) rfl
set_option maxRecDepth 100000 in
theorem jw_154 : Cond.lays RX1 "BoilerPapers$History" "size" "I" ∈ jtw := jin 211 (by decide +kernel) rfl
set_option maxRecDepth 100000 in
theorem jw_156 : Cond.lays RX1 "BoilerPapers$History" "next" "I" ∈ jtw := jin 213 (by decide +kernel) rfl
set_option maxRecDepth 100000 in
theorem jw_159 : Cond.classLink RX6 26 RX4 ∈ jtw := jin 216 (by decide +kernel) rfl
set_option maxRecDepth 100000 in
theorem jw_160 : Cond.instantiable RX4 7 ∈ jtw := jin 217 (by decide +kernel) rfl
set_option maxRecDepth 100000 in
theorem jw_162 : Cond.instanceMethod yX4_init ∈ jtw := jin 219 (by decide +kernel) rfl
set_option maxRecDepth 100000 in
theorem jw_163 : Cond.code yX4_init cX4_init 1 none ∈ jtw := jin 220 rfl rfl
set_option maxRecDepth 100000 in
theorem jw_164 : Cond.methodLink RX4 3 objectInit ∈ jtw := jin 221 (by decide +kernel) rfl
set_option maxRecDepth 100000 in
theorem jw_165 : Cond.fieldLink RX4 9 "BoilerPapers$OrderText" "signs" "[C" ∈ jtw := jin 222 (by decide +kernel) rfl
set_option maxRecDepth 100000 in
theorem jw_166 : Cond.fieldLink RX4 15 "BoilerPapers$OrderText" "length" "I" ∈ jtw := jin 223 (by decide +kernel) rfl
set_option maxRecDepth 100000 in
theorem jw_168 : Cond.fieldLink RX4 24 "BoilerPapers$OrderText" "start" "I" ∈ jtw := jin 225 (by decide +kernel) rfl
set_option maxRecDepth 100000 in
theorem jw_169 : Cond.fieldLink RX4 21 "BoilerPapers$OrderText" "place" "I" ∈ jtw := jin 226 (by decide +kernel) rfl
set_option maxRecDepth 100000 in
theorem jw_171 : Cond.fieldLink RX4 41 "BoilerPapers$OrderText" "kind" "C" ∈ jtw := jin 228 (by decide +kernel) rfl
set_option maxRecDepth 100000 in
theorem jw_173 : Cond.fieldLink RX4 35 "BoilerPapers$OrderText" "one" "I" ∈ jtw := jin 230 (by decide +kernel) rfl
set_option maxRecDepth 100000 in
theorem jw_175 : Cond.fieldLink RX4 38 "BoilerPapers$OrderText" "other" "I" ∈ jtw := jin 232 (by decide +kernel) rfl
set_option maxRecDepth 100000 in
theorem jw_176 : Cond.laysFinal RX4 "BoilerPapers$OrderText" "signs" "[C" ∈ jtw := jin 233 (by decide +kernel) rfl
set_option maxRecDepth 100000 in
theorem jw_178 : Cond.lays RX4 "BoilerPapers$OrderText" "length" "I" ∈ jtw := jin 235 (by decide +kernel) rfl
set_option maxRecDepth 100000 in
theorem jw_180 : Cond.lays RX4 "BoilerPapers$OrderText" "start" "I" ∈ jtw := jin 237 (by decide +kernel) rfl
set_option maxRecDepth 100000 in
theorem jw_182 : Cond.lays RX4 "BoilerPapers$OrderText" "place" "I" ∈ jtw := jin 239 (by decide +kernel) rfl
set_option maxRecDepth 100000 in
theorem jw_184 : Cond.lays RX4 "BoilerPapers$OrderText" "kind" "C" ∈ jtw := jin 241 (by decide +kernel) rfl
set_option maxRecDepth 100000 in
theorem jw_186 : Cond.lays RX4 "BoilerPapers$OrderText" "one" "I" ∈ jtw := jin 243 (by decide +kernel) rfl
set_option maxRecDepth 100000 in
theorem jw_188 : Cond.lays RX4 "BoilerPapers$OrderText" "other" "I" ∈ jtw := jin 245 (by decide +kernel) rfl
set_option maxRecDepth 100000 in
theorem jw_191 : Cond.arrayClass .char ∈ jtw := jin 248 (by decide +kernel) rfl
set_option maxRecDepth 100000 in
theorem jw_192 : Cond.classLink RX6 33 RX5 ∈ jtw := jin 249 (by decide +kernel) rfl
set_option maxRecDepth 100000 in
theorem jw_193 : Cond.instantiable RX5 4 ∈ jtw := jin 250 (by decide +kernel) rfl
set_option maxRecDepth 100000 in
theorem jw_195 : Cond.instanceMethod yX5_init ∈ jtw := jin 252 (by decide +kernel) rfl
set_option maxRecDepth 100000 in
theorem jw_196 : Cond.code yX5_init cX5_init 1 none ∈ jtw := jin 253 rfl rfl
set_option maxRecDepth 100000 in
theorem jw_197 : Cond.methodLink RX5 3 objectInit ∈ jtw := jin 254 (by decide +kernel) rfl
set_option maxRecDepth 100000 in
theorem jw_198 : Cond.fieldLink RX5 9 "BoilerPapers$Rehearsal" "orders" "I" ∈ jtw := jin 255 (by decide +kernel) rfl
set_option maxRecDepth 100000 in
theorem jw_199 : Cond.fieldLink RX5 65 "BoilerPapers$Rehearsal" "position" "I" ∈ jtw := jin 256 (by decide +kernel) rfl
set_option maxRecDepth 100000 in
theorem jw_200 : Cond.fieldLink RX5 15 "BoilerPapers$Rehearsal" "reason" "I" ∈ jtw := jin 257 (by decide +kernel) rfl
set_option maxRecDepth 100000 in
theorem jw_201 : Cond.fieldLink RX5 68 "BoilerPapers$Rehearsal" "cause" "I" ∈ jtw := jin 258 (by decide +kernel) rfl
set_option maxRecDepth 100000 in
theorem jw_202 : Cond.lays RX5 "BoilerPapers$Rehearsal" "orders" "I" ∈ jtw := jin 259 (by decide +kernel) rfl
set_option maxRecDepth 100000 in
theorem jw_204 : Cond.lays RX5 "BoilerPapers$Rehearsal" "position" "I" ∈ jtw := jin 261 (by decide +kernel) rfl
set_option maxRecDepth 100000 in
theorem jw_206 : Cond.lays RX5 "BoilerPapers$Rehearsal" "reason" "I" ∈ jtw := jin 263 (by decide +kernel) rfl
set_option maxRecDepth 100000 in
theorem jw_208 : Cond.lays RX5 "BoilerPapers$Rehearsal" "cause" "I" ∈ jtw := jin 265 (by decide +kernel) rfl
set_option maxRecDepth 100000 in
theorem jw_211 : Cond.fieldLink RX6 10 "BoilerPapers" "now" "LBoilerPapers$House;" ∈ jtw := jin 268 (by decide +kernel) rfl
set_option maxRecDepth 100000 in
theorem jw_212 : Cond.fieldLink RX6 16 "BoilerPapers" "trial" "LBoilerPapers$House;" ∈ jtw := jin 269 (by decide +kernel) rfl
set_option maxRecDepth 100000 in
theorem jw_213 : Cond.fieldLink RX6 22 "BoilerPapers" "history" "LBoilerPapers$History;" ∈ jtw := jin 270 (by decide +kernel) rfl
set_option maxRecDepth 100000 in
theorem jw_214 : Cond.fieldLink RX6 29 "BoilerPapers" "text" "LBoilerPapers$OrderText;" ∈ jtw := jin 271 (by decide +kernel) rfl
set_option maxRecDepth 100000 in
theorem jw_215 : Cond.fieldLink RX6 36 "BoilerPapers" "rehearsal" "LBoilerPapers$Rehearsal;" ∈ jtw := jin 272 (by decide +kernel) rfl
set_option maxRecDepth 100000 in
theorem jw_216 : Cond.laysFinal RX6 "BoilerPapers" "now" "LBoilerPapers$House;" ∈ jtw := jin 273 (by decide +kernel) rfl
set_option maxRecDepth 100000 in
theorem jw_218 : Cond.laysFinal RX6 "BoilerPapers" "trial" "LBoilerPapers$House;" ∈ jtw := jin 275 (by decide +kernel) rfl
set_option maxRecDepth 100000 in
theorem jw_220 : Cond.laysFinal RX6 "BoilerPapers" "history" "LBoilerPapers$History;" ∈ jtw := jin 277 (by decide +kernel) rfl
set_option maxRecDepth 100000 in
theorem jw_222 : Cond.laysFinal RX6 "BoilerPapers" "text" "LBoilerPapers$OrderText;" ∈ jtw := jin 279 (by decide +kernel) rfl
set_option maxRecDepth 100000 in
theorem jw_224 : Cond.laysFinal RX6 "BoilerPapers" "rehearsal" "LBoilerPapers$Rehearsal;" ∈ jtw := jin 281 (by decide +kernel) rfl
set_option maxRecDepth 100000 in
theorem jw_227 : Cond.methodLink RL 13 yX6_boiler ∈ jtw := jin 284 (by decide +kernel) rfl
set_option maxRecDepth 100000 in
theorem jw_228 : Cond.instanceMethod yX6_boiler ∈ jtw := jin 285 (by decide +kernel) rfl
set_option maxRecDepth 100000 in
theorem jw_229 : Cond.selects RX6 yX6_boiler yX6_boiler ∈ jtw := jin 286 (by decide +kernel) rfl
set_option maxRecDepth 100000 in
theorem jw_230 : Cond.code yX6_boiler cX6_boiler 2 (some .int) ∈ jtw := jin 287 rfl rfl
set_option maxRecDepth 100000 in
theorem jw_231 : Cond.methodLink RX6 40 yX6_trialOfNow ∈ jtw := jin 288 (by decide +kernel) rfl
set_option maxRecDepth 100000 in
theorem jw_233 : Cond.instanceMethod yX6_trialOfNow ∈ jtw := jin 290 (by decide +kernel) rfl
set_option maxRecDepth 100000 in
theorem jw_234 : Cond.code yX6_trialOfNow cX6_trialOfNow 1 (some (.object "BoilerPapers$House")) ∈ jtw := jin 291 rfl rfl
set_option maxRecDepth 100000 in
theorem jw_235 : Cond.methodLink RX6 144 yX2_copyFrom ∈ jtw := jin 292 (by decide +kernel) rfl
set_option maxRecDepth 100000 in
theorem jw_236 : Cond.instanceMethod yX2_copyFrom ∈ jtw := jin 293 (by decide +kernel) rfl
set_option maxRecDepth 100000 in
theorem jw_237 : Cond.selects RX2 yX2_copyFrom yX2_copyFrom ∈ jtw := jin 294 (by decide +kernel) rfl
set_option maxRecDepth 100000 in
theorem jw_238 : Cond.code yX2_copyFrom cX2_copyFrom 5 none ∈ jtw := jin 295 rfl rfl
set_option maxRecDepth 100000 in
theorem jw_239 : Cond.methodLink RX2 48 yX2_copyNumbers ∈ jtw := jin 296 (by decide +kernel) rfl
set_option maxRecDepth 100000 in
theorem jw_240 : Cond.static yX2_copyNumbers ∈ jtw := jin 297 (by decide +kernel) rfl
set_option maxRecDepth 100000 in
theorem jw_241 : Cond.code yX2_copyNumbers cX2_copyNumbers 3 none ∈ jtw := jin 298 rfl rfl
set_option maxRecDepth 100000 in
theorem jw_242 : Cond.methodLink RX2 52 yX2_boilerAt ∈ jtw := jin 299 (by decide +kernel) rfl
set_option maxRecDepth 100000 in
theorem jw_244 : Cond.instanceMethod yX2_boilerAt ∈ jtw := jin 301 (by decide +kernel) rfl
set_option maxRecDepth 100000 in
theorem jw_245 : Cond.code yX2_boilerAt cX2_boilerAt 3 (some (.object "BoilerPapers$Boiler")) ∈ jtw := jin 302 rfl rfl
set_option maxRecDepth 100000 in
theorem jw_246 : Cond.methodLink RX2 56 yX0_copyFrom ∈ jtw := jin 303 (by decide +kernel) rfl
set_option maxRecDepth 100000 in
theorem jw_247 : Cond.instanceMethod yX0_copyFrom ∈ jtw := jin 304 (by decide +kernel) rfl
set_option maxRecDepth 100000 in
theorem jw_248 : Cond.selects RX0 yX0_copyFrom yX0_copyFrom ∈ jtw := jin 305 (by decide +kernel) rfl
set_option maxRecDepth 100000 in
theorem jw_249 : Cond.code yX0_copyFrom cX0_copyFrom 2 none ∈ jtw := jin 306 rfl rfl
set_option maxRecDepth 100000 in
theorem jw_250 : Cond.methodLink RX2 60 yX2_inspectorAt ∈ jtw := jin 307 (by decide +kernel) rfl
set_option maxRecDepth 100000 in
theorem jw_252 : Cond.instanceMethod yX2_inspectorAt ∈ jtw := jin 309 (by decide +kernel) rfl
set_option maxRecDepth 100000 in
theorem jw_253 : Cond.code yX2_inspectorAt cX2_inspectorAt 3 (some (.object "BoilerPapers$Inspector")) ∈ jtw := jin 310 rfl rfl
set_option maxRecDepth 100000 in
theorem jw_254 : Cond.methodLink RX2 64 yX3_copyFrom ∈ jtw := jin 311 (by decide +kernel) rfl
set_option maxRecDepth 100000 in
theorem jw_255 : Cond.instanceMethod yX3_copyFrom ∈ jtw := jin 312 (by decide +kernel) rfl
set_option maxRecDepth 100000 in
theorem jw_256 : Cond.selects RX3 yX3_copyFrom yX3_copyFrom ∈ jtw := jin 313 (by decide +kernel) rfl
set_option maxRecDepth 100000 in
theorem jw_257 : Cond.code yX3_copyFrom cX3_copyFrom 2 none ∈ jtw := jin 314 rfl rfl
set_option maxRecDepth 100000 in
theorem jw_258 : Cond.methodLink RX6 44 yX2_addBoiler ∈ jtw := jin 315 (by decide +kernel) rfl
set_option maxRecDepth 100000 in
theorem jw_259 : Cond.instanceMethod yX2_addBoiler ∈ jtw := jin 316 (by decide +kernel) rfl
set_option maxRecDepth 100000 in
theorem jw_260 : Cond.selects RX2 yX2_addBoiler yX2_addBoiler ∈ jtw := jin 317 (by decide +kernel) rfl
set_option maxRecDepth 100000 in
theorem jw_261 : Cond.code yX2_addBoiler cX2_addBoiler 4 (some .int) ∈ jtw := jin 318 rfl rfl
set_option maxRecDepth 100000 in
theorem jw_262 : Cond.constant RX2 67 (-2000000001) ∈ jtw := jin 319 (by decide +kernel) rfl
set_option maxRecDepth 100000 in
theorem jw_263 : Cond.constant RX2 68 (-2000000003) ∈ jtw := jin 320 (by decide +kernel) rfl
set_option maxRecDepth 100000 in
theorem jw_264 : Cond.methodLink RX2 69 yX0_begin ∈ jtw := jin 321 (by decide +kernel) rfl
set_option maxRecDepth 100000 in
theorem jw_265 : Cond.instanceMethod yX0_begin ∈ jtw := jin 322 (by decide +kernel) rfl
set_option maxRecDepth 100000 in
theorem jw_266 : Cond.selects RX0 yX0_begin yX0_begin ∈ jtw := jin 323 (by decide +kernel) rfl
set_option maxRecDepth 100000 in
theorem jw_267 : Cond.code yX0_begin cX0_begin 2 none ∈ jtw := jin 324 rfl rfl
set_option maxRecDepth 100000 in
theorem jw_268 : Cond.methodLink RX6 48 yX6_settle ∈ jtw := jin 325 (by decide +kernel) rfl
set_option maxRecDepth 100000 in
theorem jw_270 : Cond.instanceMethod yX6_settle ∈ jtw := jin 327 (by decide +kernel) rfl
set_option maxRecDepth 100000 in
theorem jw_271 : Cond.code yX6_settle cX6_settle 2 (some .int) ∈ jtw := jin 328 rfl rfl
set_option maxRecDepth 100000 in
theorem jw_272 : Cond.methodLink RX6 148 yX6_isError ∈ jtw := jin 329 (by decide +kernel) rfl
set_option maxRecDepth 100000 in
theorem jw_273 : Cond.static yX6_isError ∈ jtw := jin 330 (by decide +kernel) rfl
set_option maxRecDepth 100000 in
theorem jw_274 : Cond.code yX6_isError cX6_isError 1 (some .boolean) ∈ jtw := jin 331 rfl rfl
set_option maxRecDepth 100000 in
theorem jw_275 : Cond.constant RX6 133 (-2000000001) ∈ jtw := jin 332 (by decide +kernel) rfl
set_option maxRecDepth 100000 in
theorem jw_276 : Cond.methodLink RX6 152 yX1_keep ∈ jtw := jin 333 (by decide +kernel) rfl
set_option maxRecDepth 100000 in
theorem jw_277 : Cond.instanceMethod yX1_keep ∈ jtw := jin 334 (by decide +kernel) rfl
set_option maxRecDepth 100000 in
theorem jw_278 : Cond.selects RX1 yX1_keep yX1_keep ∈ jtw := jin 335 (by decide +kernel) rfl
set_option maxRecDepth 100000 in
theorem jw_279 : Cond.code yX1_keep cX1_keep 3 none ∈ jtw := jin 336 rfl rfl
set_option maxRecDepth 100000 in
theorem jw_280 : Cond.methodLink RX1 25 yX1_stateAt ∈ jtw := jin 337 (by decide +kernel) rfl
set_option maxRecDepth 100000 in
theorem jw_282 : Cond.instanceMethod yX1_stateAt ∈ jtw := jin 339 (by decide +kernel) rfl
set_option maxRecDepth 100000 in
theorem jw_283 : Cond.code yX1_stateAt cX1_stateAt 2 (some (.object "BoilerPapers$House")) ∈ jtw := jin 340 rfl rfl
set_option maxRecDepth 100000 in
theorem jw_284 : Cond.methodLink RX1 29 yX2_copyFrom ∈ jtw := jin 341 (by decide +kernel) rfl
set_option maxRecDepth 100000 in
theorem jw_285 : Cond.methodLink RX1 33 yJ9_min_7cf53 ∈ jtw := jin 342 (by decide +kernel) rfl
set_option maxRecDepth 100000 in
theorem jw_286 : Cond.static yJ9_min_7cf53 ∈ jtw := jin 343 (by decide +kernel) rfl
set_option maxRecDepth 100000 in
theorem jw_287 : Cond.code yJ9_min_7cf53 cJ9_min_7cf53 2 (some .int) ∈ jtw := jin 344 rfl rfl
set_option maxRecDepth 100000 in
theorem jw_288 : Cond.methodLink RL 18 yX6_inspector ∈ jtw := jin 345 (by decide +kernel) rfl
set_option maxRecDepth 100000 in
theorem jw_289 : Cond.instanceMethod yX6_inspector ∈ jtw := jin 346 (by decide +kernel) rfl
set_option maxRecDepth 100000 in
theorem jw_290 : Cond.selects RX6 yX6_inspector yX6_inspector ∈ jtw := jin 347 (by decide +kernel) rfl
set_option maxRecDepth 100000 in
theorem jw_291 : Cond.code yX6_inspector cX6_inspector 3 (some .int) ∈ jtw := jin 348 rfl rfl
set_option maxRecDepth 100000 in
theorem jw_292 : Cond.methodLink RX6 51 yX2_addInspector ∈ jtw := jin 349 (by decide +kernel) rfl
set_option maxRecDepth 100000 in
theorem jw_293 : Cond.instanceMethod yX2_addInspector ∈ jtw := jin 350 (by decide +kernel) rfl
set_option maxRecDepth 100000 in
theorem jw_294 : Cond.selects RX2 yX2_addInspector yX2_addInspector ∈ jtw := jin 351 (by decide +kernel) rfl
set_option maxRecDepth 100000 in
theorem jw_295 : Cond.code yX2_addInspector cX2_addInspector 5 (some .int) ∈ jtw := jin 352 rfl rfl
set_option maxRecDepth 100000 in
theorem jw_297 : Cond.static yX6_isInsurer ∈ jtw := jin 354 (by decide +kernel) rfl
set_option maxRecDepth 100000 in
theorem jw_298 : Cond.code yX6_isInsurer cX6_isInsurer 1 (some .boolean) ∈ jtw := jin 355 rfl rfl
set_option maxRecDepth 100000 in
theorem jw_299 : Cond.methodLink RX2 77 yX3_begin ∈ jtw := jin 356 (by decide +kernel) rfl
set_option maxRecDepth 100000 in
theorem jw_300 : Cond.instanceMethod yX3_begin ∈ jtw := jin 357 (by decide +kernel) rfl
set_option maxRecDepth 100000 in
theorem jw_301 : Cond.selects RX3 yX3_begin yX3_begin ∈ jtw := jin 358 (by decide +kernel) rfl
set_option maxRecDepth 100000 in
theorem jw_302 : Cond.code yX3_begin cX3_begin 3 none ∈ jtw := jin 359 rfl rfl
set_option maxRecDepth 100000 in
theorem jw_303 : Cond.methodLink RL 23 yX6_press ∈ jtw := jin 360 (by decide +kernel) rfl
set_option maxRecDepth 100000 in
theorem jw_304 : Cond.instanceMethod yX6_press ∈ jtw := jin 361 (by decide +kernel) rfl
set_option maxRecDepth 100000 in
theorem jw_305 : Cond.selects RX6 yX6_press yX6_press ∈ jtw := jin 362 (by decide +kernel) rfl
set_option maxRecDepth 100000 in
theorem jw_306 : Cond.code yX6_press cX6_press 3 (some .int) ∈ jtw := jin 363 rfl rfl
set_option maxRecDepth 100000 in
theorem jw_307 : Cond.methodLink RX6 55 yX2_changePressure ∈ jtw := jin 364 (by decide +kernel) rfl
set_option maxRecDepth 100000 in
theorem jw_308 : Cond.instanceMethod yX2_changePressure ∈ jtw := jin 365 (by decide +kernel) rfl
set_option maxRecDepth 100000 in
theorem jw_309 : Cond.selects RX2 yX2_changePressure yX2_changePressure ∈ jtw := jin 366 (by decide +kernel) rfl
set_option maxRecDepth 100000 in
theorem jw_310 : Cond.code yX2_changePressure cX2_changePressure 5 (some .int) ∈ jtw := jin 367 rfl rfl
set_option maxRecDepth 100000 in
theorem jw_311 : Cond.constant RX2 89 (-2000000002) ∈ jtw := jin 368 (by decide +kernel) rfl
set_option maxRecDepth 100000 in
theorem jw_312 : Cond.methodLink RL 27 yX6_inspect ∈ jtw := jin 369 (by decide +kernel) rfl
set_option maxRecDepth 100000 in
theorem jw_313 : Cond.instanceMethod yX6_inspect ∈ jtw := jin 370 (by decide +kernel) rfl
set_option maxRecDepth 100000 in
theorem jw_314 : Cond.selects RX6 yX6_inspect yX6_inspect ∈ jtw := jin 371 (by decide +kernel) rfl
set_option maxRecDepth 100000 in
theorem jw_315 : Cond.code yX6_inspect cX6_inspect 3 (some .int) ∈ jtw := jin 372 rfl rfl
set_option maxRecDepth 100000 in
theorem jw_316 : Cond.methodLink RX6 58 yX2_examine ∈ jtw := jin 373 (by decide +kernel) rfl
set_option maxRecDepth 100000 in
theorem jw_317 : Cond.instanceMethod yX2_examine ∈ jtw := jin 374 (by decide +kernel) rfl
set_option maxRecDepth 100000 in
theorem jw_318 : Cond.selects RX2 yX2_examine yX2_examine ∈ jtw := jin 375 (by decide +kernel) rfl
set_option maxRecDepth 100000 in
theorem jw_319 : Cond.code yX2_examine cX2_examine 7 (some .int) ∈ jtw := jin 376 rfl rfl
set_option maxRecDepth 100000 in
theorem jw_320 : Cond.methodLink RX2 93 yX0_whyNotInspectedBy ∈ jtw := jin 377 (by decide +kernel) rfl
set_option maxRecDepth 100000 in
theorem jw_321 : Cond.instanceMethod yX0_whyNotInspectedBy ∈ jtw := jin 378 (by decide +kernel) rfl
set_option maxRecDepth 100000 in
theorem jw_322 : Cond.selects RX0 yX0_whyNotInspectedBy yX0_whyNotInspectedBy ∈ jtw := jin 379 (by decide +kernel) rfl
set_option maxRecDepth 100000 in
theorem jw_323 : Cond.code yX0_whyNotInspectedBy cX0_whyNotInspectedBy 2 (some .int) ∈ jtw := jin 380 rfl rfl
set_option maxRecDepth 100000 in
theorem jw_324 : Cond.methodLink RX0 59 yX3_left ∈ jtw := jin 381 (by decide +kernel) rfl
set_option maxRecDepth 100000 in
theorem jw_325 : Cond.instanceMethod yX3_left ∈ jtw := jin 382 (by decide +kernel) rfl
set_option maxRecDepth 100000 in
theorem jw_326 : Cond.selects RX3 yX3_left yX3_left ∈ jtw := jin 383 (by decide +kernel) rfl
set_option maxRecDepth 100000 in
theorem jw_327 : Cond.code yX3_left cX3_left 1 (some .int) ∈ jtw := jin 384 rfl rfl
set_option maxRecDepth 100000 in
theorem jw_328 : Cond.methodLink RX2 100 yX2_pressureOffered ∈ jtw := jin 385 (by decide +kernel) rfl
set_option maxRecDepth 100000 in
theorem jw_330 : Cond.instanceMethod yX2_pressureOffered ∈ jtw := jin 387 (by decide +kernel) rfl
set_option maxRecDepth 100000 in
theorem jw_331 : Cond.code yX2_pressureOffered cX2_pressureOffered 4 (some .int) ∈ jtw := jin 388 rfl rfl
set_option maxRecDepth 100000 in
theorem jw_332 : Cond.methodLink RX2 118 yX2_settingAt ∈ jtw := jin 389 (by decide +kernel) rfl
set_option maxRecDepth 100000 in
theorem jw_334 : Cond.instanceMethod yX2_settingAt ∈ jtw := jin 391 (by decide +kernel) rfl
set_option maxRecDepth 100000 in
theorem jw_335 : Cond.code yX2_settingAt cX2_settingAt 3 (some .int) ∈ jtw := jin 392 rfl rfl
set_option maxRecDepth 100000 in
theorem jw_336 : Cond.methodLink RX2 199 yX0_strength ∈ jtw := jin 393 (by decide +kernel) rfl
set_option maxRecDepth 100000 in
theorem jw_337 : Cond.instanceMethod yX0_strength ∈ jtw := jin 394 (by decide +kernel) rfl
set_option maxRecDepth 100000 in
theorem jw_338 : Cond.selects RX0 yX0_strength yX0_strength ∈ jtw := jin 395 (by decide +kernel) rfl
set_option maxRecDepth 100000 in
theorem jw_339 : Cond.code yX0_strength cX0_strength 1 (some .int) ∈ jtw := jin 396 rfl rfl
set_option maxRecDepth 100000 in
theorem jw_340 : Cond.methodLink RX2 104 yX2_lastWeekOffered ∈ jtw := jin 397 (by decide +kernel) rfl
set_option maxRecDepth 100000 in
theorem jw_342 : Cond.instanceMethod yX2_lastWeekOffered ∈ jtw := jin 399 (by decide +kernel) rfl
set_option maxRecDepth 100000 in
theorem jw_343 : Cond.code yX2_lastWeekOffered cX2_lastWeekOffered 3 (some .int) ∈ jtw := jin 400 rfl rfl
set_option maxRecDepth 100000 in
theorem jw_344 : Cond.methodLink RX2 107 yX0_takePaper ∈ jtw := jin 401 (by decide +kernel) rfl
set_option maxRecDepth 100000 in
theorem jw_345 : Cond.instanceMethod yX0_takePaper ∈ jtw := jin 402 (by decide +kernel) rfl
set_option maxRecDepth 100000 in
theorem jw_346 : Cond.selects RX0 yX0_takePaper yX0_takePaper ∈ jtw := jin 403 (by decide +kernel) rfl
set_option maxRecDepth 100000 in
theorem jw_347 : Cond.code yX0_takePaper cX0_takePaper 4 none ∈ jtw := jin 404 rfl rfl
set_option maxRecDepth 100000 in
theorem jw_348 : Cond.methodLink RX2 111 yX0_refusePaper ∈ jtw := jin 405 (by decide +kernel) rfl
set_option maxRecDepth 100000 in
theorem jw_349 : Cond.instanceMethod yX0_refusePaper ∈ jtw := jin 406 (by decide +kernel) rfl
set_option maxRecDepth 100000 in
theorem jw_350 : Cond.selects RX0 yX0_refusePaper yX0_refusePaper ∈ jtw := jin 407 (by decide +kernel) rfl
set_option maxRecDepth 100000 in
theorem jw_351 : Cond.code yX0_refusePaper cX0_refusePaper 1 none ∈ jtw := jin 408 rfl rfl
set_option maxRecDepth 100000 in
theorem jw_352 : Cond.methodLink RX2 114 yX3_noteInspection ∈ jtw := jin 409 (by decide +kernel) rfl
set_option maxRecDepth 100000 in
theorem jw_353 : Cond.instanceMethod yX3_noteInspection ∈ jtw := jin 410 (by decide +kernel) rfl
set_option maxRecDepth 100000 in
theorem jw_354 : Cond.selects RX3 yX3_noteInspection yX3_noteInspection ∈ jtw := jin 411 (by decide +kernel) rfl
set_option maxRecDepth 100000 in
theorem jw_355 : Cond.code yX3_noteInspection cX3_noteInspection 2 none ∈ jtw := jin 412 rfl rfl
set_option maxRecDepth 100000 in
theorem jw_356 : Cond.methodLink RX2 122 yX2_ownerPays ∈ jtw := jin 413 (by decide +kernel) rfl
set_option maxRecDepth 100000 in
theorem jw_358 : Cond.instanceMethod yX2_ownerPays ∈ jtw := jin 415 (by decide +kernel) rfl
set_option maxRecDepth 100000 in
theorem jw_359 : Cond.code yX2_ownerPays cX2_ownerPays 3 none ∈ jtw := jin 416 rfl rfl
set_option maxRecDepth 100000 in
theorem jw_360 : Cond.methodLink RL 31 yX6_fire ∈ jtw := jin 417 (by decide +kernel) rfl
set_option maxRecDepth 100000 in
theorem jw_361 : Cond.instanceMethod yX6_fire ∈ jtw := jin 418 (by decide +kernel) rfl
set_option maxRecDepth 100000 in
theorem jw_362 : Cond.selects RX6 yX6_fire yX6_fire ∈ jtw := jin 419 (by decide +kernel) rfl
set_option maxRecDepth 100000 in
theorem jw_363 : Cond.code yX6_fire cX6_fire 2 (some .int) ∈ jtw := jin 420 rfl rfl
set_option maxRecDepth 100000 in
theorem jw_364 : Cond.methodLink RX6 61 yX2_light ∈ jtw := jin 421 (by decide +kernel) rfl
set_option maxRecDepth 100000 in
theorem jw_365 : Cond.instanceMethod yX2_light ∈ jtw := jin 422 (by decide +kernel) rfl
set_option maxRecDepth 100000 in
theorem jw_366 : Cond.selects RX2 yX2_light yX2_light ∈ jtw := jin 423 (by decide +kernel) rfl
set_option maxRecDepth 100000 in
theorem jw_367 : Cond.code yX2_light cX2_light 3 (some .int) ∈ jtw := jin 424 rfl rfl
set_option maxRecDepth 100000 in
theorem jw_368 : Cond.methodLink RX2 125 yX0_whyNotFiredIn ∈ jtw := jin 425 (by decide +kernel) rfl
set_option maxRecDepth 100000 in
theorem jw_369 : Cond.instanceMethod yX0_whyNotFiredIn ∈ jtw := jin 426 (by decide +kernel) rfl
set_option maxRecDepth 100000 in
theorem jw_370 : Cond.selects RX0 yX0_whyNotFiredIn yX0_whyNotFiredIn ∈ jtw := jin 427 (by decide +kernel) rfl
set_option maxRecDepth 100000 in
theorem jw_371 : Cond.code yX0_whyNotFiredIn cX0_whyNotFiredIn 2 (some .int) ∈ jtw := jin 428 rfl rfl
set_option maxRecDepth 100000 in
theorem jw_372 : Cond.methodLink RX0 55 yX0_isShutIn ∈ jtw := jin 429 (by decide +kernel) rfl
set_option maxRecDepth 100000 in
theorem jw_373 : Cond.instanceMethod yX0_isShutIn ∈ jtw := jin 430 (by decide +kernel) rfl
set_option maxRecDepth 100000 in
theorem jw_374 : Cond.selects RX0 yX0_isShutIn yX0_isShutIn ∈ jtw := jin 431 (by decide +kernel) rfl
set_option maxRecDepth 100000 in
theorem jw_375 : Cond.code yX0_isShutIn cX0_isShutIn 2 (some .boolean) ∈ jtw := jin 432 rfl rfl
set_option maxRecDepth 100000 in
theorem jw_376 : Cond.methodLink RL 35 yX6_out ∈ jtw := jin 433 (by decide +kernel) rfl
set_option maxRecDepth 100000 in
theorem jw_377 : Cond.instanceMethod yX6_out ∈ jtw := jin 434 (by decide +kernel) rfl
set_option maxRecDepth 100000 in
theorem jw_378 : Cond.selects RX6 yX6_out yX6_out ∈ jtw := jin 435 (by decide +kernel) rfl
set_option maxRecDepth 100000 in
theorem jw_379 : Cond.code yX6_out cX6_out 2 (some .int) ∈ jtw := jin 436 rfl rfl
set_option maxRecDepth 100000 in
theorem jw_380 : Cond.methodLink RX6 64 yX2_putOut ∈ jtw := jin 437 (by decide +kernel) rfl
set_option maxRecDepth 100000 in
theorem jw_381 : Cond.instanceMethod yX2_putOut ∈ jtw := jin 438 (by decide +kernel) rfl
set_option maxRecDepth 100000 in
theorem jw_382 : Cond.selects RX2 yX2_putOut yX2_putOut ∈ jtw := jin 439 (by decide +kernel) rfl
set_option maxRecDepth 100000 in
theorem jw_383 : Cond.code yX2_putOut cX2_putOut 3 (some .int) ∈ jtw := jin 440 rfl rfl
set_option maxRecDepth 100000 in
theorem jw_384 : Cond.methodLink RX2 131 yX0_becomeCold ∈ jtw := jin 441 (by decide +kernel) rfl
set_option maxRecDepth 100000 in
theorem jw_385 : Cond.instanceMethod yX0_becomeCold ∈ jtw := jin 442 (by decide +kernel) rfl
set_option maxRecDepth 100000 in
theorem jw_386 : Cond.selects RX0 yX0_becomeCold yX0_becomeCold ∈ jtw := jin 443 (by decide +kernel) rfl
set_option maxRecDepth 100000 in
theorem jw_387 : Cond.code yX0_becomeCold cX0_becomeCold 1 none ∈ jtw := jin 444 rfl rfl
set_option maxRecDepth 100000 in
theorem jw_388 : Cond.methodLink RL 39 yX6_plan ∈ jtw := jin 445 (by decide +kernel) rfl
set_option maxRecDepth 100000 in
theorem jw_389 : Cond.instanceMethod yX6_plan ∈ jtw := jin 446 (by decide +kernel) rfl
set_option maxRecDepth 100000 in
theorem jw_390 : Cond.selects RX6 yX6_plan yX6_plan ∈ jtw := jin 447 (by decide +kernel) rfl
set_option maxRecDepth 100000 in
theorem jw_391 : Cond.code yX6_plan cX6_plan 4 (some .int) ∈ jtw := jin 448 rfl rfl
set_option maxRecDepth 100000 in
theorem jw_392 : Cond.methodLink RX6 67 yX2_planShutdown ∈ jtw := jin 449 (by decide +kernel) rfl
set_option maxRecDepth 100000 in
theorem jw_393 : Cond.instanceMethod yX2_planShutdown ∈ jtw := jin 450 (by decide +kernel) rfl
set_option maxRecDepth 100000 in
theorem jw_394 : Cond.selects RX2 yX2_planShutdown yX2_planShutdown ∈ jtw := jin 451 (by decide +kernel) rfl
set_option maxRecDepth 100000 in
theorem jw_395 : Cond.code yX2_planShutdown cX2_planShutdown 5 (some .int) ∈ jtw := jin 452 rfl rfl
set_option maxRecDepth 100000 in
theorem jw_396 : Cond.methodLink RL 44 yX6_repair ∈ jtw := jin 453 (by decide +kernel) rfl
set_option maxRecDepth 100000 in
theorem jw_397 : Cond.instanceMethod yX6_repair ∈ jtw := jin 454 (by decide +kernel) rfl
set_option maxRecDepth 100000 in
theorem jw_398 : Cond.selects RX6 yX6_repair yX6_repair ∈ jtw := jin 455 (by decide +kernel) rfl
set_option maxRecDepth 100000 in
theorem jw_399 : Cond.code yX6_repair cX6_repair 2 (some .int) ∈ jtw := jin 456 rfl rfl
set_option maxRecDepth 100000 in
theorem jw_400 : Cond.methodLink RX6 71 yX2_sendToRepair ∈ jtw := jin 457 (by decide +kernel) rfl
set_option maxRecDepth 100000 in
theorem jw_401 : Cond.instanceMethod yX2_sendToRepair ∈ jtw := jin 458 (by decide +kernel) rfl
set_option maxRecDepth 100000 in
theorem jw_402 : Cond.selects RX2 yX2_sendToRepair yX2_sendToRepair ∈ jtw := jin 459 (by decide +kernel) rfl
set_option maxRecDepth 100000 in
theorem jw_403 : Cond.code yX2_sendToRepair cX2_sendToRepair 4 (some .int) ∈ jtw := jin 460 rfl rfl
set_option maxRecDepth 100000 in
theorem jw_404 : Cond.methodLink RL 48 yX6_pass ∈ jtw := jin 461 (by decide +kernel) rfl
set_option maxRecDepth 100000 in
theorem jw_405 : Cond.instanceMethod yX6_pass ∈ jtw := jin 462 (by decide +kernel) rfl
set_option maxRecDepth 100000 in
theorem jw_406 : Cond.selects RX6 yX6_pass yX6_pass ∈ jtw := jin 463 (by decide +kernel) rfl
set_option maxRecDepth 100000 in
theorem jw_407 : Cond.code yX6_pass cX6_pass 2 (some .int) ∈ jtw := jin 464 rfl rfl
set_option maxRecDepth 100000 in
theorem jw_408 : Cond.methodLink RX6 74 yX2_letWeeksPass ∈ jtw := jin 465 (by decide +kernel) rfl
set_option maxRecDepth 100000 in
theorem jw_409 : Cond.instanceMethod yX2_letWeeksPass ∈ jtw := jin 466 (by decide +kernel) rfl
set_option maxRecDepth 100000 in
theorem jw_410 : Cond.selects RX2 yX2_letWeeksPass yX2_letWeeksPass ∈ jtw := jin 467 (by decide +kernel) rfl
set_option maxRecDepth 100000 in
theorem jw_411 : Cond.code yX2_letWeeksPass cX2_letWeeksPass 4 (some .int) ∈ jtw := jin 468 rfl rfl
set_option maxRecDepth 100000 in
theorem jw_412 : Cond.methodLink RX2 150 yX2_letOneWeekPass ∈ jtw := jin 469 (by decide +kernel) rfl
set_option maxRecDepth 100000 in
theorem jw_414 : Cond.instanceMethod yX2_letOneWeekPass ∈ jtw := jin 471 (by decide +kernel) rfl
set_option maxRecDepth 100000 in
theorem jw_415 : Cond.code yX2_letOneWeekPass cX2_letOneWeekPass 4 (some .int) ∈ jtw := jin 472 rfl rfl
set_option maxRecDepth 100000 in
theorem jw_416 : Cond.methodLink RX2 154 yX3_beginWeek ∈ jtw := jin 473 (by decide +kernel) rfl
set_option maxRecDepth 100000 in
theorem jw_417 : Cond.instanceMethod yX3_beginWeek ∈ jtw := jin 474 (by decide +kernel) rfl
set_option maxRecDepth 100000 in
theorem jw_418 : Cond.selects RX3 yX3_beginWeek yX3_beginWeek ∈ jtw := jin 475 (by decide +kernel) rfl
set_option maxRecDepth 100000 in
theorem jw_419 : Cond.code yX3_beginWeek cX3_beginWeek 1 none ∈ jtw := jin 476 rfl rfl
set_option maxRecDepth 100000 in
theorem jw_420 : Cond.methodLink RX2 157 yX0_age ∈ jtw := jin 477 (by decide +kernel) rfl
set_option maxRecDepth 100000 in
theorem jw_421 : Cond.instanceMethod yX0_age ∈ jtw := jin 478 (by decide +kernel) rfl
set_option maxRecDepth 100000 in
theorem jw_422 : Cond.selects RX0 yX0_age yX0_age ∈ jtw := jin 479 (by decide +kernel) rfl
set_option maxRecDepth 100000 in
theorem jw_423 : Cond.code yX0_age cX0_age 1 none ∈ jtw := jin 480 rfl rfl
set_option maxRecDepth 100000 in
theorem jw_424 : Cond.methodLink RX0 65 yJ9_min_7cf53 ∈ jtw := jin 481 (by decide +kernel) rfl
set_option maxRecDepth 100000 in
theorem jw_425 : Cond.methodLink RX2 160 yX0_endRepairIn ∈ jtw := jin 482 (by decide +kernel) rfl
set_option maxRecDepth 100000 in
theorem jw_426 : Cond.instanceMethod yX0_endRepairIn ∈ jtw := jin 483 (by decide +kernel) rfl
set_option maxRecDepth 100000 in
theorem jw_427 : Cond.selects RX0 yX0_endRepairIn yX0_endRepairIn ∈ jtw := jin 484 (by decide +kernel) rfl
set_option maxRecDepth 100000 in
theorem jw_428 : Cond.code yX0_endRepairIn cX0_endRepairIn 2 none ∈ jtw := jin 485 rfl rfl
set_option maxRecDepth 100000 in
theorem jw_429 : Cond.methodLink RX0 71 yX0_becomeCold ∈ jtw := jin 486 (by decide +kernel) rfl
set_option maxRecDepth 100000 in
theorem jw_430 : Cond.methodLink RX2 163 yX0_dropWhatIsPastIn ∈ jtw := jin 487 (by decide +kernel) rfl
set_option maxRecDepth 100000 in
theorem jw_431 : Cond.instanceMethod yX0_dropWhatIsPastIn ∈ jtw := jin 488 (by decide +kernel) rfl
set_option maxRecDepth 100000 in
theorem jw_432 : Cond.selects RX0 yX0_dropWhatIsPastIn yX0_dropWhatIsPastIn ∈ jtw := jin 489 (by decide +kernel) rfl
set_option maxRecDepth 100000 in
theorem jw_433 : Cond.code yX0_dropWhatIsPastIn cX0_dropWhatIsPastIn 2 none ∈ jtw := jin 490 rfl rfl
set_option maxRecDepth 100000 in
theorem jw_434 : Cond.methodLink RX2 166 yX0_mustGoOutIn ∈ jtw := jin 491 (by decide +kernel) rfl
set_option maxRecDepth 100000 in
theorem jw_435 : Cond.instanceMethod yX0_mustGoOutIn ∈ jtw := jin 492 (by decide +kernel) rfl
set_option maxRecDepth 100000 in
theorem jw_436 : Cond.selects RX0 yX0_mustGoOutIn yX0_mustGoOutIn ∈ jtw := jin 493 (by decide +kernel) rfl
set_option maxRecDepth 100000 in
theorem jw_437 : Cond.code yX0_mustGoOutIn cX0_mustGoOutIn 2 (some .boolean) ∈ jtw := jin 494 rfl rfl
set_option maxRecDepth 100000 in
theorem jw_438 : Cond.methodLink RL 52 yX6_set ∈ jtw := jin 495 (by decide +kernel) rfl
set_option maxRecDepth 100000 in
theorem jw_439 : Cond.instanceMethod yX6_set ∈ jtw := jin 496 (by decide +kernel) rfl
set_option maxRecDepth 100000 in
theorem jw_440 : Cond.selects RX6 yX6_set yX6_set ∈ jtw := jin 497 (by decide +kernel) rfl
set_option maxRecDepth 100000 in
theorem jw_441 : Cond.code yX6_set cX6_set 3 (some .int) ∈ jtw := jin 498 rfl rfl
set_option maxRecDepth 100000 in
theorem jw_442 : Cond.methodLink RX6 77 yX2_changeSetting ∈ jtw := jin 499 (by decide +kernel) rfl
set_option maxRecDepth 100000 in
theorem jw_443 : Cond.instanceMethod yX2_changeSetting ∈ jtw := jin 500 (by decide +kernel) rfl
set_option maxRecDepth 100000 in
theorem jw_444 : Cond.selects RX2 yX2_changeSetting yX2_changeSetting ∈ jtw := jin 501 (by decide +kernel) rfl
set_option maxRecDepth 100000 in
theorem jw_445 : Cond.code yX2_changeSetting cX2_changeSetting 4 (some .int) ∈ jtw := jin 502 rfl rfl
set_option maxRecDepth 100000 in
theorem jw_448 : Cond.methodLink RL 56 yX6_boilerOf ∈ jtw := jin 505 (by decide +kernel) rfl
set_option maxRecDepth 100000 in
theorem jw_449 : Cond.instanceMethod yX6_boilerOf ∈ jtw := jin 506 (by decide +kernel) rfl
set_option maxRecDepth 100000 in
theorem jw_450 : Cond.selects RX6 yX6_boilerOf yX6_boilerOf ∈ jtw := jin 507 (by decide +kernel) rfl
set_option maxRecDepth 100000 in
theorem jw_451 : Cond.code yX6_boilerOf cX6_boilerOf 3 (some .int) ∈ jtw := jin 508 rfl rfl
set_option maxRecDepth 100000 in
theorem jw_452 : Cond.methodLink RX6 80 yX2_factOfBoiler ∈ jtw := jin 509 (by decide +kernel) rfl
set_option maxRecDepth 100000 in
theorem jw_453 : Cond.instanceMethod yX2_factOfBoiler ∈ jtw := jin 510 (by decide +kernel) rfl
set_option maxRecDepth 100000 in
theorem jw_454 : Cond.selects RX2 yX2_factOfBoiler yX2_factOfBoiler ∈ jtw := jin 511 (by decide +kernel) rfl
set_option maxRecDepth 100000 in
theorem jw_455 : Cond.code yX2_factOfBoiler cX2_factOfBoiler 4 (some .int) ∈ jtw := jin 512 rfl rfl
set_option maxRecDepth 100000 in
theorem jw_456 : Cond.methodLink RX2 191 yX0_fact ∈ jtw := jin 513 (by decide +kernel) rfl
set_option maxRecDepth 100000 in
theorem jw_457 : Cond.instanceMethod yX0_fact ∈ jtw := jin 514 (by decide +kernel) rfl
set_option maxRecDepth 100000 in
theorem jw_458 : Cond.selects RX0 yX0_fact yX0_fact ∈ jtw := jin 515 (by decide +kernel) rfl
set_option maxRecDepth 100000 in
theorem jw_459 : Cond.code yX0_fact cX0_fact 3 (some .int) ∈ jtw := jin 516 rfl rfl
set_option maxRecDepth 100000 in
theorem jw_460 : Cond.constant RX0 75 (-2000000004) ∈ jtw := jin 517 (by decide +kernel) rfl
set_option maxRecDepth 100000 in
theorem jw_461 : Cond.methodLink RX0 76 yX0_strength ∈ jtw := jin 518 (by decide +kernel) rfl
set_option maxRecDepth 100000 in
theorem jw_462 : Cond.constant RX0 79 (-2000000001) ∈ jtw := jin 519 (by decide +kernel) rfl
set_option maxRecDepth 100000 in
theorem jw_463 : Cond.methodLink RL 60 yX6_paperOf ∈ jtw := jin 520 (by decide +kernel) rfl
set_option maxRecDepth 100000 in
theorem jw_464 : Cond.instanceMethod yX6_paperOf ∈ jtw := jin 521 (by decide +kernel) rfl
set_option maxRecDepth 100000 in
theorem jw_465 : Cond.selects RX6 yX6_paperOf yX6_paperOf ∈ jtw := jin 522 (by decide +kernel) rfl
set_option maxRecDepth 100000 in
theorem jw_466 : Cond.code yX6_paperOf cX6_paperOf 3 (some .int) ∈ jtw := jin 523 rfl rfl
set_option maxRecDepth 100000 in
theorem jw_467 : Cond.methodLink RX6 83 yX2_factOfPaper ∈ jtw := jin 524 (by decide +kernel) rfl
set_option maxRecDepth 100000 in
theorem jw_468 : Cond.instanceMethod yX2_factOfPaper ∈ jtw := jin 525 (by decide +kernel) rfl
set_option maxRecDepth 100000 in
theorem jw_469 : Cond.selects RX2 yX2_factOfPaper yX2_factOfPaper ∈ jtw := jin 526 (by decide +kernel) rfl
set_option maxRecDepth 100000 in
theorem jw_470 : Cond.code yX2_factOfPaper cX2_factOfPaper 4 (some .int) ∈ jtw := jin 527 rfl rfl
set_option maxRecDepth 100000 in
theorem jw_471 : Cond.methodLink RX2 194 yX0_factOfPaper ∈ jtw := jin 528 (by decide +kernel) rfl
set_option maxRecDepth 100000 in
theorem jw_472 : Cond.instanceMethod yX0_factOfPaper ∈ jtw := jin 529 (by decide +kernel) rfl
set_option maxRecDepth 100000 in
theorem jw_473 : Cond.selects RX0 yX0_factOfPaper yX0_factOfPaper ∈ jtw := jin 530 (by decide +kernel) rfl
set_option maxRecDepth 100000 in
theorem jw_474 : Cond.code yX0_factOfPaper cX0_factOfPaper 2 (some .int) ∈ jtw := jin 531 rfl rfl
set_option maxRecDepth 100000 in
theorem jw_475 : Cond.methodLink RL 64 yX6_inspectorOf ∈ jtw := jin 532 (by decide +kernel) rfl
set_option maxRecDepth 100000 in
theorem jw_476 : Cond.instanceMethod yX6_inspectorOf ∈ jtw := jin 533 (by decide +kernel) rfl
set_option maxRecDepth 100000 in
theorem jw_477 : Cond.selects RX6 yX6_inspectorOf yX6_inspectorOf ∈ jtw := jin 534 (by decide +kernel) rfl
set_option maxRecDepth 100000 in
theorem jw_478 : Cond.code yX6_inspectorOf cX6_inspectorOf 3 (some .int) ∈ jtw := jin 535 rfl rfl
set_option maxRecDepth 100000 in
theorem jw_479 : Cond.methodLink RX6 86 yX2_factOfInspector ∈ jtw := jin 536 (by decide +kernel) rfl
set_option maxRecDepth 100000 in
theorem jw_480 : Cond.instanceMethod yX2_factOfInspector ∈ jtw := jin 537 (by decide +kernel) rfl
set_option maxRecDepth 100000 in
theorem jw_481 : Cond.selects RX2 yX2_factOfInspector yX2_factOfInspector ∈ jtw := jin 538 (by decide +kernel) rfl
set_option maxRecDepth 100000 in
theorem jw_482 : Cond.code yX2_factOfInspector cX2_factOfInspector 4 (some .int) ∈ jtw := jin 539 rfl rfl
set_option maxRecDepth 100000 in
theorem jw_483 : Cond.methodLink RX2 197 yX3_fact ∈ jtw := jin 540 (by decide +kernel) rfl
set_option maxRecDepth 100000 in
theorem jw_484 : Cond.instanceMethod yX3_fact ∈ jtw := jin 541 (by decide +kernel) rfl
set_option maxRecDepth 100000 in
theorem jw_485 : Cond.selects RX3 yX3_fact yX3_fact ∈ jtw := jin 542 (by decide +kernel) rfl
set_option maxRecDepth 100000 in
theorem jw_486 : Cond.code yX3_fact cX3_fact 2 (some .int) ∈ jtw := jin 543 rfl rfl
set_option maxRecDepth 100000 in
theorem jw_487 : Cond.methodLink RX3 27 yX3_left ∈ jtw := jin 544 (by decide +kernel) rfl
set_option maxRecDepth 100000 in
theorem jw_488 : Cond.constant RX3 31 (-2000000001) ∈ jtw := jin 545 (by decide +kernel) rfl
set_option maxRecDepth 100000 in
theorem jw_489 : Cond.methodLink RL 68 yX6_why ∈ jtw := jin 546 (by decide +kernel) rfl
set_option maxRecDepth 100000 in
theorem jw_490 : Cond.instanceMethod yX6_why ∈ jtw := jin 547 (by decide +kernel) rfl
set_option maxRecDepth 100000 in
theorem jw_491 : Cond.selects RX6 yX6_why yX6_why ∈ jtw := jin 548 (by decide +kernel) rfl
set_option maxRecDepth 100000 in
theorem jw_492 : Cond.code yX6_why cX6_why 3 (some .int) ∈ jtw := jin 549 rfl rfl
set_option maxRecDepth 100000 in
theorem jw_493 : Cond.methodLink RX6 89 yX2_whyNotFired ∈ jtw := jin 550 (by decide +kernel) rfl
set_option maxRecDepth 100000 in
theorem jw_494 : Cond.instanceMethod yX2_whyNotFired ∈ jtw := jin 551 (by decide +kernel) rfl
set_option maxRecDepth 100000 in
theorem jw_495 : Cond.selects RX2 yX2_whyNotFired yX2_whyNotFired ∈ jtw := jin 552 (by decide +kernel) rfl
set_option maxRecDepth 100000 in
theorem jw_496 : Cond.code yX2_whyNotFired cX2_whyNotFired 3 (some .int) ∈ jtw := jin 553 rfl rfl
set_option maxRecDepth 100000 in
theorem jw_497 : Cond.methodLink RX6 92 yX2_whyNotInspected ∈ jtw := jin 554 (by decide +kernel) rfl
set_option maxRecDepth 100000 in
theorem jw_498 : Cond.instanceMethod yX2_whyNotInspected ∈ jtw := jin 555 (by decide +kernel) rfl
set_option maxRecDepth 100000 in
theorem jw_499 : Cond.selects RX2 yX2_whyNotInspected yX2_whyNotInspected ∈ jtw := jin 556 (by decide +kernel) rfl
set_option maxRecDepth 100000 in
theorem jw_500 : Cond.code yX2_whyNotInspected cX2_whyNotInspected 5 (some .int) ∈ jtw := jin 557 rfl rfl
set_option maxRecDepth 100000 in
theorem jw_501 : Cond.methodLink RL 72 yX6_account ∈ jtw := jin 558 (by decide +kernel) rfl
set_option maxRecDepth 100000 in
theorem jw_502 : Cond.instanceMethod yX6_account ∈ jtw := jin 559 (by decide +kernel) rfl
set_option maxRecDepth 100000 in
theorem jw_503 : Cond.selects RX6 yX6_account yX6_account ∈ jtw := jin 560 (by decide +kernel) rfl
set_option maxRecDepth 100000 in
theorem jw_504 : Cond.code yX6_account cX6_account 2 (some .int) ∈ jtw := jin 561 rfl rfl
set_option maxRecDepth 100000 in
theorem jw_505 : Cond.methodLink RX6 95 yX2_balanceOf ∈ jtw := jin 562 (by decide +kernel) rfl
set_option maxRecDepth 100000 in
theorem jw_506 : Cond.instanceMethod yX2_balanceOf ∈ jtw := jin 563 (by decide +kernel) rfl
set_option maxRecDepth 100000 in
theorem jw_507 : Cond.selects RX2 yX2_balanceOf yX2_balanceOf ∈ jtw := jin 564 (by decide +kernel) rfl
set_option maxRecDepth 100000 in
theorem jw_508 : Cond.code yX2_balanceOf cX2_balanceOf 3 (some .int) ∈ jtw := jin 565 rfl rfl
set_option maxRecDepth 100000 in
theorem jw_509 : Cond.methodLink RL 76 yX6_would ∈ jtw := jin 566 (by decide +kernel) rfl
set_option maxRecDepth 100000 in
theorem jw_510 : Cond.instanceMethod yX6_would ∈ jtw := jin 567 (by decide +kernel) rfl
set_option maxRecDepth 100000 in
theorem jw_511 : Cond.selects RX6 yX6_would yX6_would ∈ jtw := jin 568 (by decide +kernel) rfl
set_option maxRecDepth 100000 in
theorem jw_512 : Cond.code yX6_would cX6_would 4 (some .int) ∈ jtw := jin 569 rfl rfl
set_option maxRecDepth 100000 in
theorem jw_513 : Cond.methodLink RX6 98 yX2_paperThatWouldBe ∈ jtw := jin 570 (by decide +kernel) rfl
set_option maxRecDepth 100000 in
theorem jw_514 : Cond.instanceMethod yX2_paperThatWouldBe ∈ jtw := jin 571 (by decide +kernel) rfl
set_option maxRecDepth 100000 in
theorem jw_515 : Cond.selects RX2 yX2_paperThatWouldBe yX2_paperThatWouldBe ∈ jtw := jin 572 (by decide +kernel) rfl
set_option maxRecDepth 100000 in
theorem jw_516 : Cond.code yX2_paperThatWouldBe cX2_paperThatWouldBe 6 (some .int) ∈ jtw := jin 573 rfl rfl
set_option maxRecDepth 100000 in
theorem jw_517 : Cond.constant RX2 202 (-2000000004) ∈ jtw := jin 574 (by decide +kernel) rfl
set_option maxRecDepth 100000 in
theorem jw_518 : Cond.methodLink RL 80 yX6_better ∈ jtw := jin 575 (by decide +kernel) rfl
set_option maxRecDepth 100000 in
theorem jw_519 : Cond.instanceMethod yX6_better ∈ jtw := jin 576 (by decide +kernel) rfl
set_option maxRecDepth 100000 in
theorem jw_520 : Cond.selects RX6 yX6_better yX6_better ∈ jtw := jin 577 (by decide +kernel) rfl
set_option maxRecDepth 100000 in
theorem jw_521 : Cond.code yX6_better cX6_better 2 (some .int) ∈ jtw := jin 578 rfl rfl
set_option maxRecDepth 100000 in
theorem jw_522 : Cond.methodLink RX6 101 yX2_betterInsurer ∈ jtw := jin 579 (by decide +kernel) rfl
set_option maxRecDepth 100000 in
theorem jw_523 : Cond.instanceMethod yX2_betterInsurer ∈ jtw := jin 580 (by decide +kernel) rfl
set_option maxRecDepth 100000 in
theorem jw_524 : Cond.selects RX2 yX2_betterInsurer yX2_betterInsurer ∈ jtw := jin 581 (by decide +kernel) rfl
set_option maxRecDepth 100000 in
theorem jw_525 : Cond.code yX2_betterInsurer cX2_betterInsurer 5 (some .int) ∈ jtw := jin 582 rfl rfl
set_option maxRecDepth 100000 in
theorem jw_526 : Cond.methodLink RX2 203 yX2_isOneBetter ∈ jtw := jin 583 (by decide +kernel) rfl
set_option maxRecDepth 100000 in
theorem jw_528 : Cond.instanceMethod yX2_isOneBetter ∈ jtw := jin 585 (by decide +kernel) rfl
set_option maxRecDepth 100000 in
theorem jw_529 : Cond.code yX2_isOneBetter cX2_isOneBetter 4 (some .boolean) ∈ jtw := jin 586 rfl rfl
set_option maxRecDepth 100000 in
theorem jw_530 : Cond.methodLink RL 84 yX6_first ∈ jtw := jin 587 (by decide +kernel) rfl
set_option maxRecDepth 100000 in
theorem jw_531 : Cond.instanceMethod yX6_first ∈ jtw := jin 588 (by decide +kernel) rfl
set_option maxRecDepth 100000 in
theorem jw_532 : Cond.selects RX6 yX6_first yX6_first ∈ jtw := jin 589 (by decide +kernel) rfl
set_option maxRecDepth 100000 in
theorem jw_533 : Cond.code yX6_first cX6_first 2 (some .int) ∈ jtw := jin 590 rfl rfl
set_option maxRecDepth 100000 in
theorem jw_534 : Cond.methodLink RX6 104 yX2_firstToRunOut ∈ jtw := jin 591 (by decide +kernel) rfl
set_option maxRecDepth 100000 in
theorem jw_535 : Cond.instanceMethod yX2_firstToRunOut ∈ jtw := jin 592 (by decide +kernel) rfl
set_option maxRecDepth 100000 in
theorem jw_536 : Cond.selects RX2 yX2_firstToRunOut yX2_firstToRunOut ∈ jtw := jin 593 (by decide +kernel) rfl
set_option maxRecDepth 100000 in
theorem jw_537 : Cond.code yX2_firstToRunOut cX2_firstToRunOut 6 (some .int) ∈ jtw := jin 594 rfl rfl
set_option maxRecDepth 100000 in
theorem jw_538 : Cond.methodLink RL 88 yX6_goesOn ∈ jtw := jin 595 (by decide +kernel) rfl
set_option maxRecDepth 100000 in
theorem jw_539 : Cond.instanceMethod yX6_goesOn ∈ jtw := jin 596 (by decide +kernel) rfl
set_option maxRecDepth 100000 in
theorem jw_540 : Cond.selects RX6 yX6_goesOn yX6_goesOn ∈ jtw := jin 597 (by decide +kernel) rfl
set_option maxRecDepth 100000 in
theorem jw_541 : Cond.code yX6_goesOn cX6_goesOn 2 (some .int) ∈ jtw := jin 598 rfl rfl
set_option maxRecDepth 100000 in
theorem jw_542 : Cond.methodLink RX6 107 yX2_weeksUntilPutOut ∈ jtw := jin 599 (by decide +kernel) rfl
set_option maxRecDepth 100000 in
theorem jw_543 : Cond.instanceMethod yX2_weeksUntilPutOut ∈ jtw := jin 600 (by decide +kernel) rfl
set_option maxRecDepth 100000 in
theorem jw_544 : Cond.selects RX2 yX2_weeksUntilPutOut yX2_weeksUntilPutOut ∈ jtw := jin 601 (by decide +kernel) rfl
set_option maxRecDepth 100000 in
theorem jw_545 : Cond.code yX2_weeksUntilPutOut cX2_weeksUntilPutOut 3 (some .int) ∈ jtw := jin 602 rfl rfl
set_option maxRecDepth 100000 in
theorem jw_546 : Cond.methodLink RX2 207 yX0_weeksUntilPutOut ∈ jtw := jin 603 (by decide +kernel) rfl
set_option maxRecDepth 100000 in
theorem jw_547 : Cond.instanceMethod yX0_weeksUntilPutOut ∈ jtw := jin 604 (by decide +kernel) rfl
set_option maxRecDepth 100000 in
theorem jw_548 : Cond.selects RX0 yX0_weeksUntilPutOut yX0_weeksUntilPutOut ∈ jtw := jin 605 (by decide +kernel) rfl
set_option maxRecDepth 100000 in
theorem jw_549 : Cond.code yX0_weeksUntilPutOut cX0_weeksUntilPutOut 3 (some .int) ∈ jtw := jin 606 rfl rfl
set_option maxRecDepth 100000 in
theorem jw_550 : Cond.constant RX0 74 (-2000000002) ∈ jtw := jin 607 (by decide +kernel) rfl
set_option maxRecDepth 100000 in
theorem jw_551 : Cond.methodLink RL 92 yX6_share ∈ jtw := jin 608 (by decide +kernel) rfl
set_option maxRecDepth 100000 in
theorem jw_552 : Cond.instanceMethod yX6_share ∈ jtw := jin 609 (by decide +kernel) rfl
set_option maxRecDepth 100000 in
theorem jw_553 : Cond.selects RX6 yX6_share yX6_share ∈ jtw := jin 610 (by decide +kernel) rfl
set_option maxRecDepth 100000 in
theorem jw_554 : Cond.code yX6_share cX6_share 2 (some .int) ∈ jtw := jin 611 rfl rfl
set_option maxRecDepth 100000 in
theorem jw_555 : Cond.methodLink RX6 110 yX2_shareOfStrength ∈ jtw := jin 612 (by decide +kernel) rfl
set_option maxRecDepth 100000 in
theorem jw_556 : Cond.instanceMethod yX2_shareOfStrength ∈ jtw := jin 613 (by decide +kernel) rfl
set_option maxRecDepth 100000 in
theorem jw_557 : Cond.selects RX2 yX2_shareOfStrength yX2_shareOfStrength ∈ jtw := jin 614 (by decide +kernel) rfl
set_option maxRecDepth 100000 in
theorem jw_558 : Cond.code yX2_shareOfStrength cX2_shareOfStrength 3 (some .int) ∈ jtw := jin 615 rfl rfl
set_option maxRecDepth 100000 in
theorem jw_559 : Cond.methodLink RX2 210 yX2_bitsOfShare ∈ jtw := jin 616 (by decide +kernel) rfl
set_option maxRecDepth 100000 in
theorem jw_560 : Cond.static yX2_bitsOfShare ∈ jtw := jin 617 (by decide +kernel) rfl
set_option maxRecDepth 100000 in
theorem jw_561 : Cond.code yX2_bitsOfShare cX2_bitsOfShare 4 (some .int) ∈ jtw := jin 618 rfl rfl
set_option maxRecDepth 100000 in
theorem jw_563 : Cond.methodLink RL 96 yX6_count ∈ jtw := jin 620 (by decide +kernel) rfl
set_option maxRecDepth 100000 in
theorem jw_564 : Cond.instanceMethod yX6_count ∈ jtw := jin 621 (by decide +kernel) rfl
set_option maxRecDepth 100000 in
theorem jw_565 : Cond.selects RX6 yX6_count yX6_count ∈ jtw := jin 622 (by decide +kernel) rfl
set_option maxRecDepth 100000 in
theorem jw_566 : Cond.code yX6_count cX6_count 2 (some .int) ∈ jtw := jin 623 rfl rfl
set_option maxRecDepth 100000 in
theorem jw_567 : Cond.methodLink RX6 113 yX1_size ∈ jtw := jin 624 (by decide +kernel) rfl
set_option maxRecDepth 100000 in
theorem jw_568 : Cond.instanceMethod yX1_size ∈ jtw := jin 625 (by decide +kernel) rfl
set_option maxRecDepth 100000 in
theorem jw_569 : Cond.selects RX1 yX1_size yX1_size ∈ jtw := jin 626 (by decide +kernel) rfl
set_option maxRecDepth 100000 in
theorem jw_570 : Cond.code yX1_size cX1_size 1 (some .int) ∈ jtw := jin 627 rfl rfl
set_option maxRecDepth 100000 in
theorem jw_571 : Cond.methodLink RX6 117 yX4_length ∈ jtw := jin 628 (by decide +kernel) rfl
set_option maxRecDepth 100000 in
theorem jw_572 : Cond.instanceMethod yX4_length ∈ jtw := jin 629 (by decide +kernel) rfl
set_option maxRecDepth 100000 in
theorem jw_573 : Cond.selects RX4 yX4_length yX4_length ∈ jtw := jin 630 (by decide +kernel) rfl
set_option maxRecDepth 100000 in
theorem jw_574 : Cond.code yX4_length cX4_length 1 (some .int) ∈ jtw := jin 631 rfl rfl
set_option maxRecDepth 100000 in
theorem jw_575 : Cond.methodLink RX6 120 yX2_numberOf ∈ jtw := jin 632 (by decide +kernel) rfl
set_option maxRecDepth 100000 in
theorem jw_576 : Cond.instanceMethod yX2_numberOf ∈ jtw := jin 633 (by decide +kernel) rfl
set_option maxRecDepth 100000 in
theorem jw_577 : Cond.selects RX2 yX2_numberOf yX2_numberOf ∈ jtw := jin 634 (by decide +kernel) rfl
set_option maxRecDepth 100000 in
theorem jw_578 : Cond.code yX2_numberOf cX2_numberOf 2 (some .int) ∈ jtw := jin 635 rfl rfl
set_option maxRecDepth 100000 in
theorem jw_579 : Cond.methodLink RX2 215 yX2_setOfBoilers ∈ jtw := jin 636 (by decide +kernel) rfl
set_option maxRecDepth 100000 in
theorem jw_581 : Cond.instanceMethod yX2_setOfBoilers ∈ jtw := jin 638 (by decide +kernel) rfl
set_option maxRecDepth 100000 in
theorem jw_582 : Cond.code yX2_setOfBoilers cX2_setOfBoilers 5 (some .int) ∈ jtw := jin 639 rfl rfl
set_option maxRecDepth 100000 in
theorem jw_583 : Cond.methodLink RX2 224 yX2_isInSet ∈ jtw := jin 640 (by decide +kernel) rfl
set_option maxRecDepth 100000 in
theorem jw_585 : Cond.instanceMethod yX2_isInSet ∈ jtw := jin 642 (by decide +kernel) rfl
set_option maxRecDepth 100000 in
theorem jw_586 : Cond.code yX2_isInSet cX2_isInSet 3 (some .boolean) ∈ jtw := jin 643 rfl rfl
set_option maxRecDepth 100000 in
theorem jw_587 : Cond.methodLink RX2 218 yX2_allAccounts ∈ jtw := jin 644 (by decide +kernel) rfl
set_option maxRecDepth 100000 in
theorem jw_589 : Cond.instanceMethod yX2_allAccounts ∈ jtw := jin 646 (by decide +kernel) rfl
set_option maxRecDepth 100000 in
theorem jw_590 : Cond.code yX2_allAccounts cX2_allAccounts 6 (some .int) ∈ jtw := jin 647 rfl rfl
set_option maxRecDepth 100000 in
theorem jw_591 : Cond.methodLink RX2 221 yX2_allOfInspectors ∈ jtw := jin 648 (by decide +kernel) rfl
set_option maxRecDepth 100000 in
theorem jw_593 : Cond.instanceMethod yX2_allOfInspectors ∈ jtw := jin 650 (by decide +kernel) rfl
set_option maxRecDepth 100000 in
theorem jw_594 : Cond.code yX2_allOfInspectors cX2_allOfInspectors 5 (some .int) ∈ jtw := jin 651 rfl rfl
set_option maxRecDepth 100000 in
theorem jw_595 : Cond.methodLink RL 100 yX6_undo ∈ jtw := jin 652 (by decide +kernel) rfl
set_option maxRecDepth 100000 in
theorem jw_596 : Cond.instanceMethod yX6_undo ∈ jtw := jin 653 (by decide +kernel) rfl
set_option maxRecDepth 100000 in
theorem jw_597 : Cond.selects RX6 yX6_undo yX6_undo ∈ jtw := jin 654 (by decide +kernel) rfl
set_option maxRecDepth 100000 in
theorem jw_598 : Cond.code yX6_undo cX6_undo 1 (some .int) ∈ jtw := jin 655 rfl rfl
set_option maxRecDepth 100000 in
theorem jw_599 : Cond.methodLink RX6 123 yX1_bringBack ∈ jtw := jin 656 (by decide +kernel) rfl
set_option maxRecDepth 100000 in
theorem jw_600 : Cond.instanceMethod yX1_bringBack ∈ jtw := jin 657 (by decide +kernel) rfl
set_option maxRecDepth 100000 in
theorem jw_601 : Cond.selects RX1 yX1_bringBack yX1_bringBack ∈ jtw := jin 658 (by decide +kernel) rfl
set_option maxRecDepth 100000 in
theorem jw_602 : Cond.code yX1_bringBack cX1_bringBack 4 (some .int) ∈ jtw := jin 659 rfl rfl
set_option maxRecDepth 100000 in
theorem jw_603 : Cond.constant RX1 39 (-2000000002) ∈ jtw := jin 660 (by decide +kernel) rfl
set_option maxRecDepth 100000 in
theorem jw_604 : Cond.methodLink RL 105 yX6_type ∈ jtw := jin 661 (by decide +kernel) rfl
set_option maxRecDepth 100000 in
theorem jw_605 : Cond.instanceMethod yX6_type ∈ jtw := jin 662 (by decide +kernel) rfl
set_option maxRecDepth 100000 in
theorem jw_606 : Cond.selects RX6 yX6_type yX6_type ∈ jtw := jin 663 (by decide +kernel) rfl
set_option maxRecDepth 100000 in
theorem jw_607 : Cond.code yX6_type cX6_type 2 (some .int) ∈ jtw := jin 664 rfl rfl
set_option maxRecDepth 100000 in
theorem jw_608 : Cond.methodLink RX6 127 yX4_append ∈ jtw := jin 665 (by decide +kernel) rfl
set_option maxRecDepth 100000 in
theorem jw_609 : Cond.instanceMethod yX4_append ∈ jtw := jin 666 (by decide +kernel) rfl
set_option maxRecDepth 100000 in
theorem jw_610 : Cond.selects RX4 yX4_append yX4_append ∈ jtw := jin 667 (by decide +kernel) rfl
set_option maxRecDepth 100000 in
theorem jw_611 : Cond.code yX4_append cX4_append 2 (some .int) ∈ jtw := jin 668 rfl rfl
set_option maxRecDepth 100000 in
theorem jw_612 : Cond.constant RX4 19 (-2000000001) ∈ jtw := jin 669 (by decide +kernel) rfl
set_option maxRecDepth 100000 in
theorem jw_613 : Cond.constant RX4 20 (-2000000003) ∈ jtw := jin 670 (by decide +kernel) rfl
set_option maxRecDepth 100000 in
theorem jw_614 : Cond.methodLink RL 109 yX6_clearText ∈ jtw := jin 671 (by decide +kernel) rfl
set_option maxRecDepth 100000 in
theorem jw_615 : Cond.instanceMethod yX6_clearText ∈ jtw := jin 672 (by decide +kernel) rfl
set_option maxRecDepth 100000 in
theorem jw_616 : Cond.selects RX6 yX6_clearText yX6_clearText ∈ jtw := jin 673 (by decide +kernel) rfl
set_option maxRecDepth 100000 in
theorem jw_617 : Cond.code yX6_clearText cX6_clearText 1 (some .int) ∈ jtw := jin 674 rfl rfl
set_option maxRecDepth 100000 in
theorem jw_618 : Cond.methodLink RX6 130 yX4_empty ∈ jtw := jin 675 (by decide +kernel) rfl
set_option maxRecDepth 100000 in
theorem jw_619 : Cond.instanceMethod yX4_empty ∈ jtw := jin 676 (by decide +kernel) rfl
set_option maxRecDepth 100000 in
theorem jw_620 : Cond.selects RX4 yX4_empty yX4_empty ∈ jtw := jin 677 (by decide +kernel) rfl
set_option maxRecDepth 100000 in
theorem jw_621 : Cond.code yX4_empty cX4_empty 2 (some .int) ∈ jtw := jin 678 rfl rfl
set_option maxRecDepth 100000 in
theorem jw_622 : Cond.methodLink RL 113 yX6_fault ∈ jtw := jin 679 (by decide +kernel) rfl
set_option maxRecDepth 100000 in
theorem jw_623 : Cond.instanceMethod yX6_fault ∈ jtw := jin 680 (by decide +kernel) rfl
set_option maxRecDepth 100000 in
theorem jw_624 : Cond.selects RX6 yX6_fault yX6_fault ∈ jtw := jin 681 (by decide +kernel) rfl
set_option maxRecDepth 100000 in
theorem jw_625 : Cond.code yX6_fault cX6_fault 2 (some .int) ∈ jtw := jin 682 rfl rfl
set_option maxRecDepth 100000 in
theorem jw_626 : Cond.methodLink RX6 134 yX5_run ∈ jtw := jin 683 (by decide +kernel) rfl
set_option maxRecDepth 100000 in
theorem jw_627 : Cond.instanceMethod yX5_run ∈ jtw := jin 684 (by decide +kernel) rfl
set_option maxRecDepth 100000 in
theorem jw_628 : Cond.selects RX5 yX5_run yX5_run ∈ jtw := jin 685 (by decide +kernel) rfl
set_option maxRecDepth 100000 in
theorem jw_629 : Cond.code yX5_run cX5_run 4 none ∈ jtw := jin 686 rfl rfl
set_option maxRecDepth 100000 in
theorem jw_630 : Cond.methodLink RX5 18 yX4_goToStart ∈ jtw := jin 687 (by decide +kernel) rfl
set_option maxRecDepth 100000 in
theorem jw_631 : Cond.instanceMethod yX4_goToStart ∈ jtw := jin 688 (by decide +kernel) rfl
set_option maxRecDepth 100000 in
theorem jw_632 : Cond.selects RX4 yX4_goToStart yX4_goToStart ∈ jtw := jin 689 (by decide +kernel) rfl
set_option maxRecDepth 100000 in
theorem jw_633 : Cond.code yX4_goToStart cX4_goToStart 1 none ∈ jtw := jin 690 rfl rfl
set_option maxRecDepth 100000 in
theorem jw_634 : Cond.methodLink RX5 23 yX4_hasMore ∈ jtw := jin 691 (by decide +kernel) rfl
set_option maxRecDepth 100000 in
theorem jw_635 : Cond.instanceMethod yX4_hasMore ∈ jtw := jin 692 (by decide +kernel) rfl
set_option maxRecDepth 100000 in
theorem jw_636 : Cond.selects RX4 yX4_hasMore yX4_hasMore ∈ jtw := jin 693 (by decide +kernel) rfl
set_option maxRecDepth 100000 in
theorem jw_637 : Cond.code yX4_hasMore cX4_hasMore 1 (some .boolean) ∈ jtw := jin 694 rfl rfl
set_option maxRecDepth 100000 in
theorem jw_638 : Cond.methodLink RX5 27 yX4_readOrder ∈ jtw := jin 695 (by decide +kernel) rfl
set_option maxRecDepth 100000 in
theorem jw_639 : Cond.instanceMethod yX4_readOrder ∈ jtw := jin 696 (by decide +kernel) rfl
set_option maxRecDepth 100000 in
theorem jw_640 : Cond.selects RX4 yX4_readOrder yX4_readOrder ∈ jtw := jin 697 (by decide +kernel) rfl
set_option maxRecDepth 100000 in
theorem jw_641 : Cond.code yX4_readOrder cX4_readOrder 1 (some .boolean) ∈ jtw := jin 698 rfl rfl
set_option maxRecDepth 100000 in
theorem jw_642 : Cond.methodLink RX4 27 yX4_readKind ∈ jtw := jin 699 (by decide +kernel) rfl
set_option maxRecDepth 100000 in
theorem jw_644 : Cond.instanceMethod yX4_readKind ∈ jtw := jin 701 (by decide +kernel) rfl
set_option maxRecDepth 100000 in
theorem jw_645 : Cond.code yX4_readKind cX4_readKind 2 (some .boolean) ∈ jtw := jin 702 rfl rfl
set_option maxRecDepth 100000 in
theorem jw_646 : Cond.methodLink RX4 49 yX4_signHere ∈ jtw := jin 703 (by decide +kernel) rfl
set_option maxRecDepth 100000 in
theorem jw_648 : Cond.instanceMethod yX4_signHere ∈ jtw := jin 705 (by decide +kernel) rfl
set_option maxRecDepth 100000 in
theorem jw_649 : Cond.code yX4_signHere cX4_signHere 2 (some .int) ∈ jtw := jin 706 rfl rfl
set_option maxRecDepth 100000 in
theorem jw_650 : Cond.methodLink RX4 31 yX4_readNumber ∈ jtw := jin 707 (by decide +kernel) rfl
set_option maxRecDepth 100000 in
theorem jw_652 : Cond.instanceMethod yX4_readNumber ∈ jtw := jin 709 (by decide +kernel) rfl
set_option maxRecDepth 100000 in
theorem jw_653 : Cond.code yX4_readNumber cX4_readNumber 3 (some .int) ∈ jtw := jin 710 rfl rfl
set_option maxRecDepth 100000 in
theorem jw_654 : Cond.methodLink RX4 52 yX4_readDigit ∈ jtw := jin 711 (by decide +kernel) rfl
set_option maxRecDepth 100000 in
theorem jw_656 : Cond.instanceMethod yX4_readDigit ∈ jtw := jin 713 (by decide +kernel) rfl
set_option maxRecDepth 100000 in
theorem jw_657 : Cond.code yX4_readDigit cX4_readDigit 2 (some .int) ∈ jtw := jin 714 rfl rfl
set_option maxRecDepth 100000 in
theorem jw_658 : Cond.methodLink RX4 45 yX4_readSign ∈ jtw := jin 715 (by decide +kernel) rfl
set_option maxRecDepth 100000 in
theorem jw_660 : Cond.instanceMethod yX4_readSign ∈ jtw := jin 717 (by decide +kernel) rfl
set_option maxRecDepth 100000 in
theorem jw_661 : Cond.code yX4_readSign cX4_readSign 2 (some .boolean) ∈ jtw := jin 718 rfl rfl
set_option maxRecDepth 100000 in
theorem jw_662 : Cond.methodLink RX5 43 yX2_obey ∈ jtw := jin 719 (by decide +kernel) rfl
set_option maxRecDepth 100000 in
theorem jw_663 : Cond.instanceMethod yX2_obey ∈ jtw := jin 720 (by decide +kernel) rfl
set_option maxRecDepth 100000 in
theorem jw_664 : Cond.selects RX2 yX2_obey yX2_obey ∈ jtw := jin 721 (by decide +kernel) rfl
set_option maxRecDepth 100000 in
theorem jw_665 : Cond.code yX2_obey cX2_obey 4 (some .int) ∈ jtw := jin 722 rfl rfl
set_option maxRecDepth 100000 in
theorem jw_666 : Cond.methodLink RX2 172 yX2_addBoiler ∈ jtw := jin 723 (by decide +kernel) rfl
set_option maxRecDepth 100000 in
theorem jw_667 : Cond.methodLink RX2 175 yX2_examine ∈ jtw := jin 724 (by decide +kernel) rfl
set_option maxRecDepth 100000 in
theorem jw_668 : Cond.methodLink RX2 179 yX2_light ∈ jtw := jin 725 (by decide +kernel) rfl
set_option maxRecDepth 100000 in
theorem jw_669 : Cond.methodLink RX2 182 yX2_putOut ∈ jtw := jin 726 (by decide +kernel) rfl
set_option maxRecDepth 100000 in
theorem jw_670 : Cond.methodLink RX2 185 yX2_sendToRepair ∈ jtw := jin 727 (by decide +kernel) rfl
set_option maxRecDepth 100000 in
theorem jw_671 : Cond.methodLink RX2 188 yX2_letWeeksPass ∈ jtw := jin 728 (by decide +kernel) rfl
set_option maxRecDepth 100000 in
theorem jw_672 : Cond.methodLink RX5 49 yX5_takeAnswer ∈ jtw := jin 729 (by decide +kernel) rfl
set_option maxRecDepth 100000 in
theorem jw_674 : Cond.instanceMethod yX5_takeAnswer ∈ jtw := jin 731 (by decide +kernel) rfl
set_option maxRecDepth 100000 in
theorem jw_675 : Cond.code yX5_takeAnswer cX5_takeAnswer 3 none ∈ jtw := jin 732 rfl rfl
set_option maxRecDepth 100000 in
theorem jw_677 : Cond.methodLink RX5 57 yX5_stopAt ∈ jtw := jin 734 (by decide +kernel) rfl
set_option maxRecDepth 100000 in
theorem jw_679 : Cond.instanceMethod yX5_stopAt ∈ jtw := jin 736 (by decide +kernel) rfl
set_option maxRecDepth 100000 in
theorem jw_680 : Cond.code yX5_stopAt cX5_stopAt 4 none ∈ jtw := jin 737 rfl rfl
set_option maxRecDepth 100000 in
theorem jw_681 : Cond.methodLink RX5 53 yX4_brokeOffAt ∈ jtw := jin 738 (by decide +kernel) rfl
set_option maxRecDepth 100000 in
theorem jw_682 : Cond.instanceMethod yX4_brokeOffAt ∈ jtw := jin 739 (by decide +kernel) rfl
set_option maxRecDepth 100000 in
theorem jw_683 : Cond.selects RX4 yX4_brokeOffAt yX4_brokeOffAt ∈ jtw := jin 740 (by decide +kernel) rfl
set_option maxRecDepth 100000 in
theorem jw_684 : Cond.code yX4_brokeOffAt cX4_brokeOffAt 1 (some .int) ∈ jtw := jin 741 rfl rfl
set_option maxRecDepth 100000 in
theorem jw_685 : Cond.methodLink RX6 138 yX5_factOfFault ∈ jtw := jin 742 (by decide +kernel) rfl
set_option maxRecDepth 100000 in
theorem jw_686 : Cond.instanceMethod yX5_factOfFault ∈ jtw := jin 743 (by decide +kernel) rfl
set_option maxRecDepth 100000 in
theorem jw_687 : Cond.selects RX5 yX5_factOfFault yX5_factOfFault ∈ jtw := jin 744 (by decide +kernel) rfl
set_option maxRecDepth 100000 in
theorem jw_688 : Cond.code yX5_factOfFault cX5_factOfFault 2 (some .int) ∈ jtw := jin 745 rfl rfl
set_option maxRecDepth 100000 in
theorem jw_689 : Cond.constant RX5 72 (-2000000004) ∈ jtw := jin 746 (by decide +kernel) rfl
set_option maxRecDepth 100000 in
theorem jw_690 : Cond.methodLink RL 117 yX6_play ∈ jtw := jin 747 (by decide +kernel) rfl
set_option maxRecDepth 100000 in
theorem jw_691 : Cond.instanceMethod yX6_play ∈ jtw := jin 748 (by decide +kernel) rfl
set_option maxRecDepth 100000 in
theorem jw_692 : Cond.selects RX6 yX6_play yX6_play ∈ jtw := jin 749 (by decide +kernel) rfl
set_option maxRecDepth 100000 in
theorem jw_693 : Cond.code yX6_play cX6_play 1 (some .int) ∈ jtw := jin 750 rfl rfl
set_option maxRecDepth 100000 in
theorem jw_694 : Cond.methodLink RX6 141 yX5_ordersDone ∈ jtw := jin 751 (by decide +kernel) rfl
set_option maxRecDepth 100000 in
theorem jw_695 : Cond.instanceMethod yX5_ordersDone ∈ jtw := jin 752 (by decide +kernel) rfl
set_option maxRecDepth 100000 in
theorem jw_696 : Cond.selects RX5 yX5_ordersDone yX5_ordersDone ∈ jtw := jin 753 (by decide +kernel) rfl
set_option maxRecDepth 100000 in
theorem jw_697 : Cond.code yX5_ordersDone cX5_ordersDone 1 (some .int) ∈ jtw := jin 754 rfl rfl
set_option maxRecDepth 100000 in
theorem jw_698 : Cond.constant RX5 71 (-2000000002) ∈ jtw := jin 755 (by decide +kernel) rfl
set_option maxRecDepth 100000 in
theorem jw_699 : Cond.classLink RL 10 RX7 ∈ jtw := jin 756 (by decide +kernel) rfl
set_option maxRecDepth 100000 in
theorem jw_700 : Cond.instantiable RX7 13 ∈ jtw := jin 757 (by decide +kernel) rfl
set_option maxRecDepth 100000 in
theorem jw_701 : Cond.methodLink RL 12 yX7_init ∈ jtw := jin 758 (by decide +kernel) rfl
set_option maxRecDepth 100000 in
theorem jw_702 : Cond.instanceMethod yX7_init ∈ jtw := jin 759 (by decide +kernel) rfl
set_option maxRecDepth 100000 in
theorem jw_703 : Cond.code yX7_init cX7_init 1 none ∈ jtw := jin 760 rfl rfl
set_option maxRecDepth 100000 in
theorem jw_704 : Cond.methodLink RX7 1 objectInit ∈ jtw := jin 761 (by decide +kernel) rfl
set_option maxRecDepth 100000 in
theorem jw_705 : Cond.fieldLink RX7 7 "BoilerPapersModel" "s" "[I" ∈ jtw := jin 762 (by decide +kernel) rfl
set_option maxRecDepth 100000 in
theorem jw_706 : Cond.fieldLink RX7 13 "BoilerPapersModel" "begun" "[I" ∈ jtw := jin 763 (by decide +kernel) rfl
set_option maxRecDepth 100000 in
theorem jw_707 : Cond.fieldLink RX7 16 "BoilerPapersModel" "past" "[I" ∈ jtw := jin 764 (by decide +kernel) rfl
set_option maxRecDepth 100000 in
theorem jw_708 : Cond.fieldLink RX7 26 "BoilerPapersModel" "states" "I" ∈ jtw := jin 765 (by decide +kernel) rfl
set_option maxRecDepth 100000 in
theorem jw_709 : Cond.fieldLink RX7 19 "BoilerPapersModel" "text" "[I" ∈ jtw := jin 766 (by decide +kernel) rfl
set_option maxRecDepth 100000 in
theorem jw_710 : Cond.fieldLink RX7 135 "BoilerPapersModel" "length" "I" ∈ jtw := jin 767 (by decide +kernel) rfl
set_option maxRecDepth 100000 in
theorem jw_711 : Cond.fieldLink RX7 138 "BoilerPapersModel" "at" "I" ∈ jtw := jin 768 (by decide +kernel) rfl
set_option maxRecDepth 100000 in
theorem jw_712 : Cond.fieldLink RX7 161 "BoilerPapersModel" "from" "I" ∈ jtw := jin 769 (by decide +kernel) rfl
set_option maxRecDepth 100000 in
theorem jw_713 : Cond.fieldLink RX7 158 "BoilerPapersModel" "done" "I" ∈ jtw := jin 770 (by decide +kernel) rfl
set_option maxRecDepth 100000 in
theorem jw_714 : Cond.fieldLink RX7 176 "BoilerPapersModel" "told" "I" ∈ jtw := jin 771 (by decide +kernel) rfl
set_option maxRecDepth 100000 in
theorem jw_715 : Cond.fieldLink RX7 144 "BoilerPapersModel" "isForm" "Z" ∈ jtw := jin 772 (by decide +kernel) rfl
set_option maxRecDepth 100000 in
theorem jw_716 : Cond.fieldLink RX7 152 "BoilerPapersModel" "one" "I" ∈ jtw := jin 773 (by decide +kernel) rfl
set_option maxRecDepth 100000 in
theorem jw_717 : Cond.fieldLink RX7 155 "BoilerPapersModel" "other" "I" ∈ jtw := jin 774 (by decide +kernel) rfl
set_option maxRecDepth 100000 in
theorem jw_718 : Cond.laysFinal RX7 "BoilerPapersModel" "s" "[I" ∈ jtw := jin 775 (by decide +kernel) rfl
set_option maxRecDepth 100000 in
theorem jw_720 : Cond.laysFinal RX7 "BoilerPapersModel" "begun" "[I" ∈ jtw := jin 777 (by decide +kernel) rfl
set_option maxRecDepth 100000 in
theorem jw_722 : Cond.laysFinal RX7 "BoilerPapersModel" "past" "[I" ∈ jtw := jin 779 (by decide +kernel) rfl
set_option maxRecDepth 100000 in
theorem jw_724 : Cond.lays RX7 "BoilerPapersModel" "states" "I" ∈ jtw := jin 781 (by decide +kernel) rfl
set_option maxRecDepth 100000 in
theorem jw_726 : Cond.laysFinal RX7 "BoilerPapersModel" "text" "[I" ∈ jtw := jin 783 (by decide +kernel) rfl
set_option maxRecDepth 100000 in
theorem jw_728 : Cond.lays RX7 "BoilerPapersModel" "length" "I" ∈ jtw := jin 785 (by decide +kernel) rfl
set_option maxRecDepth 100000 in
theorem jw_730 : Cond.lays RX7 "BoilerPapersModel" "at" "I" ∈ jtw := jin 787 (by decide +kernel) rfl
set_option maxRecDepth 100000 in
theorem jw_732 : Cond.lays RX7 "BoilerPapersModel" "from" "I" ∈ jtw := jin 789 (by decide +kernel) rfl
set_option maxRecDepth 100000 in
theorem jw_734 : Cond.lays RX7 "BoilerPapersModel" "done" "I" ∈ jtw := jin 791 (by decide +kernel) rfl
set_option maxRecDepth 100000 in
theorem jw_736 : Cond.lays RX7 "BoilerPapersModel" "told" "I" ∈ jtw := jin 793 (by decide +kernel) rfl
set_option maxRecDepth 100000 in
theorem jw_738 : Cond.lays RX7 "BoilerPapersModel" "isForm" "Z" ∈ jtw := jin 795 (by decide +kernel) rfl
set_option maxRecDepth 100000 in
theorem jw_740 : Cond.lays RX7 "BoilerPapersModel" "one" "I" ∈ jtw := jin 797 (by decide +kernel) rfl
set_option maxRecDepth 100000 in
theorem jw_742 : Cond.lays RX7 "BoilerPapersModel" "other" "I" ∈ jtw := jin 799 (by decide +kernel) rfl
set_option maxRecDepth 100000 in
theorem jw_745 : Cond.methodLink RL 17 yX7_boiler ∈ jtw := jin 802 (by decide +kernel) rfl
set_option maxRecDepth 100000 in
theorem jw_746 : Cond.instanceMethod yX7_boiler ∈ jtw := jin 803 (by decide +kernel) rfl
set_option maxRecDepth 100000 in
theorem jw_747 : Cond.selects RX7 yX7_boiler yX7_boiler ∈ jtw := jin 804 (by decide +kernel) rfl
set_option maxRecDepth 100000 in
theorem jw_748 : Cond.code yX7_boiler cX7_boiler 2 (some .int) ∈ jtw := jin 805 rfl rfl
set_option maxRecDepth 100000 in
theorem jw_749 : Cond.methodLink RX7 97 yX7_begins ∈ jtw := jin 806 (by decide +kernel) rfl
set_option maxRecDepth 100000 in
theorem jw_751 : Cond.instanceMethod yX7_begins ∈ jtw := jin 808 (by decide +kernel) rfl
set_option maxRecDepth 100000 in
theorem jw_752 : Cond.code yX7_begins cX7_begins 2 none ∈ jtw := jin 809 rfl rfl
set_option maxRecDepth 100000 in
theorem jw_753 : Cond.methodLink RX7 100 yX7_comes ∈ jtw := jin 810 (by decide +kernel) rfl
set_option maxRecDepth 100000 in
theorem jw_755 : Cond.instanceMethod yX7_comes ∈ jtw := jin 812 (by decide +kernel) rfl
set_option maxRecDepth 100000 in
theorem jw_756 : Cond.code yX7_comes cX7_comes 4 (some .int) ∈ jtw := jin 813 rfl rfl
set_option maxRecDepth 100000 in
theorem jw_757 : Cond.methodLink RX7 30 yX7_in ∈ jtw := jin 814 (by decide +kernel) rfl
set_option maxRecDepth 100000 in
theorem jw_758 : Cond.static yX7_in ∈ jtw := jin 815 (by decide +kernel) rfl
set_option maxRecDepth 100000 in
theorem jw_759 : Cond.code yX7_in cX7_in 3 (some .boolean) ∈ jtw := jin 816 rfl rfl
set_option maxRecDepth 100000 in
theorem jw_760 : Cond.constant RX7 22 (-2000000001) ∈ jtw := jin 817 (by decide +kernel) rfl
set_option maxRecDepth 100000 in
theorem jw_761 : Cond.constant RX7 66 (-2000000003) ∈ jtw := jin 818 (by decide +kernel) rfl
set_option maxRecDepth 100000 in
theorem jw_762 : Cond.methodLink RX7 52 yX7_lays ∈ jtw := jin 819 (by decide +kernel) rfl
set_option maxRecDepth 100000 in
theorem jw_764 : Cond.instanceMethod yX7_lays ∈ jtw := jin 821 (by decide +kernel) rfl
set_option maxRecDepth 100000 in
theorem jw_765 : Cond.code yX7_lays cX7_lays 4 none ∈ jtw := jin 822 rfl rfl
set_option maxRecDepth 100000 in
theorem jw_766 : Cond.methodLink RX7 103 yX7_acted ∈ jtw := jin 823 (by decide +kernel) rfl
set_option maxRecDepth 100000 in
theorem jw_768 : Cond.instanceMethod yX7_acted ∈ jtw := jin 825 (by decide +kernel) rfl
set_option maxRecDepth 100000 in
theorem jw_769 : Cond.code yX7_acted cX7_acted 3 (some .int) ∈ jtw := jin 826 rfl rfl
set_option maxRecDepth 100000 in
theorem jw_770 : Cond.methodLink RX7 23 yX7_returns ∈ jtw := jin 827 (by decide +kernel) rfl
set_option maxRecDepth 100000 in
theorem jw_772 : Cond.instanceMethod yX7_returns ∈ jtw := jin 829 (by decide +kernel) rfl
set_option maxRecDepth 100000 in
theorem jw_773 : Cond.code yX7_returns cX7_returns 2 none ∈ jtw := jin 830 rfl rfl
set_option maxRecDepth 100000 in
theorem jw_774 : Cond.methodLink RL 22 yX7_inspector ∈ jtw := jin 831 (by decide +kernel) rfl
set_option maxRecDepth 100000 in
theorem jw_775 : Cond.instanceMethod yX7_inspector ∈ jtw := jin 832 (by decide +kernel) rfl
set_option maxRecDepth 100000 in
theorem jw_776 : Cond.selects RX7 yX7_inspector yX7_inspector ∈ jtw := jin 833 (by decide +kernel) rfl
set_option maxRecDepth 100000 in
theorem jw_777 : Cond.code yX7_inspector cX7_inspector 4 (some .int) ∈ jtw := jin 834 rfl rfl
set_option maxRecDepth 100000 in
theorem jw_778 : Cond.methodLink RL 26 yX7_press ∈ jtw := jin 835 (by decide +kernel) rfl
set_option maxRecDepth 100000 in
theorem jw_779 : Cond.instanceMethod yX7_press ∈ jtw := jin 836 (by decide +kernel) rfl
set_option maxRecDepth 100000 in
theorem jw_780 : Cond.selects RX7 yX7_press yX7_press ∈ jtw := jin 837 (by decide +kernel) rfl
set_option maxRecDepth 100000 in
theorem jw_781 : Cond.code yX7_press cX7_press 4 (some .int) ∈ jtw := jin 838 rfl rfl
set_option maxRecDepth 100000 in
theorem jw_782 : Cond.methodLink RX7 67 yX7_isBoiler ∈ jtw := jin 839 (by decide +kernel) rfl
set_option maxRecDepth 100000 in
theorem jw_784 : Cond.instanceMethod yX7_isBoiler ∈ jtw := jin 841 (by decide +kernel) rfl
set_option maxRecDepth 100000 in
theorem jw_785 : Cond.code yX7_isBoiler cX7_isBoiler 2 (some .boolean) ∈ jtw := jin 842 rfl rfl
set_option maxRecDepth 100000 in
theorem jw_786 : Cond.methodLink RX7 34 yX7_of ∈ jtw := jin 843 (by decide +kernel) rfl
set_option maxRecDepth 100000 in
theorem jw_788 : Cond.instanceMethod yX7_of ∈ jtw := jin 845 (by decide +kernel) rfl
set_option maxRecDepth 100000 in
theorem jw_789 : Cond.code yX7_of cX7_of 3 (some .int) ∈ jtw := jin 846 rfl rfl
set_option maxRecDepth 100000 in
theorem jw_790 : Cond.constant RX7 76 (-2000000002) ∈ jtw := jin 847 (by decide +kernel) rfl
set_option maxRecDepth 100000 in
theorem jw_791 : Cond.methodLink RL 30 yX7_inspect ∈ jtw := jin 848 (by decide +kernel) rfl
set_option maxRecDepth 100000 in
theorem jw_792 : Cond.instanceMethod yX7_inspect ∈ jtw := jin 849 (by decide +kernel) rfl
set_option maxRecDepth 100000 in
theorem jw_793 : Cond.selects RX7 yX7_inspect yX7_inspect ∈ jtw := jin 850 (by decide +kernel) rfl
set_option maxRecDepth 100000 in
theorem jw_794 : Cond.code yX7_inspect cX7_inspect 3 (some .int) ∈ jtw := jin 851 rfl rfl
set_option maxRecDepth 100000 in
theorem jw_795 : Cond.methodLink RX7 106 yX7_inspects ∈ jtw := jin 852 (by decide +kernel) rfl
set_option maxRecDepth 100000 in
theorem jw_797 : Cond.instanceMethod yX7_inspects ∈ jtw := jin 854 (by decide +kernel) rfl
set_option maxRecDepth 100000 in
theorem jw_798 : Cond.code yX7_inspects cX7_inspects 5 (some .int) ∈ jtw := jin 855 rfl rfl
set_option maxRecDepth 100000 in
theorem jw_799 : Cond.methodLink RX7 70 yX7_isInspector ∈ jtw := jin 856 (by decide +kernel) rfl
set_option maxRecDepth 100000 in
theorem jw_801 : Cond.instanceMethod yX7_isInspector ∈ jtw := jin 858 (by decide +kernel) rfl
set_option maxRecDepth 100000 in
theorem jw_802 : Cond.code yX7_isInspector cX7_isInspector 2 (some .boolean) ∈ jtw := jin 859 rfl rfl
set_option maxRecDepth 100000 in
theorem jw_803 : Cond.methodLink RX7 73 yX7_whyNotInspected ∈ jtw := jin 860 (by decide +kernel) rfl
set_option maxRecDepth 100000 in
theorem jw_805 : Cond.instanceMethod yX7_whyNotInspected ∈ jtw := jin 862 (by decide +kernel) rfl
set_option maxRecDepth 100000 in
theorem jw_806 : Cond.code yX7_whyNotInspected cX7_whyNotInspected 3 (some .int) ∈ jtw := jin 863 rfl rfl
set_option maxRecDepth 100000 in
theorem jw_807 : Cond.methodLink RX7 49 yX7_by ∈ jtw := jin 864 (by decide +kernel) rfl
set_option maxRecDepth 100000 in
theorem jw_809 : Cond.instanceMethod yX7_by ∈ jtw := jin 866 (by decide +kernel) rfl
set_option maxRecDepth 100000 in
theorem jw_810 : Cond.code yX7_by cX7_by 3 (some .int) ∈ jtw := jin 867 rfl rfl
set_option maxRecDepth 100000 in
theorem jw_811 : Cond.methodLink RX7 77 yX7_pressureBy ∈ jtw := jin 868 (by decide +kernel) rfl
set_option maxRecDepth 100000 in
theorem jw_813 : Cond.instanceMethod yX7_pressureBy ∈ jtw := jin 870 (by decide +kernel) rfl
set_option maxRecDepth 100000 in
theorem jw_814 : Cond.code yX7_pressureBy cX7_pressureBy 4 (some .int) ∈ jtw := jin 871 rfl rfl
set_option maxRecDepth 100000 in
theorem jw_815 : Cond.methodLink RX7 38 yX7_strength ∈ jtw := jin 872 (by decide +kernel) rfl
set_option maxRecDepth 100000 in
theorem jw_817 : Cond.instanceMethod yX7_strength ∈ jtw := jin 874 (by decide +kernel) rfl
set_option maxRecDepth 100000 in
theorem jw_818 : Cond.code yX7_strength cX7_strength 2 (some .int) ∈ jtw := jin 875 rfl rfl
set_option maxRecDepth 100000 in
theorem jw_819 : Cond.methodLink RX7 80 yX7_pays ∈ jtw := jin 876 (by decide +kernel) rfl
set_option maxRecDepth 100000 in
theorem jw_821 : Cond.instanceMethod yX7_pays ∈ jtw := jin 878 (by decide +kernel) rfl
set_option maxRecDepth 100000 in
theorem jw_822 : Cond.code yX7_pays cX7_pays 3 none ∈ jtw := jin 879 rfl rfl
set_option maxRecDepth 100000 in
theorem jw_823 : Cond.methodLink RX7 84 yX7_counts ∈ jtw := jin 880 (by decide +kernel) rfl
set_option maxRecDepth 100000 in
theorem jw_825 : Cond.instanceMethod yX7_counts ∈ jtw := jin 882 (by decide +kernel) rfl
set_option maxRecDepth 100000 in
theorem jw_826 : Cond.code yX7_counts cX7_counts 3 none ∈ jtw := jin 883 rfl rfl
set_option maxRecDepth 100000 in
theorem jw_827 : Cond.methodLink RX7 87 yX7_lastBy ∈ jtw := jin 884 (by decide +kernel) rfl
set_option maxRecDepth 100000 in
theorem jw_829 : Cond.instanceMethod yX7_lastBy ∈ jtw := jin 886 (by decide +kernel) rfl
set_option maxRecDepth 100000 in
theorem jw_830 : Cond.code yX7_lastBy cX7_lastBy 3 (some .int) ∈ jtw := jin 887 rfl rfl
set_option maxRecDepth 100000 in
theorem jw_831 : Cond.methodLink RL 34 yX7_fire ∈ jtw := jin 888 (by decide +kernel) rfl
set_option maxRecDepth 100000 in
theorem jw_832 : Cond.instanceMethod yX7_fire ∈ jtw := jin 889 (by decide +kernel) rfl
set_option maxRecDepth 100000 in
theorem jw_833 : Cond.selects RX7 yX7_fire yX7_fire ∈ jtw := jin 890 (by decide +kernel) rfl
set_option maxRecDepth 100000 in
theorem jw_834 : Cond.code yX7_fire cX7_fire 2 (some .int) ∈ jtw := jin 891 rfl rfl
set_option maxRecDepth 100000 in
theorem jw_835 : Cond.methodLink RX7 109 yX7_fires ∈ jtw := jin 892 (by decide +kernel) rfl
set_option maxRecDepth 100000 in
theorem jw_837 : Cond.instanceMethod yX7_fires ∈ jtw := jin 894 (by decide +kernel) rfl
set_option maxRecDepth 100000 in
theorem jw_838 : Cond.code yX7_fires cX7_fires 2 (some .int) ∈ jtw := jin 895 rfl rfl
set_option maxRecDepth 100000 in
theorem jw_839 : Cond.methodLink RX7 90 yX7_whyNotFired ∈ jtw := jin 896 (by decide +kernel) rfl
set_option maxRecDepth 100000 in
theorem jw_841 : Cond.instanceMethod yX7_whyNotFired ∈ jtw := jin 898 (by decide +kernel) rfl
set_option maxRecDepth 100000 in
theorem jw_842 : Cond.code yX7_whyNotFired cX7_whyNotFired 2 (some .int) ∈ jtw := jin 899 rfl rfl
set_option maxRecDepth 100000 in
theorem jw_843 : Cond.methodLink RX7 42 yX7_isShut ∈ jtw := jin 900 (by decide +kernel) rfl
set_option maxRecDepth 100000 in
theorem jw_845 : Cond.instanceMethod yX7_isShut ∈ jtw := jin 902 (by decide +kernel) rfl
set_option maxRecDepth 100000 in
theorem jw_846 : Cond.code yX7_isShut cX7_isShut 2 (some .boolean) ∈ jtw := jin 903 rfl rfl
set_option maxRecDepth 100000 in
theorem jw_847 : Cond.methodLink RX7 46 yX7_hasPaper ∈ jtw := jin 904 (by decide +kernel) rfl
set_option maxRecDepth 100000 in
theorem jw_849 : Cond.instanceMethod yX7_hasPaper ∈ jtw := jin 906 (by decide +kernel) rfl
set_option maxRecDepth 100000 in
theorem jw_850 : Cond.code yX7_hasPaper cX7_hasPaper 2 (some .boolean) ∈ jtw := jin 907 rfl rfl
set_option maxRecDepth 100000 in
theorem jw_851 : Cond.methodLink RL 38 yX7_out ∈ jtw := jin 908 (by decide +kernel) rfl
set_option maxRecDepth 100000 in
theorem jw_852 : Cond.instanceMethod yX7_out ∈ jtw := jin 909 (by decide +kernel) rfl
set_option maxRecDepth 100000 in
theorem jw_853 : Cond.selects RX7 yX7_out yX7_out ∈ jtw := jin 910 (by decide +kernel) rfl
set_option maxRecDepth 100000 in
theorem jw_854 : Cond.code yX7_out cX7_out 2 (some .int) ∈ jtw := jin 911 rfl rfl
set_option maxRecDepth 100000 in
theorem jw_855 : Cond.methodLink RX7 112 yX7_puts ∈ jtw := jin 912 (by decide +kernel) rfl
set_option maxRecDepth 100000 in
theorem jw_857 : Cond.instanceMethod yX7_puts ∈ jtw := jin 914 (by decide +kernel) rfl
set_option maxRecDepth 100000 in
theorem jw_858 : Cond.code yX7_puts cX7_puts 2 (some .int) ∈ jtw := jin 915 rfl rfl
set_option maxRecDepth 100000 in
theorem jw_859 : Cond.methodLink RX7 56 yX7_cools ∈ jtw := jin 916 (by decide +kernel) rfl
set_option maxRecDepth 100000 in
theorem jw_861 : Cond.instanceMethod yX7_cools ∈ jtw := jin 918 (by decide +kernel) rfl
set_option maxRecDepth 100000 in
theorem jw_862 : Cond.code yX7_cools cX7_cools 2 none ∈ jtw := jin 919 rfl rfl
set_option maxRecDepth 100000 in
theorem jw_863 : Cond.methodLink RL 43 yX7_plan ∈ jtw := jin 920 (by decide +kernel) rfl
set_option maxRecDepth 100000 in
theorem jw_864 : Cond.instanceMethod yX7_plan ∈ jtw := jin 921 (by decide +kernel) rfl
set_option maxRecDepth 100000 in
theorem jw_865 : Cond.selects RX7 yX7_plan yX7_plan ∈ jtw := jin 922 (by decide +kernel) rfl
set_option maxRecDepth 100000 in
theorem jw_866 : Cond.code yX7_plan cX7_plan 4 (some .int) ∈ jtw := jin 923 rfl rfl
set_option maxRecDepth 100000 in
theorem jw_867 : Cond.methodLink RL 47 yX7_repair ∈ jtw := jin 924 (by decide +kernel) rfl
set_option maxRecDepth 100000 in
theorem jw_868 : Cond.instanceMethod yX7_repair ∈ jtw := jin 925 (by decide +kernel) rfl
set_option maxRecDepth 100000 in
theorem jw_869 : Cond.selects RX7 yX7_repair yX7_repair ∈ jtw := jin 926 (by decide +kernel) rfl
set_option maxRecDepth 100000 in
theorem jw_870 : Cond.code yX7_repair cX7_repair 2 (some .int) ∈ jtw := jin 927 rfl rfl
set_option maxRecDepth 100000 in
theorem jw_871 : Cond.methodLink RX7 115 yX7_sends ∈ jtw := jin 928 (by decide +kernel) rfl
set_option maxRecDepth 100000 in
theorem jw_873 : Cond.instanceMethod yX7_sends ∈ jtw := jin 930 (by decide +kernel) rfl
set_option maxRecDepth 100000 in
theorem jw_874 : Cond.code yX7_sends cX7_sends 3 (some .int) ∈ jtw := jin 931 rfl rfl
set_option maxRecDepth 100000 in
theorem jw_875 : Cond.methodLink RL 51 yX7_pass ∈ jtw := jin 932 (by decide +kernel) rfl
set_option maxRecDepth 100000 in
theorem jw_876 : Cond.instanceMethod yX7_pass ∈ jtw := jin 933 (by decide +kernel) rfl
set_option maxRecDepth 100000 in
theorem jw_877 : Cond.selects RX7 yX7_pass yX7_pass ∈ jtw := jin 934 (by decide +kernel) rfl
set_option maxRecDepth 100000 in
theorem jw_878 : Cond.code yX7_pass cX7_pass 2 (some .int) ∈ jtw := jin 935 rfl rfl
set_option maxRecDepth 100000 in
theorem jw_879 : Cond.methodLink RX7 118 yX7_passes ∈ jtw := jin 936 (by decide +kernel) rfl
set_option maxRecDepth 100000 in
theorem jw_881 : Cond.instanceMethod yX7_passes ∈ jtw := jin 938 (by decide +kernel) rfl
set_option maxRecDepth 100000 in
theorem jw_882 : Cond.code yX7_passes cX7_passes 4 (some .int) ∈ jtw := jin 939 rfl rfl
set_option maxRecDepth 100000 in
theorem jw_883 : Cond.methodLink RX7 93 yX7_week ∈ jtw := jin 940 (by decide +kernel) rfl
set_option maxRecDepth 100000 in
theorem jw_885 : Cond.instanceMethod yX7_week ∈ jtw := jin 942 (by decide +kernel) rfl
set_option maxRecDepth 100000 in
theorem jw_886 : Cond.code yX7_week cX7_week 3 (some .int) ∈ jtw := jin 943 rfl rfl
set_option maxRecDepth 100000 in
theorem jw_887 : Cond.methodLink RX7 60 yX7_grows ∈ jtw := jin 944 (by decide +kernel) rfl
set_option maxRecDepth 100000 in
theorem jw_889 : Cond.instanceMethod yX7_grows ∈ jtw := jin 946 (by decide +kernel) rfl
set_option maxRecDepth 100000 in
theorem jw_890 : Cond.code yX7_grows cX7_grows 3 none ∈ jtw := jin 947 rfl rfl
set_option maxRecDepth 100000 in
theorem jw_891 : Cond.methodLink RX7 63 yX7_repairs ∈ jtw := jin 948 (by decide +kernel) rfl
set_option maxRecDepth 100000 in
theorem jw_893 : Cond.instanceMethod yX7_repairs ∈ jtw := jin 950 (by decide +kernel) rfl
set_option maxRecDepth 100000 in
theorem jw_894 : Cond.code yX7_repairs cX7_repairs 2 none ∈ jtw := jin 951 rfl rfl
set_option maxRecDepth 100000 in
theorem jw_895 : Cond.methodLink RL 55 yX7_set ∈ jtw := jin 952 (by decide +kernel) rfl
set_option maxRecDepth 100000 in
theorem jw_896 : Cond.instanceMethod yX7_set ∈ jtw := jin 953 (by decide +kernel) rfl
set_option maxRecDepth 100000 in
theorem jw_897 : Cond.selects RX7 yX7_set yX7_set ∈ jtw := jin 954 (by decide +kernel) rfl
set_option maxRecDepth 100000 in
theorem jw_898 : Cond.code yX7_set cX7_set 4 (some .int) ∈ jtw := jin 955 rfl rfl
set_option maxRecDepth 100000 in
theorem jw_899 : Cond.methodLink RL 59 yX7_boilerOf ∈ jtw := jin 956 (by decide +kernel) rfl
set_option maxRecDepth 100000 in
theorem jw_900 : Cond.instanceMethod yX7_boilerOf ∈ jtw := jin 957 (by decide +kernel) rfl
set_option maxRecDepth 100000 in
theorem jw_901 : Cond.selects RX7 yX7_boilerOf yX7_boilerOf ∈ jtw := jin 958 (by decide +kernel) rfl
set_option maxRecDepth 100000 in
theorem jw_902 : Cond.code yX7_boilerOf cX7_boilerOf 3 (some .int) ∈ jtw := jin 959 rfl rfl
set_option maxRecDepth 100000 in
theorem jw_903 : Cond.constant RX7 121 (-2000000004) ∈ jtw := jin 960 (by decide +kernel) rfl
set_option maxRecDepth 100000 in
theorem jw_904 : Cond.methodLink RL 63 yX7_paperOf ∈ jtw := jin 961 (by decide +kernel) rfl
set_option maxRecDepth 100000 in
theorem jw_905 : Cond.instanceMethod yX7_paperOf ∈ jtw := jin 962 (by decide +kernel) rfl
set_option maxRecDepth 100000 in
theorem jw_906 : Cond.selects RX7 yX7_paperOf yX7_paperOf ∈ jtw := jin 963 (by decide +kernel) rfl
set_option maxRecDepth 100000 in
theorem jw_907 : Cond.code yX7_paperOf cX7_paperOf 3 (some .int) ∈ jtw := jin 964 rfl rfl
set_option maxRecDepth 100000 in
theorem jw_908 : Cond.methodLink RL 67 yX7_inspectorOf ∈ jtw := jin 965 (by decide +kernel) rfl
set_option maxRecDepth 100000 in
theorem jw_909 : Cond.instanceMethod yX7_inspectorOf ∈ jtw := jin 966 (by decide +kernel) rfl
set_option maxRecDepth 100000 in
theorem jw_910 : Cond.selects RX7 yX7_inspectorOf yX7_inspectorOf ∈ jtw := jin 967 (by decide +kernel) rfl
set_option maxRecDepth 100000 in
theorem jw_911 : Cond.code yX7_inspectorOf cX7_inspectorOf 3 (some .int) ∈ jtw := jin 968 rfl rfl
set_option maxRecDepth 100000 in
theorem jw_912 : Cond.methodLink RL 71 yX7_why ∈ jtw := jin 969 (by decide +kernel) rfl
set_option maxRecDepth 100000 in
theorem jw_913 : Cond.instanceMethod yX7_why ∈ jtw := jin 970 (by decide +kernel) rfl
set_option maxRecDepth 100000 in
theorem jw_914 : Cond.selects RX7 yX7_why yX7_why ∈ jtw := jin 971 (by decide +kernel) rfl
set_option maxRecDepth 100000 in
theorem jw_915 : Cond.code yX7_why cX7_why 3 (some .int) ∈ jtw := jin 972 rfl rfl
set_option maxRecDepth 100000 in
theorem jw_916 : Cond.methodLink RL 75 yX7_account ∈ jtw := jin 973 (by decide +kernel) rfl
set_option maxRecDepth 100000 in
theorem jw_917 : Cond.instanceMethod yX7_account ∈ jtw := jin 974 (by decide +kernel) rfl
set_option maxRecDepth 100000 in
theorem jw_918 : Cond.selects RX7 yX7_account yX7_account ∈ jtw := jin 975 (by decide +kernel) rfl
set_option maxRecDepth 100000 in
theorem jw_919 : Cond.code yX7_account cX7_account 2 (some .int) ∈ jtw := jin 976 rfl rfl
set_option maxRecDepth 100000 in
theorem jw_920 : Cond.methodLink RL 79 yX7_would ∈ jtw := jin 977 (by decide +kernel) rfl
set_option maxRecDepth 100000 in
theorem jw_921 : Cond.instanceMethod yX7_would ∈ jtw := jin 978 (by decide +kernel) rfl
set_option maxRecDepth 100000 in
theorem jw_922 : Cond.selects RX7 yX7_would yX7_would ∈ jtw := jin 979 (by decide +kernel) rfl
set_option maxRecDepth 100000 in
theorem jw_923 : Cond.code yX7_would cX7_would 5 (some .int) ∈ jtw := jin 980 rfl rfl
set_option maxRecDepth 100000 in
theorem jw_924 : Cond.methodLink RL 83 yX7_better ∈ jtw := jin 981 (by decide +kernel) rfl
set_option maxRecDepth 100000 in
theorem jw_925 : Cond.instanceMethod yX7_better ∈ jtw := jin 982 (by decide +kernel) rfl
set_option maxRecDepth 100000 in
theorem jw_926 : Cond.selects RX7 yX7_better yX7_better ∈ jtw := jin 983 (by decide +kernel) rfl
set_option maxRecDepth 100000 in
theorem jw_927 : Cond.code yX7_better cX7_better 6 (some .int) ∈ jtw := jin 984 rfl rfl
set_option maxRecDepth 100000 in
theorem jw_928 : Cond.methodLink RX7 122 yX7_wouldDo ∈ jtw := jin 985 (by decide +kernel) rfl
set_option maxRecDepth 100000 in
theorem jw_930 : Cond.instanceMethod yX7_wouldDo ∈ jtw := jin 987 (by decide +kernel) rfl
set_option maxRecDepth 100000 in
theorem jw_931 : Cond.code yX7_wouldDo cX7_wouldDo 3 (some .boolean) ∈ jtw := jin 988 rfl rfl
set_option maxRecDepth 100000 in
theorem jw_932 : Cond.methodLink RL 87 yX7_first ∈ jtw := jin 989 (by decide +kernel) rfl
set_option maxRecDepth 100000 in
theorem jw_933 : Cond.instanceMethod yX7_first ∈ jtw := jin 990 (by decide +kernel) rfl
set_option maxRecDepth 100000 in
theorem jw_934 : Cond.selects RX7 yX7_first yX7_first ∈ jtw := jin 991 (by decide +kernel) rfl
set_option maxRecDepth 100000 in
theorem jw_935 : Cond.code yX7_first cX7_first 5 (some .int) ∈ jtw := jin 992 rfl rfl
set_option maxRecDepth 100000 in
theorem jw_936 : Cond.methodLink RL 91 yX7_goesOn ∈ jtw := jin 993 (by decide +kernel) rfl
set_option maxRecDepth 100000 in
theorem jw_937 : Cond.instanceMethod yX7_goesOn ∈ jtw := jin 994 (by decide +kernel) rfl
set_option maxRecDepth 100000 in
theorem jw_938 : Cond.selects RX7 yX7_goesOn yX7_goesOn ∈ jtw := jin 995 (by decide +kernel) rfl
set_option maxRecDepth 100000 in
theorem jw_939 : Cond.code yX7_goesOn cX7_goesOn 4 (some .int) ∈ jtw := jin 996 rfl rfl
set_option maxRecDepth 100000 in
theorem jw_940 : Cond.methodLink RL 95 yX7_share ∈ jtw := jin 997 (by decide +kernel) rfl
set_option maxRecDepth 100000 in
theorem jw_941 : Cond.instanceMethod yX7_share ∈ jtw := jin 998 (by decide +kernel) rfl
set_option maxRecDepth 100000 in
theorem jw_942 : Cond.selects RX7 yX7_share yX7_share ∈ jtw := jin 999 (by decide +kernel) rfl
set_option maxRecDepth 100000 in
theorem jw_943 : Cond.code yX7_share cX7_share 4 (some .int) ∈ jtw := jin 1000 rfl rfl
set_option maxRecDepth 100000 in
theorem jw_944 : Cond.methodLink RX7 126 yJxf58ca_floatToIntBits_5c35a ∈ jtw := jin 1001 (by decide +kernel) rfl
set_option maxRecDepth 100000 in
theorem jw_945 : Cond.static yJxf58ca_floatToIntBits_5c35a ∈ jtw := jin 1002 (by decide +kernel) rfl
set_option maxRecDepth 100000 in
theorem jw_946 : Cond.code yJxf58ca_floatToIntBits_5c35a cJxf58ca_floatToIntBits_5c35a 1 (some .int) ∈ jtw := jin 1003 rfl rfl
set_option maxRecDepth 100000 in
theorem jw_947 : Cond.methodLink RJxf58ca 59 yJxf58ca_isNaN_12338 ∈ jtw := jin 1004 (by decide +kernel) rfl
set_option maxRecDepth 100000 in
theorem jw_948 : Cond.static yJxf58ca_isNaN_12338 ∈ jtw := jin 1005 (by decide +kernel) rfl
set_option maxRecDepth 100000 in
theorem jw_949 : Cond.code yJxf58ca_isNaN_12338 cJxf58ca_isNaN_12338 1 (some .boolean) ∈ jtw := jin 1006 rfl rfl
set_option maxRecDepth 100000 in
theorem jw_953 : Cond.constant RJxf58ca 77 (2143289344) ∈ jtw := jin 1010 (by decide +kernel) rfl
set_option maxRecDepth 100000 in
theorem jw_954 : Cond.methodLink RL 99 yX7_count ∈ jtw := jin 1011 (by decide +kernel) rfl
set_option maxRecDepth 100000 in
theorem jw_955 : Cond.instanceMethod yX7_count ∈ jtw := jin 1012 (by decide +kernel) rfl
set_option maxRecDepth 100000 in
theorem jw_956 : Cond.selects RX7 yX7_count yX7_count ∈ jtw := jin 1013 (by decide +kernel) rfl
set_option maxRecDepth 100000 in
theorem jw_957 : Cond.code yX7_count cX7_count 2 (some .int) ∈ jtw := jin 1014 rfl rfl
set_option maxRecDepth 100000 in
theorem jw_958 : Cond.methodLink RX7 132 yX7_set0 ∈ jtw := jin 1015 (by decide +kernel) rfl
set_option maxRecDepth 100000 in
theorem jw_960 : Cond.instanceMethod yX7_set0 ∈ jtw := jin 1017 (by decide +kernel) rfl
set_option maxRecDepth 100000 in
theorem jw_961 : Cond.code yX7_set0 cX7_set0 5 (some .int) ∈ jtw := jin 1018 rfl rfl
set_option maxRecDepth 100000 in
theorem jw_962 : Cond.methodLink RL 104 yX7_undo ∈ jtw := jin 1019 (by decide +kernel) rfl
set_option maxRecDepth 100000 in
theorem jw_963 : Cond.instanceMethod yX7_undo ∈ jtw := jin 1020 (by decide +kernel) rfl
set_option maxRecDepth 100000 in
theorem jw_964 : Cond.selects RX7 yX7_undo yX7_undo ∈ jtw := jin 1021 (by decide +kernel) rfl
set_option maxRecDepth 100000 in
theorem jw_965 : Cond.code yX7_undo cX7_undo 2 (some .int) ∈ jtw := jin 1022 rfl rfl
set_option maxRecDepth 100000 in
theorem jw_966 : Cond.methodLink RL 108 yX7_type ∈ jtw := jin 1023 (by decide +kernel) rfl
set_option maxRecDepth 100000 in
theorem jw_967 : Cond.instanceMethod yX7_type ∈ jtw := jin 1024 (by decide +kernel) rfl
set_option maxRecDepth 100000 in
theorem jw_968 : Cond.selects RX7 yX7_type yX7_type ∈ jtw := jin 1025 (by decide +kernel) rfl
set_option maxRecDepth 100000 in
theorem jw_969 : Cond.code yX7_type cX7_type 2 (some .int) ∈ jtw := jin 1026 rfl rfl
set_option maxRecDepth 100000 in
theorem jw_970 : Cond.methodLink RL 112 yX7_clearText ∈ jtw := jin 1027 (by decide +kernel) rfl
set_option maxRecDepth 100000 in
theorem jw_971 : Cond.instanceMethod yX7_clearText ∈ jtw := jin 1028 (by decide +kernel) rfl
set_option maxRecDepth 100000 in
theorem jw_972 : Cond.selects RX7 yX7_clearText yX7_clearText ∈ jtw := jin 1029 (by decide +kernel) rfl
set_option maxRecDepth 100000 in
theorem jw_973 : Cond.code yX7_clearText cX7_clearText 2 (some .int) ∈ jtw := jin 1030 rfl rfl
set_option maxRecDepth 100000 in
theorem jw_974 : Cond.methodLink RL 116 yX7_fault ∈ jtw := jin 1031 (by decide +kernel) rfl
set_option maxRecDepth 100000 in
theorem jw_975 : Cond.instanceMethod yX7_fault ∈ jtw := jin 1032 (by decide +kernel) rfl
set_option maxRecDepth 100000 in
theorem jw_976 : Cond.selects RX7 yX7_fault yX7_fault ∈ jtw := jin 1033 (by decide +kernel) rfl
set_option maxRecDepth 100000 in
theorem jw_977 : Cond.code yX7_fault cX7_fault 3 (some .int) ∈ jtw := jin 1034 rfl rfl
set_option maxRecDepth 100000 in
theorem jw_978 : Cond.methodLink RX7 179 yX7_doesAll ∈ jtw := jin 1035 (by decide +kernel) rfl
set_option maxRecDepth 100000 in
theorem jw_980 : Cond.instanceMethod yX7_doesAll ∈ jtw := jin 1037 (by decide +kernel) rfl
set_option maxRecDepth 100000 in
theorem jw_981 : Cond.code yX7_doesAll cX7_doesAll 2 (some .boolean) ∈ jtw := jin 1038 rfl rfl
set_option maxRecDepth 100000 in
theorem jw_982 : Cond.methodLink RX7 141 yX7_here ∈ jtw := jin 1039 (by decide +kernel) rfl
set_option maxRecDepth 100000 in
theorem jw_984 : Cond.instanceMethod yX7_here ∈ jtw := jin 1041 (by decide +kernel) rfl
set_option maxRecDepth 100000 in
theorem jw_985 : Cond.code yX7_here cX7_here 1 (some .int) ∈ jtw := jin 1042 rfl rfl
set_option maxRecDepth 100000 in
theorem jw_986 : Cond.methodLink RX7 164 yX7_isOrder ∈ jtw := jin 1043 (by decide +kernel) rfl
set_option maxRecDepth 100000 in
theorem jw_987 : Cond.static yX7_isOrder ∈ jtw := jin 1044 (by decide +kernel) rfl
set_option maxRecDepth 100000 in
theorem jw_988 : Cond.code yX7_isOrder cX7_isOrder 1 (some .boolean) ∈ jtw := jin 1045 rfl rfl
set_option maxRecDepth 100000 in
theorem jw_989 : Cond.methodLink RX7 167 yX7_number ∈ jtw := jin 1046 (by decide +kernel) rfl
set_option maxRecDepth 100000 in
theorem jw_991 : Cond.instanceMethod yX7_number ∈ jtw := jin 1048 (by decide +kernel) rfl
set_option maxRecDepth 100000 in
theorem jw_992 : Cond.code yX7_number cX7_number 3 (some .int) ∈ jtw := jin 1049 rfl rfl
set_option maxRecDepth 100000 in
theorem jw_993 : Cond.methodLink RX7 148 yX7_isDigit ∈ jtw := jin 1050 (by decide +kernel) rfl
set_option maxRecDepth 100000 in
theorem jw_995 : Cond.instanceMethod yX7_isDigit ∈ jtw := jin 1052 (by decide +kernel) rfl
set_option maxRecDepth 100000 in
theorem jw_996 : Cond.code yX7_isDigit cX7_isDigit 1 (some .boolean) ∈ jtw := jin 1053 rfl rfl
set_option maxRecDepth 100000 in
theorem jw_997 : Cond.methodLink RX7 170 yX7_takesSign ∈ jtw := jin 1054 (by decide +kernel) rfl
set_option maxRecDepth 100000 in
theorem jw_999 : Cond.instanceMethod yX7_takesSign ∈ jtw := jin 1056 (by decide +kernel) rfl
set_option maxRecDepth 100000 in
theorem jw_1000 : Cond.code yX7_takesSign cX7_takesSign 2 none ∈ jtw := jin 1057 rfl rfl
set_option maxRecDepth 100000 in
theorem jw_1001 : Cond.methodLink RX7 173 yX7_called ∈ jtw := jin 1058 (by decide +kernel) rfl
set_option maxRecDepth 100000 in
theorem jw_1003 : Cond.instanceMethod yX7_called ∈ jtw := jin 1060 (by decide +kernel) rfl
set_option maxRecDepth 100000 in
theorem jw_1004 : Cond.code yX7_called cX7_called 2 (some .int) ∈ jtw := jin 1061 rfl rfl
set_option maxRecDepth 100000 in
theorem jw_1005 : Cond.methodLink RL 120 yX7_play ∈ jtw := jin 1062 (by decide +kernel) rfl
set_option maxRecDepth 100000 in
theorem jw_1006 : Cond.instanceMethod yX7_play ∈ jtw := jin 1063 (by decide +kernel) rfl
set_option maxRecDepth 100000 in
theorem jw_1007 : Cond.selects RX7 yX7_play yX7_play ∈ jtw := jin 1064 (by decide +kernel) rfl
set_option maxRecDepth 100000 in
theorem jw_1008 : Cond.code yX7_play cX7_play 1 (some .int) ∈ jtw := jin 1065 rfl rfl
theorem jws_0 : Cond.selects RX6 yX6_trialOfNow yX6_trialOfNow ∈ jtw := jin 0 (by decide +kernel) rfl
theorem jws_1 : Cond.selects RX2 yX2_boilerAt yX2_boilerAt ∈ jtw := jin 1 (by decide +kernel) rfl
theorem jws_2 : Cond.selects RX2 yX2_inspectorAt yX2_inspectorAt ∈ jtw := jin 2 (by decide +kernel) rfl
theorem jws_3 : Cond.selects RX6 yX6_settle yX6_settle ∈ jtw := jin 3 (by decide +kernel) rfl
theorem jws_4 : Cond.selects RX1 yX1_stateAt yX1_stateAt ∈ jtw := jin 4 (by decide +kernel) rfl
theorem jws_5 : Cond.selects RX2 yX2_pressureOffered yX2_pressureOffered ∈ jtw := jin 5 (by decide +kernel) rfl
theorem jws_6 : Cond.selects RX2 yX2_settingAt yX2_settingAt ∈ jtw := jin 6 (by decide +kernel) rfl
theorem jws_7 : Cond.selects RX2 yX2_lastWeekOffered yX2_lastWeekOffered ∈ jtw := jin 7 (by decide +kernel) rfl
theorem jws_8 : Cond.selects RX2 yX2_ownerPays yX2_ownerPays ∈ jtw := jin 8 (by decide +kernel) rfl
theorem jws_9 : Cond.selects RX2 yX2_letOneWeekPass yX2_letOneWeekPass ∈ jtw := jin 9 (by decide +kernel) rfl
theorem jws_10 : Cond.selects RX2 yX2_isOneBetter yX2_isOneBetter ∈ jtw := jin 10 (by decide +kernel) rfl
theorem jws_11 : Cond.selects RX2 yX2_setOfBoilers yX2_setOfBoilers ∈ jtw := jin 11 (by decide +kernel) rfl
theorem jws_12 : Cond.selects RX2 yX2_isInSet yX2_isInSet ∈ jtw := jin 12 (by decide +kernel) rfl
theorem jws_13 : Cond.selects RX2 yX2_allAccounts yX2_allAccounts ∈ jtw := jin 13 (by decide +kernel) rfl
theorem jws_14 : Cond.selects RX2 yX2_allOfInspectors yX2_allOfInspectors ∈ jtw := jin 14 (by decide +kernel) rfl
theorem jws_15 : Cond.selects RX4 yX4_readKind yX4_readKind ∈ jtw := jin 15 (by decide +kernel) rfl
theorem jws_16 : Cond.selects RX4 yX4_signHere yX4_signHere ∈ jtw := jin 16 (by decide +kernel) rfl
theorem jws_17 : Cond.selects RX4 yX4_readNumber yX4_readNumber ∈ jtw := jin 17 (by decide +kernel) rfl
theorem jws_18 : Cond.selects RX4 yX4_readDigit yX4_readDigit ∈ jtw := jin 18 (by decide +kernel) rfl
theorem jws_19 : Cond.selects RX4 yX4_readSign yX4_readSign ∈ jtw := jin 19 (by decide +kernel) rfl
theorem jws_20 : Cond.selects RX5 yX5_takeAnswer yX5_takeAnswer ∈ jtw := jin 20 (by decide +kernel) rfl
theorem jws_21 : Cond.selects RX5 yX5_stopAt yX5_stopAt ∈ jtw := jin 21 (by decide +kernel) rfl
theorem jws_22 : Cond.selects RX7 yX7_begins yX7_begins ∈ jtw := jin 22 (by decide +kernel) rfl
theorem jws_23 : Cond.selects RX7 yX7_comes yX7_comes ∈ jtw := jin 23 (by decide +kernel) rfl
theorem jws_24 : Cond.selects RX7 yX7_lays yX7_lays ∈ jtw := jin 24 (by decide +kernel) rfl
theorem jws_25 : Cond.selects RX7 yX7_acted yX7_acted ∈ jtw := jin 25 (by decide +kernel) rfl
theorem jws_26 : Cond.selects RX7 yX7_returns yX7_returns ∈ jtw := jin 26 (by decide +kernel) rfl
theorem jws_27 : Cond.selects RX7 yX7_isBoiler yX7_isBoiler ∈ jtw := jin 27 (by decide +kernel) rfl
theorem jws_28 : Cond.selects RX7 yX7_of yX7_of ∈ jtw := jin 28 (by decide +kernel) rfl
theorem jws_29 : Cond.selects RX7 yX7_inspects yX7_inspects ∈ jtw := jin 29 (by decide +kernel) rfl
theorem jws_30 : Cond.selects RX7 yX7_isInspector yX7_isInspector ∈ jtw := jin 30 (by decide +kernel) rfl
theorem jws_31 : Cond.selects RX7 yX7_whyNotInspected yX7_whyNotInspected ∈ jtw := jin 31 (by decide +kernel) rfl
theorem jws_32 : Cond.selects RX7 yX7_by yX7_by ∈ jtw := jin 32 (by decide +kernel) rfl
theorem jws_33 : Cond.selects RX7 yX7_pressureBy yX7_pressureBy ∈ jtw := jin 33 (by decide +kernel) rfl
theorem jws_34 : Cond.selects RX7 yX7_strength yX7_strength ∈ jtw := jin 34 (by decide +kernel) rfl
theorem jws_35 : Cond.selects RX7 yX7_pays yX7_pays ∈ jtw := jin 35 (by decide +kernel) rfl
theorem jws_36 : Cond.selects RX7 yX7_counts yX7_counts ∈ jtw := jin 36 (by decide +kernel) rfl
theorem jws_37 : Cond.selects RX7 yX7_lastBy yX7_lastBy ∈ jtw := jin 37 (by decide +kernel) rfl
theorem jws_38 : Cond.selects RX7 yX7_fires yX7_fires ∈ jtw := jin 38 (by decide +kernel) rfl
theorem jws_39 : Cond.selects RX7 yX7_whyNotFired yX7_whyNotFired ∈ jtw := jin 39 (by decide +kernel) rfl
theorem jws_40 : Cond.selects RX7 yX7_isShut yX7_isShut ∈ jtw := jin 40 (by decide +kernel) rfl
theorem jws_41 : Cond.selects RX7 yX7_hasPaper yX7_hasPaper ∈ jtw := jin 41 (by decide +kernel) rfl
theorem jws_42 : Cond.selects RX7 yX7_puts yX7_puts ∈ jtw := jin 42 (by decide +kernel) rfl
theorem jws_43 : Cond.selects RX7 yX7_cools yX7_cools ∈ jtw := jin 43 (by decide +kernel) rfl
theorem jws_44 : Cond.selects RX7 yX7_sends yX7_sends ∈ jtw := jin 44 (by decide +kernel) rfl
theorem jws_45 : Cond.selects RX7 yX7_passes yX7_passes ∈ jtw := jin 45 (by decide +kernel) rfl
theorem jws_46 : Cond.selects RX7 yX7_week yX7_week ∈ jtw := jin 46 (by decide +kernel) rfl
theorem jws_47 : Cond.selects RX7 yX7_grows yX7_grows ∈ jtw := jin 47 (by decide +kernel) rfl
theorem jws_48 : Cond.selects RX7 yX7_repairs yX7_repairs ∈ jtw := jin 48 (by decide +kernel) rfl
theorem jws_49 : Cond.selects RX7 yX7_wouldDo yX7_wouldDo ∈ jtw := jin 49 (by decide +kernel) rfl
theorem jws_50 : Cond.selects RX7 yX7_set0 yX7_set0 ∈ jtw := jin 50 (by decide +kernel) rfl
theorem jws_51 : Cond.selects RX7 yX7_doesAll yX7_doesAll ∈ jtw := jin 51 (by decide +kernel) rfl
theorem jws_52 : Cond.selects RX7 yX7_here yX7_here ∈ jtw := jin 52 (by decide +kernel) rfl
theorem jws_53 : Cond.selects RX7 yX7_number yX7_number ∈ jtw := jin 53 (by decide +kernel) rfl
theorem jws_54 : Cond.selects RX7 yX7_isDigit yX7_isDigit ∈ jtw := jin 54 (by decide +kernel) rfl
theorem jws_55 : Cond.selects RX7 yX7_takesSign yX7_takesSign ∈ jtw := jin 55 (by decide +kernel) rfl
theorem jws_56 : Cond.selects RX7 yX7_called yX7_called ∈ jtw := jin 56 (by decide +kernel) rfl
theorem jinX0 : ∀ w ∈ u_ws RX0 TX0 14, w ∈ jtw := by
  intro w hw
  obtain ⟨k, hk, rfl⟩ := List.mem_map.mp hw
  have hk := List.mem_range.mp hk
  match k, hk with
  | 0, _ => exact jw_60
  | 1, _ => exact jw_62
  | 2, _ => exact jw_64
  | 3, _ => exact jw_66
  | 4, _ => exact jw_68
  | 5, _ => exact jw_70
  | 6, _ => exact jw_72
  | 7, _ => exact jw_74
  | 8, _ => exact jw_76
  | 9, _ => exact jw_78
  | 10, _ => exact jw_80
  | 11, _ => exact jw_82
  | 12, _ => exact jw_84
  | 13, _ => exact jw_86
  | k + 14, hk => omega
theorem jinX1 : ∀ w ∈ u_ws RX1 TX1 3, w ∈ jtw := by
  intro w hw
  obtain ⟨k, hk, rfl⟩ := List.mem_map.mp hw
  have hk := List.mem_range.mp hk
  match k, hk with
  | 0, _ => exact jw_152
  | 1, _ => exact jw_154
  | 2, _ => exact jw_156
  | k + 3, hk => omega
theorem jinX2 : ∀ w ∈ u_ws RX2 TX2 9, w ∈ jtw := by
  intro w hw
  obtain ⟨k, hk, rfl⟩ := List.mem_map.mp hw
  have hk := List.mem_range.mp hk
  match k, hk with
  | 0, _ => exact jw_121
  | 1, _ => exact jw_123
  | 2, _ => exact jw_125
  | 3, _ => exact jw_127
  | 4, _ => exact jw_129
  | 5, _ => exact jw_131
  | 6, _ => exact jw_133
  | 7, _ => exact jw_135
  | 8, _ => exact jw_137
  | k + 9, hk => omega
theorem jinX3 : ∀ w ∈ u_ws RX3 TX3 5, w ∈ jtw := by
  intro w hw
  obtain ⟨k, hk, rfl⟩ := List.mem_map.mp hw
  have hk := List.mem_range.mp hk
  match k, hk with
  | 0, _ => exact jw_101
  | 1, _ => exact jw_103
  | 2, _ => exact jw_105
  | 3, _ => exact jw_107
  | 4, _ => exact jw_109
  | k + 5, hk => omega
theorem jinX4 : ∀ w ∈ u_ws RX4 TX4 7, w ∈ jtw := by
  intro w hw
  obtain ⟨k, hk, rfl⟩ := List.mem_map.mp hw
  have hk := List.mem_range.mp hk
  match k, hk with
  | 0, _ => exact jw_176
  | 1, _ => exact jw_178
  | 2, _ => exact jw_180
  | 3, _ => exact jw_182
  | 4, _ => exact jw_184
  | 5, _ => exact jw_186
  | 6, _ => exact jw_188
  | k + 7, hk => omega
theorem jinX5 : ∀ w ∈ u_ws RX5 TX5 4, w ∈ jtw := by
  intro w hw
  obtain ⟨k, hk, rfl⟩ := List.mem_map.mp hw
  have hk := List.mem_range.mp hk
  match k, hk with
  | 0, _ => exact jw_202
  | 1, _ => exact jw_204
  | 2, _ => exact jw_206
  | 3, _ => exact jw_208
  | k + 4, hk => omega
theorem jinX6 : ∀ w ∈ u_ws RX6 TX6 5, w ∈ jtw := by
  intro w hw
  obtain ⟨k, hk, rfl⟩ := List.mem_map.mp hw
  have hk := List.mem_range.mp hk
  match k, hk with
  | 0, _ => exact jw_216
  | 1, _ => exact jw_218
  | 2, _ => exact jw_220
  | 3, _ => exact jw_222
  | 4, _ => exact jw_224
  | k + 5, hk => omega
theorem jinX7 : ∀ w ∈ u_ws RX7 TX7 13, w ∈ jtw := by
  intro w hw
  obtain ⟨k, hk, rfl⟩ := List.mem_map.mp hw
  have hk := List.mem_range.mp hk
  match k, hk with
  | 0, _ => exact jw_718
  | 1, _ => exact jw_720
  | 2, _ => exact jw_722
  | 3, _ => exact jw_724
  | 4, _ => exact jw_726
  | 5, _ => exact jw_728
  | 6, _ => exact jw_730
  | 7, _ => exact jw_732
  | 8, _ => exact jw_734
  | 9, _ => exact jw_736
  | 10, _ => exact jw_738
  | 11, _ => exact jw_740
  | 12, _ => exact jw_742
  | k + 13, hk => omega
end
section
-- ===== THE ABSTRACT MACHINE: cells by number, one rule an instruction =====
abbrev jW : Type := Nat × (Nat → Nat) × va_G × (Nat → ClassId)
abbrev jX : Type := Nat × (Nat → Nat × Nat) × (Nat → Nat → Option Nat)
abbrev jI : Type := Nat → Nat → Int32
abbrev jMt : Type := MethodName × ByteArray × Nat × Option FieldType
abbrev jG : Type := (Program × Launch × Env × Room × State × MethodId) × (Array Value × List Frame × Method × Code) × jW × (State → Prop)
def jv (w : jW) (v : Value) : Value := match v with
  | .ref k => .ref (w.1 + k)
  | .retAddr k => .ref (w.2.1 k)
  | .int x => .int x
  | .long x => .long x
  | .float x => .float x
  | .double x => .double x
  | .null => .null
def jq (w : jW) (r : Option Nat) : Option Nat := r.map (fun k => w.1 + k)
theorem jv_rf (w : jW) (r : Option Nat) : jv w (va_rf r) = va_rf (jq w r) := by cases r <;> rfl
def jC (c : Nat) : vw_C := match c with
  | 0 => (RX0, TX0, 14)
  | 1 => (RX1, TX1, 3)
  | 2 => (RX2, TX2, 9)
  | 3 => (RX3, TX3, 5)
  | 4 => (RX4, TX4, 7)
  | 5 => (RX5, TX5, 4)
  | 6 => (RX6, TX6, 5)
  | _ => (RX7, TX7, 13)
def jty (c : Nat) : Nat → FieldType := match c with
  | 0 => tyX0
  | 1 => tyX1
  | 2 => tyX2
  | 3 => tyX3
  | 4 => tyX4
  | 5 => tyX5
  | 6 => tyX6
  | _ => tyX7
def jisR (ty : FieldType) : Bool := match ty with
  | .object _ => true
  | .array _ => true
  | _ => false
def jrf (c j : Nat) : Bool := jisR (jty c j)
theorem jlt8 {P : Nat → Prop} (h0 : P 0) (h1 : P 1) (h2 : P 2) (h3 : P 3) (h4 : P 4) (h5 : P 5) (h6 : P 6) (h7 : P 7) {c : Nat} (h : c < 8) : P c := by
  match c, h with
  | 0, _ => exact h0
  | 1, _ => exact h1
  | 2, _ => exact h2
  | 3, _ => exact h3
  | 4, _ => exact h4
  | 5, _ => exact h5
  | 6, _ => exact h6
  | 7, _ => exact h7
theorem jC_at {c : Nat} (h : c < 8) : vwCl[c]? = some (jC c) := jlt8 (P := fun c => vwCl[c]? = some (jC c)) rfl rfl rfl rfl rfl rfl rfl rfl h
theorem jC_ty {c : Nat} (h : c < 8) : ∀ k, k < (jC c).2.2 → parseFieldDescriptor ((jC c).2.1 k).2.2.1 = some (jty c k) :=
  jlt8 (P := fun c => ∀ k, k < (jC c).2.2 → parseFieldDescriptor ((jC c).2.1 k).2.2.1 = some (jty c k)) tyX0_ok tyX1_ok tyX2_ok tyX3_ok tyX4_ok tyX5_ok tyX6_ok tyX7_ok h
theorem jC_nm {c : Nat} (h : c < 8) : ∀ a, a < (jC c).2.2 → ∀ b, b < (jC c).2.2 → a ≠ b → ((jC c).2.1 a).2.1 ≠ ((jC c).2.1 b).2.1 :=
  jlt8 (P := fun c => ∀ a, a < (jC c).2.2 → ∀ b, b < (jC c).2.2 → a ≠ b → ((jC c).2.1 a).2.1 ≠ ((jC c).2.1 b).2.1) nmX0 nmX1 nmX2 nmX3 nmX4 nmX5 nmX6 nmX7 h
def jobj (w : jW) (S : jX) (I : jI) (k : Nat) : List Value := (List.range (jC (S.2.1 k).1).2.2).map (fun j => if jrf (S.2.1 k).1 j = true then va_rf (jq w (S.2.2 k j)) else .int (I k j))
def jcell (w : jW) (S : jX) (I : jI) (k : Nat) : va_E :=
  if (S.2.1 k).1 < 8 then .inr ((S.2.1 k).1, jobj w S I k)
  else if (S.2.1 k).1 < 10 then .inl (w.2.2.2 (S.2.1 k).1, (S.2.1 k).2, .inl (I k))
  else .inl (w.2.2.2 (S.2.1 k).1, (S.2.1 k).2, .inr (.inr (.inr (.inr (fun j => jq w (S.2.2 k j))))))
def jws (w : jW) (S : jX) (I : jI) : va_W := (List.range S.1).map (fun k => (w.1 + k, jcell w S I k))
theorem jws_at (w : jW) (S : jX) (I : jI) {k : Nat} (h : k < S.1) : (jws w S I)[k]? = some (w.1 + k, jcell w S I k) := by
  simp [jws, h]
theorem jws_len (w : jW) (S : jX) (I : jI) : (jws w S I).length = S.1 := by simp [jws]
theorem jws_inv {w : jW} {S : jX} {I : jI} {k : Nat} {q : Nat × va_E} (h : (jws w S I)[k]? = some q) : k < S.1 ∧ q = (w.1 + k, jcell w S I k) := by
  have hk : k < S.1 := by have := (List.getElem?_eq_some_iff.mp h).1; rwa [jws_len] at this
  rw [jws_at w S I hk] at h
  exact ⟨hk, (Option.some.inj h).symm⟩
theorem jws_D (w : jW) (S : jX) (I : jI) : va_D (fun q => w.1 ≤ q) (jws w S I) := by
  refine ⟨fun i j p q hi hj hpq => ?_, fun k q hk => ?_⟩
  · obtain ⟨-, rfl⟩ := jws_inv hi
    obtain ⟨-, rfl⟩ := jws_inv hj
    have : w.1 + i = w.1 + j := hpq
    omega
  · obtain ⟨-, rfl⟩ := jws_inv hk
    show w.1 ≤ w.1 + k
    omega
theorem jws_set {w : jW} {S S' : jX} {I I' : jI} {o : Nat} {e : va_E} (hn : S'.1 = S.1) (he : e = jcell w S' I' o) (hk : ∀ k, k < S.1 → k ≠ o → jcell w S' I' k = jcell w S I k) : (jws w S I).set o (w.1 + o, e) = jws w S' I' := by
  apply List.ext_getElem?
  intro k
  by_cases hkn : k < S.1
  · rw [jws_at w S' I' (by omega)]
    by_cases ho : o = k
    · subst ho
      rw [List.getElem?_set_self (by rw [jws_len]; exact hkn), he]
    · rw [List.getElem?_set_ne ho, jws_at w S I hkn, hk k hkn (fun h => ho h.symm)]
  · rw [List.getElem?_eq_none (by rw [List.length_set, jws_len]; omega), List.getElem?_eq_none (by rw [jws_len]; omega)]
theorem jws_push {w : jW} {S S' : jX} {I I' : jI} {e : va_E} (hn : S'.1 = S.1 + 1) (he : e = jcell w S' I' S.1) (hk : ∀ k, k < S.1 → jcell w S' I' k = jcell w S I k) : jws w S I ++ [(w.1 + S.1, e)] = jws w S' I' := by
  apply List.ext_getElem?
  intro k
  by_cases hkn : k < S.1
  · rw [jws_at w S' I' (by omega), List.getElem?_append_left (by rw [jws_len]; exact hkn), jws_at w S I hkn, hk k hkn]
  · by_cases ho : k = S.1
    · subst ho
      rw [jws_at w S' I' (by omega), List.getElem?_append_right (by rw [jws_len]; omega), jws_len, Nat.sub_self, he]
      rfl
    · rw [List.getElem?_eq_none (by rw [List.length_append, jws_len]; simp; omega), List.getElem?_eq_none (by rw [jws_len]; omega)]
def jtys (ca : Nat → ClassId) : List (ClassId × FieldType) := [(ca 8, .int), (ca 9, .char), (ca 10, .object RX0), (ca 11, .object RX3), (ca 12, .object RX2)]
def jgs (j : Nat) : Int32 := match j with
  | 0 => 200
  | 1 => 200
  | _ => 99
/-- what is known of the tables and of what nobody writes -/
def jK (w : jW) (U : State) : Prop := va_K w.2.2.1 vwCl (jtys w.2.2.2) U ∧ (∀ x ∈ jnw, va_Nw x U) ∧ (va_AO RX0 U ∧ va_AO RX3 U ∧ va_AO RX2 U) ∧ va_Z RX6 "GREATEST_SETTINGS" "[I" (.ref (w.2.1 0)) (fun q => w.1 ≤ q) U U.heap ∧ va_T .int (w.2.1 0) 4 (fun j => .int (jgs j)) (fun q => w.1 ≤ q) U U.heap
theorem jK.next {w : jW} {s U : State} {H : Heap} {locs : List Loc} (h : jK w s) (hS : va_S (fun q => w.1 ≤ q) s.heap H locs) (hU : U.heap = H) (hW0 : s.WarmedH U.vm) : jK w U := by
  obtain ⟨h1, h0, ⟨a1, a2, a3⟩, h2, h3⟩ := h
  have hW := hW0.alike
  refine ⟨h1.moved hW, fun x hx => ?_, ⟨a1.moved hW, a2.moved hW, a3.moved hW⟩, ?_, ?_⟩
  · have hn := List.all_eq_true.mp jnw_ok x hx
    have hZ := h0 x hx
    cases x <;> first | exact hZ.warmF hW0 | exact hZ.warmM hW0 | cases hn
  · exact (h2.moved hW).kept (fun a ha hn => by rw [hU]; exact hS.2.1 a ha hn)
  · exact (h3.moved hW).kept (fun a ha hn => by rw [hU]; exact hS.2.1 a ha hn)
theorem jK.calling {w : jW} {U : State} {g : JFrame} {mk : MethodId} {a : Array Value} (h : jK w U) : jK w (U.calling g mk a) := by
  obtain ⟨h1, h0, ⟨a1, a2, a3⟩, h2, h3⟩ := h
  have hv : U.vm.Alike (U.calling g mk a).vm := Vm.Alike.refl U.vm
  exact ⟨h1.moved hv, fun x hx => va_Nw.same (u := U) (by have hn := List.all_eq_true.mp jnw_ok x hx; cases x <;> first | rfl | cases hn) (rfl : U.vm = (U.calling g mk a).vm) (h0 x hx), ⟨a1.moved hv, a2.moved hv, a3.moved hv⟩, h2.moved hv, h3.moved hv⟩
/-- a state that a method may begin in -/
def jP (w : jW) (S : jX) (I : jI) (U : State) : Prop := U.heap.size = w.1 + S.1 ∧ va_P w.2.2.1 vwCl (jws w S I) U.heap ∧ jK w U
def jQ (w : jW) (Φ : Option Value → jX → jI → Prop) : Array Value → State → Outcome → State → Prop := fun _ st o t =>
  ∃ (v : Option Value) (S' : jX) (I' : jI), o = .returned (v.map (jv w)) ∧ Φ v S' I' ∧ t.heap.size = w.1 + S'.1 ∧ va_P w.2.2.1 vwCl (jws w S' I') t.heap ∧ va_F (fun q => w.1 ≤ q) st t
/-- a method's contract, at depth d.1, with d.2 new cells and slots at most -/
def jM (d : Nat × Nat × Nat) (mt : jMt) (as : List Value) (S : jX) (I : jI) (Φ : Option Value → jX → jI → Prop) : Prop :=
  ∀ (l : Launch) (w : jW), Met l mt.1 (Cond.code mt.1 mt.2.1 mt.2.2.1 mt.2.2.2 :: jtw) ({ frames := d.1, cells := d.2.1, slots := d.2.2, locals := 34 * d.1 } : Room) (va_Pc (as.map (jv w)) (jP w S I)) (jQ w Φ) d.2.1 d.2.2 (fun q => w.1 ≤ q)
def jl (w : jW) : Nat → List Value → List (Nat × Value)
  | _, [] => []
  | i, v :: vs => if v.category = 2 then jl w (i + 1) vs else (i, jv w v) :: jl w (i + 1) vs
theorem jv_cat (w : jW) (v : Value) : (jv w v).category = v.category := by cases v <;> rfl
theorem jl_get (w : jW) : ∀ (ls : List Value) (b k : Nat) (v : Value), ls[k]? = some v → ¬ v.category = 2 → (b + k, jv w v) ∈ jl w b ls
  | [], b, k, v, h, _ => by simp at h
  | u :: vs, b, 0, v, h, hc => by
    simp at h
    subst h
    simp [jl, hc]
  | u :: vs, b, k + 1, v, h, hc => by
    have h' : vs[k]? = some v := by simpa using h
    have := jl_get w vs (b + 1) k v h' hc
    rw [show b + (k + 1) = b + 1 + k by omega]
    unfold jl
    split
    · exact this
    · exact List.mem_cons_of_mem _ this
theorem jl_inv (w : jW) : ∀ (ls : List Value) (b : Nat) (q : Nat × Value), q ∈ jl w b ls → ∃ (k : Nat) (v : Value), ls[k]? = some v ∧ ¬ v.category = 2 ∧ q = (b + k, jv w v)
  | [], b, q, h => by simp [jl] at h
  | u :: vs, b, q, h => by
    unfold jl at h
    split at h
    next hc =>
      obtain ⟨k, v, h1, h2, h3⟩ := jl_inv w vs (b + 1) q h
      exact ⟨k + 1, v, by simpa using h1, h2, by rw [h3, show b + (k + 1) = b + 1 + k by omega]⟩
    next hc =>
      rcases List.mem_cons.mp h with h | h
      · exact ⟨0, u, by simp, hc, by simpa using h⟩
      · obtain ⟨k, v, h1, h2, h3⟩ := jl_inv w vs (b + 1) q h
        exact ⟨k + 1, v, by simpa using h1, h2, by rw [h3, show b + (k + 1) = b + 1 + k by omega]⟩
theorem jl_set {w : jW} {ls : List Value} {la : Array Slot} {nL i : Nat} {v : Value} (h : lv_has la nL ((i, jv w v) :: (jl w 0 ls).filter (fun q => !(q.1 == i) && !(q.1 + 1 == i && q.2.category == 2)))) (hc : ¬ v.category = 2) : lv_has la nL (jl w 0 (ls.set i v)) := by
  refine ⟨h.1, h.2.1, fun q hq => h.2.2 q ?_⟩
  obtain ⟨k, u, h1, h2, rfl⟩ := jl_inv w _ 0 q hq
  by_cases hk : i = k
  · subst hk
    rw [List.getElem?_set] at h1
    simp at h1
    rw [← h1.2]
    simp
  · rw [List.getElem?_set_ne hk] at h1
    refine List.mem_cons_of_mem _ (List.mem_filter.mpr ⟨jl_get w ls 0 k u h1 h2, ?_⟩)
    have hc2 : ((jv w u).category == 2) = false := by rw [jv_cat]; simpa using h2
    have hki : (0 + k == i) = false := by simp; omega
    simp only [hki, hc2, Bool.and_false, Bool.not_false, Bool.and_self]
theorem jl_at {w : jW} {ls : List Value} {la : Array Slot} {nL k : Nat} {v : Value} (h : lv_has la nL (jl w 0 ls)) (hk : ls[k]? = some v) (hc : ¬ v.category = 2) : la[k]? = some (.val (jv w v)) := by
  have := h.2.2 _ (jl_get w ls 0 k v hk hc)
  simpa using this
theorem jl_lt {w : jW} {ls : List Value} {la : Array Slot} {nL k : Nat} {v : Value} (h : lv_has la nL (jl w 0 ls)) (hk : ls[k]? = some v) (hc : ¬ v.category = 2) : k < nL := by
  have := jl_at h hk hc
  have h2 := (Array.getElem?_eq_some_iff.mp this).1
  rw [h.1] at h2
  exact h2
end
section
/-- what is fixed while a method runs -/
def jF (p : Program) (R : Room) (s : State) (m : MethodId) (args : Array Value) (meth : Method) (c : Code) (w : jW) (d : Nat × Nat × Nat) (mt : jMt) : Prop :=
  (p.tables.exec = Jvm.exec ∧ c.code = mt.2.1 ∧ c.maxLocals = mt.2.2.1 ∧ s.vm.findClass mt.1.cls = some m.cls ∧ (∀ x ∈ jtw, x.before args s = true)) ∧ jK w s ∧ w.1 ≤ s.heap.size ∧ meth.locks = false ∧ meth.name = mt.1.name ∧ (d.1 ≤ R.frames ∧ 34 * d.1 ≤ R.locals) ∧ (d.2.1 ≤ R.cells ∧ d.2.2 ≤ R.slots) ∧ meth.sig.returnType = mt.2.2.2
/-- from here on (pc, locals, stack, cells) the method comes to its end -/
def J (G : jG) (d : Nat × Nat × Nat) (mt : jMt) (pc : Nat) (ls st : List Value) (S : jX) (I : jI) (k n : Nat) : Prop :=
  match G with
  | ((p, l, e, R, s, m), (args, below, meth, c), w, Q) => jF p R s m args meth c w d mt → ∀ (H : Heap) (locs : List Loc) (la : Array Slot), H.size = w.1 + S.1 → va_P w.2.2.1 vwCl (jws w S I) H → va_S (fun q => w.1 ≤ q) s.heap H locs → lv_has la mt.2.2.1 (jl w 0 ls) →
    W p l e R s m args below meth c H locs k n Q (F0 m pc la (st.map (jv w)))
section JR
variable {G : jG} {d : Nat × Nat × Nat} {mt : jMt} {pc : Nat} {ls st : List Value} {S : jX} {I : jI} {k n : Nat}

theorem J_iload_n {kk : Fin 4} {x : Int32} (hd : decode mt.2.1 pc = .ok (.iload_n kk, 1)) (hk : ls[(kk : Nat)]? = some (.int x)) (h : J G d mt (pc + 1) ls (.int x :: st) S I k n) : J G d mt pc ls (st) S I k n := by
  obtain ⟨⟨p, l, e, R, s, m⟩, ⟨args, below, meth, c⟩, w, Q⟩ := G
  intro hF H locs la hz hP hS hl
  obtain ⟨⟨hx, hb, hml, hown, hts⟩, hK, hsz, hlk, hnm, hfr, hbud, hrt⟩ := id hF
  exact lv_iload_n hx hb hd rfl (jl_at hl hk (by simp [Value.category])) (h hF H locs la hz hP hS hl)

theorem J_iload {kk : Nat} {x : Int32} (hd : decode mt.2.1 pc = .ok (.iload kk, 2)) (hk : ls[kk]? = some (.int x)) (h : J G d mt (pc + 2) ls (.int x :: st) S I k n) : J G d mt pc ls (st) S I k n := by
  obtain ⟨⟨p, l, e, R, s, m⟩, ⟨args, below, meth, c⟩, w, Q⟩ := G
  intro hF H locs la hz hP hS hl
  obtain ⟨⟨hx, hb, hml, hown, hts⟩, hK, hsz, hlk, hnm, hfr, hbud, hrt⟩ := id hF
  exact lv_iload hx hb hd (jl_at hl hk (by simp [Value.category])) (h hF H locs la hz hP hS hl)

def jisRef (v : Value) : Bool := match v with
  | .ref _ => true
  | .null => true
  | .retAddr _ => true
  | _ => false

theorem J_aload_n {kk : Fin 4} {v : Value} (hd : decode mt.2.1 pc = .ok (.aload_n kk, 1)) (hk : ls[(kk : Nat)]? = some v) (hv : jisRef v = true) (h : J G d mt (pc + 1) ls (v :: st) S I k n) : J G d mt pc ls (st) S I k n := by
  obtain ⟨⟨p, l, e, R, s, m⟩, ⟨args, below, meth, c⟩, w, Q⟩ := G
  intro hF H locs la hz hP hS hl
  obtain ⟨⟨hx, hb, hml, hown, hts⟩, hK, hsz, hlk, hnm, hfr, hbud, hrt⟩ := id hF
  have h := h hF H locs la hz hP hS hl
  cases v with
  | ref a => exact lv_aload_n hx hb hd rfl (jl_at hl hk (by simp [Value.category])) h
  | retAddr a => exact lv_aload_n hx hb hd rfl (jl_at hl hk (by simp [Value.category])) h
  | null => exact lv_aload_nN hx hb hd rfl (jl_at hl hk (by simp [Value.category])) h
  | int a => cases hv
  | long a => cases hv
  | float a => cases hv
  | double a => cases hv

theorem J_aload {kk : Nat} {v : Value} (hd : decode mt.2.1 pc = .ok (.aload kk, 2)) (hk : ls[kk]? = some v) (hv : jisRef v = true) (h : J G d mt (pc + 2) ls (v :: st) S I k n) : J G d mt pc ls (st) S I k n := by
  obtain ⟨⟨p, l, e, R, s, m⟩, ⟨args, below, meth, c⟩, w, Q⟩ := G
  intro hF H locs la hz hP hS hl
  obtain ⟨⟨hx, hb, hml, hown, hts⟩, hK, hsz, hlk, hnm, hfr, hbud, hrt⟩ := id hF
  have h := h hF H locs la hz hP hS hl
  cases v with
  | ref a => exact lv_aload hx hb hd (jl_at hl hk (by simp [Value.category])) h
  | retAddr a => exact lv_aload hx hb hd (jl_at hl hk (by simp [Value.category])) h
  | null => exact lv_aloadN hx hb hd (jl_at hl hk (by simp [Value.category])) h
  | int a => cases hv
  | long a => cases hv
  | float a => cases hv
  | double a => cases hv

theorem J_istore_n {kk : Fin 4} {x : Int32} (hd : decode mt.2.1 pc = .ok (.istore_n kk, 1)) (hn : (kk : Nat) < mt.2.2.1) (h : J G d mt (pc + 1) (ls.set kk (.int x)) st S I k n) : J G d mt pc ls (.int x :: st) S I k n := by
  obtain ⟨⟨p, l, e, R, s, m⟩, ⟨args, below, meth, c⟩, w, Q⟩ := G
  intro hF H locs la hz hP hS hl
  obtain ⟨⟨hx, hb, hml, hown, hts⟩, hK, hsz, hlk, hnm, hfr, hbud, hrt⟩ := id hF
  exact lv_istore_n hx hb hd rfl hl hn rfl (fun la hl => h hF H locs la hz hP hS (jl_set (v := .int x) hl (by simp [Value.category])))
theorem J_istore {kk : Nat} {x : Int32} (hd : decode mt.2.1 pc = .ok (.istore kk, 2)) (hn : kk < mt.2.2.1) (h : J G d mt (pc + 2) (ls.set kk (.int x)) st S I k n) : J G d mt pc ls (.int x :: st) S I k n := by
  obtain ⟨⟨p, l, e, R, s, m⟩, ⟨args, below, meth, c⟩, w, Q⟩ := G
  intro hF H locs la hz hP hS hl
  obtain ⟨⟨hx, hb, hml, hown, hts⟩, hK, hsz, hlk, hnm, hfr, hbud, hrt⟩ := id hF
  exact lv_istore hx hb hd hl hn rfl (fun la hl => h hF H locs la hz hP hS (jl_set (v := .int x) hl (by simp [Value.category])))
theorem J_astore_n {kk : Fin 4} {v : Value} (hd : decode mt.2.1 pc = .ok (.astore_n kk, 1)) (hn : (kk : Nat) < mt.2.2.1) (hv : jisRef v = true) (h : J G d mt (pc + 1) (ls.set kk v) st S I k n) : J G d mt pc ls (v :: st) S I k n := by
  obtain ⟨⟨p, l, e, R, s, m⟩, ⟨args, below, meth, c⟩, w, Q⟩ := G
  intro hF H locs la hz hP hS hl
  obtain ⟨⟨hx, hb, hml, hown, hts⟩, hK, hsz, hlk, hnm, hfr, hbud, hrt⟩ := id hF
  cases v with
  | ref a => exact lv_astore_n hx hb hd rfl hl hn rfl (fun la hl => h hF H locs la hz hP hS (jl_set (v := .ref a) hl (by simp [Value.category])))
  | retAddr a => exact lv_astore_n hx hb hd rfl hl hn rfl (fun la hl => h hF H locs la hz hP hS (jl_set (v := .retAddr a) hl (by simp [Value.category])))
  | null => exact lv_astore_nN hx hb hd rfl hl hn rfl (fun la hl => h hF H locs la hz hP hS (jl_set (v := .null) hl (by simp [Value.category])))
  | int a => cases hv
  | long a => cases hv
  | float a => cases hv
  | double a => cases hv
theorem J_astore {kk : Nat} {v : Value} (hd : decode mt.2.1 pc = .ok (.astore kk, 2)) (hn : kk < mt.2.2.1) (hv : jisRef v = true) (h : J G d mt (pc + 2) (ls.set kk v) st S I k n) : J G d mt pc ls (v :: st) S I k n := by
  obtain ⟨⟨p, l, e, R, s, m⟩, ⟨args, below, meth, c⟩, w, Q⟩ := G
  intro hF H locs la hz hP hS hl
  obtain ⟨⟨hx, hb, hml, hown, hts⟩, hK, hsz, hlk, hnm, hfr, hbud, hrt⟩ := id hF
  cases v with
  | ref a => exact lv_astore hx hb hd hl hn rfl (fun la hl => h hF H locs la hz hP hS (jl_set (v := .ref a) hl (by simp [Value.category])))
  | retAddr a => exact lv_astore hx hb hd hl hn rfl (fun la hl => h hF H locs la hz hP hS (jl_set (v := .retAddr a) hl (by simp [Value.category])))
  | null => exact lv_astoreN hx hb hd hl hn rfl (fun la hl => h hF H locs la hz hP hS (jl_set (v := .null) hl (by simp [Value.category])))
  | int a => cases hv
  | long a => cases hv
  | float a => cases hv
  | double a => cases hv
theorem J_iinc {kk : Nat} {z : Int} {x y : Int32} (hd : decode mt.2.1 pc = .ok (.iinc kk z, 3)) (hk : ls[kk]? = some (.int x)) (hy : Int32.ofInt z = y) (h : J G d mt (pc + 3) (ls.set kk (.int (x + y))) st S I k n) : J G d mt pc ls st S I k n := by
  obtain ⟨⟨p, l, e, R, s, m⟩, ⟨args, below, meth, c⟩, w, Q⟩ := G
  intro hF H locs la hz hP hS hl
  obtain ⟨⟨hx, hb, hml, hown, hts⟩, hK, hsz, hlk, hnm, hfr, hbud, hrt⟩ := id hF
  subst hy
  obtain ⟨j, hj⟩ := List.getElem?_of_mem (jl_get w ls 0 kk _ hk (by simp [Value.category]))
  rw [Nat.zero_add] at hj
  exact lv_iinc hx hb hd hl hj rfl (jl_lt hl hk (by simp [Value.category])) rfl (fun la hl => h hF H locs la hz hP hS (jl_set (v := .int (x + Int32.ofInt z)) hl (by simp [Value.category])))

theorem J_iconst {z : Int} (x : Int32) (hd : decode mt.2.1 pc = .ok (.iconst z, 1)) (hv : Int32.ofInt z = x) (h : J G d mt (pc + 1) ls (.int x :: st) S I k n) : J G d mt pc ls (st) S I k n := by
  obtain ⟨⟨p, l, e, R, s, m⟩, ⟨args, below, meth, c⟩, w, Q⟩ := G
  intro hF H locs la hz hP hS hl
  obtain ⟨⟨hx, hb, hml, hown, hts⟩, hK, hsz, hlk, hnm, hfr, hbud, hrt⟩ := id hF
  exact lv_iconst hx hb hd hv (h hF H locs la hz hP hS hl)

theorem J_bipush {z : Int} (x : Int32) (hd : decode mt.2.1 pc = .ok (.bipush z, 2)) (hv : (Int8.ofInt z).toInt32 = x) (h : J G d mt (pc + 2) ls (.int x :: st) S I k n) : J G d mt pc ls (st) S I k n := by
  obtain ⟨⟨p, l, e, R, s, m⟩, ⟨args, below, meth, c⟩, w, Q⟩ := G
  intro hF H locs la hz hP hS hl
  obtain ⟨⟨hx, hb, hml, hown, hts⟩, hK, hsz, hlk, hnm, hfr, hbud, hrt⟩ := id hF
  exact lv_bipush hx hb hd hv (h hF H locs la hz hP hS hl)

theorem J_sipush {z : Int} (x : Int32) (hd : decode mt.2.1 pc = .ok (.sipush z, 3)) (hv : (Int16.ofInt z).toInt32 = x) (h : J G d mt (pc + 3) ls (.int x :: st) S I k n) : J G d mt pc ls (st) S I k n := by
  obtain ⟨⟨p, l, e, R, s, m⟩, ⟨args, below, meth, c⟩, w, Q⟩ := G
  intro hF H locs la hz hP hS hl
  obtain ⟨⟨hx, hb, hml, hown, hts⟩, hK, hsz, hlk, hnm, hfr, hbud, hrt⟩ := id hF
  exact lv_sipush hx hb hd hv (h hF H locs la hz hP hS hl)

theorem J_ldc {ix : Nat} (x : Int32) (hd : decode mt.2.1 pc = .ok (.ldc ix, 2)) (hw : Cond.constant mt.1.cls ix x ∈ jtw) (h : J G d mt (pc + 2) ls (.int x :: st) S I k n) : J G d mt pc ls (st) S I k n := by
  obtain ⟨⟨p, l, e, R, s, m⟩, ⟨args, below, meth, c⟩, w, Q⟩ := G
  intro hF H locs la hz hP hS hl
  obtain ⟨⟨hx, hb, hml, hown, hts⟩, hK, hsz, hlk, hnm, hfr, hbud, hrt⟩ := id hF
  exact lv_ldc hx hb hown (hts _ hw) hd (h hF H locs la hz hP hS hl)

theorem J_null (hd : decode mt.2.1 pc = .ok (.aconst_null, 1)) (h : J G d mt (pc + 1) ls (.null :: st) S I k n) : J G d mt pc ls (st) S I k n := by
  obtain ⟨⟨p, l, e, R, s, m⟩, ⟨args, below, meth, c⟩, w, Q⟩ := G
  intro hF H locs la hz hP hS hl
  obtain ⟨⟨hx, hb, hml, hown, hts⟩, hK, hsz, hlk, hnm, hfr, hbud, hrt⟩ := id hF
  exact lv_null hx hb hd (h hF H locs la hz hP hS hl)

theorem J_iadd {x y : Int32} (hd : decode mt.2.1 pc = .ok (.iadd, 1)) (h : J G d mt (pc + 1) ls (.int (x + y) :: st) S I k n) : J G d mt pc ls (.int y :: .int x :: st) S I k n := by
  obtain ⟨⟨p, l, e, R, s, m⟩, ⟨args, below, meth, c⟩, w, Q⟩ := G
  intro hF H locs la hz hP hS hl
  obtain ⟨⟨hx, hb, hml, hown, hts⟩, hK, hsz, hlk, hnm, hfr, hbud, hrt⟩ := id hF
  exact lv_iadd hx hb hd (h hF H locs la hz hP hS hl)

theorem J_isub {x y : Int32} (hd : decode mt.2.1 pc = .ok (.isub, 1)) (h : J G d mt (pc + 1) ls (.int (x - y) :: st) S I k n) : J G d mt pc ls (.int y :: .int x :: st) S I k n := by
  obtain ⟨⟨p, l, e, R, s, m⟩, ⟨args, below, meth, c⟩, w, Q⟩ := G
  intro hF H locs la hz hP hS hl
  obtain ⟨⟨hx, hb, hml, hown, hts⟩, hK, hsz, hlk, hnm, hfr, hbud, hrt⟩ := id hF
  exact lv_isub hx hb hd (h hF H locs la hz hP hS hl)

theorem J_imul {x y : Int32} (hd : decode mt.2.1 pc = .ok (.imul, 1)) (h : J G d mt (pc + 1) ls (.int (x * y) :: st) S I k n) : J G d mt pc ls (.int y :: .int x :: st) S I k n := by
  obtain ⟨⟨p, l, e, R, s, m⟩, ⟨args, below, meth, c⟩, w, Q⟩ := G
  intro hF H locs la hz hP hS hl
  obtain ⟨⟨hx, hb, hml, hown, hts⟩, hK, hsz, hlk, hnm, hfr, hbud, hrt⟩ := id hF
  exact lv_imul hx hb hd (h hF H locs la hz hP hS hl)

theorem J_iand {x y : Int32} (hd : decode mt.2.1 pc = .ok (.iand, 1)) (h : J G d mt (pc + 1) ls (.int (x &&& y) :: st) S I k n) : J G d mt pc ls (.int y :: .int x :: st) S I k n := by
  obtain ⟨⟨p, l, e, R, s, m⟩, ⟨args, below, meth, c⟩, w, Q⟩ := G
  intro hF H locs la hz hP hS hl
  obtain ⟨⟨hx, hb, hml, hown, hts⟩, hK, hsz, hlk, hnm, hfr, hbud, hrt⟩ := id hF
  exact lv_iand hx hb hd (h hF H locs la hz hP hS hl)

theorem J_ior {x y : Int32} (hd : decode mt.2.1 pc = .ok (.ior, 1)) (h : J G d mt (pc + 1) ls (.int (x ||| y) :: st) S I k n) : J G d mt pc ls (.int y :: .int x :: st) S I k n := by
  obtain ⟨⟨p, l, e, R, s, m⟩, ⟨args, below, meth, c⟩, w, Q⟩ := G
  intro hF H locs la hz hP hS hl
  obtain ⟨⟨hx, hb, hml, hown, hts⟩, hK, hsz, hlk, hnm, hfr, hbud, hrt⟩ := id hF
  exact lv_ior hx hb hd (h hF H locs la hz hP hS hl)

theorem J_ishl {x y : Int32} (hd : decode mt.2.1 pc = .ok (.ishl, 1)) (h : J G d mt (pc + 1) ls (.int (x <<< (y &&& 31)) :: st) S I k n) : J G d mt pc ls (.int y :: .int x :: st) S I k n := by
  obtain ⟨⟨p, l, e, R, s, m⟩, ⟨args, below, meth, c⟩, w, Q⟩ := G
  intro hF H locs la hz hP hS hl
  obtain ⟨⟨hx, hb, hml, hown, hts⟩, hK, hsz, hlk, hnm, hfr, hbud, hrt⟩ := id hF
  exact lv_ishl hx hb hd (h hF H locs la hz hP hS hl)

theorem J_idiv {x y : Int32} (hd : decode mt.2.1 pc = .ok (.idiv, 1)) (hne : ¬ y = 0) (h : J G d mt (pc + 1) ls (.int (x / y) :: st) S I k n) : J G d mt pc ls (.int y :: .int x :: st) S I k n := by
  obtain ⟨⟨p, l, e, R, s, m⟩, ⟨args, below, meth, c⟩, w, Q⟩ := G
  intro hF H locs la hz hP hS hl
  obtain ⟨⟨hx, hb, hml, hown, hts⟩, hK, hsz, hlk, hnm, hfr, hbud, hrt⟩ := id hF
  exact lv_idiv hx hb hd hne (h hF H locs la hz hP hS hl)

theorem J_irem {x y : Int32} (hd : decode mt.2.1 pc = .ok (.irem, 1)) (hne : ¬ y = 0) (h : J G d mt (pc + 1) ls (.int (x - x / y * y) :: st) S I k n) : J G d mt pc ls (.int y :: .int x :: st) S I k n := by
  obtain ⟨⟨p, l, e, R, s, m⟩, ⟨args, below, meth, c⟩, w, Q⟩ := G
  intro hF H locs la hz hP hS hl
  obtain ⟨⟨hx, hb, hml, hown, hts⟩, hK, hsz, hlk, hnm, hfr, hbud, hrt⟩ := id hF
  exact lv_irem hx hb hd hne (h hF H locs la hz hP hS hl)

theorem J_i2c {x : Int32} (hd : decode mt.2.1 pc = .ok (.i2c, 1)) (h : J G d mt (pc + 1) ls (.int (x.toUInt32 % 65536).toInt32 :: st) S I k n) : J G d mt pc ls (.int x :: st) S I k n := by
  obtain ⟨⟨p, l, e, R, s, m⟩, ⟨args, below, meth, c⟩, w, Q⟩ := G
  intro hF H locs la hz hP hS hl
  obtain ⟨⟨hx, hb, hml, hown, hts⟩, hK, hsz, hlk, hnm, hfr, hbud, hrt⟩ := id hF
  exact lv_i2c hx hb hd rfl (h hF H locs la hz hP hS hl)

theorem J_dup {v : Value} (hd : decode mt.2.1 pc = .ok (.dup, 1)) (hv : v.category = 1) (h : J G d mt (pc + 1) ls (v :: v :: st) S I k n) : J G d mt pc ls (v :: st) S I k n := by
  obtain ⟨⟨p, l, e, R, s, m⟩, ⟨args, below, meth, c⟩, w, Q⟩ := G
  intro hF H locs la hz hP hS hl
  obtain ⟨⟨hx, hb, hml, hown, hts⟩, hK, hsz, hlk, hnm, hfr, hbud, hrt⟩ := id hF
  exact lv_dup hx hb hd (by rw [jv_cat]; exact hv) (h hF H locs la hz hP hS hl)

theorem J_dup2 {v u : Value} (hd : decode mt.2.1 pc = .ok (.dup2, 1)) (hv : v.category = 1) (hu : u.category = 1) (h : J G d mt (pc + 1) ls (v :: u :: v :: u :: st) S I k n) : J G d mt pc ls (v :: u :: st) S I k n := by
  obtain ⟨⟨p, l, e, R, s, m⟩, ⟨args, below, meth, c⟩, w, Q⟩ := G
  intro hF H locs la hz hP hS hl
  obtain ⟨⟨hx, hb, hml, hown, hts⟩, hK, hsz, hlk, hnm, hfr, hbud, hrt⟩ := id hF
  exact lv_dup2_11 hx hb hd (by rw [jv_cat]; exact hv) (by rw [jv_cat]; exact hu) (h hF H locs la hz hP hS hl)

theorem J_icmp_eq {x y : Int32} {off : Int} (hd : decode mt.2.1 pc = .ok (.if_icmp .eq off, 3)) {tgt : Nat} (ht : (pc : Int) + off = (tgt : Int)) (kt : x = y → J G d mt tgt ls st S I k n) (kf : ¬ x = y → J G d mt (pc + 3) ls st S I k n) : J G d mt pc ls (.int y :: .int x :: st) S I k n := by
  obtain ⟨⟨p, l, e, R, s, m⟩, ⟨args, below, meth, c⟩, w, Q⟩ := G
  intro hF H locs la hz hP hS hl
  obtain ⟨⟨hx, hb, hml, hown, hts⟩, hK, hsz, hlk, hnm, hfr, hbud, hrt⟩ := id hF
  exact lv_icmp_eq hx hb hd ht (fun q => kt q hF H locs la hz hP hS hl) (fun q => kf q hF H locs la hz hP hS hl)

theorem J_icmp_ne {x y : Int32} {off : Int} (hd : decode mt.2.1 pc = .ok (.if_icmp .ne off, 3)) {tgt : Nat} (ht : (pc : Int) + off = (tgt : Int)) (kt : ¬ x = y → J G d mt tgt ls st S I k n) (kf : x = y → J G d mt (pc + 3) ls st S I k n) : J G d mt pc ls (.int y :: .int x :: st) S I k n := by
  obtain ⟨⟨p, l, e, R, s, m⟩, ⟨args, below, meth, c⟩, w, Q⟩ := G
  intro hF H locs la hz hP hS hl
  obtain ⟨⟨hx, hb, hml, hown, hts⟩, hK, hsz, hlk, hnm, hfr, hbud, hrt⟩ := id hF
  exact lv_icmp_ne hx hb hd ht (fun q => kt q hF H locs la hz hP hS hl) (fun q => kf q hF H locs la hz hP hS hl)

theorem J_icmp_lt {x y : Int32} {off : Int} (hd : decode mt.2.1 pc = .ok (.if_icmp .lt off, 3)) {tgt : Nat} (ht : (pc : Int) + off = (tgt : Int)) (kt : x < y → J G d mt tgt ls st S I k n) (kf : ¬ x < y → J G d mt (pc + 3) ls st S I k n) : J G d mt pc ls (.int y :: .int x :: st) S I k n := by
  obtain ⟨⟨p, l, e, R, s, m⟩, ⟨args, below, meth, c⟩, w, Q⟩ := G
  intro hF H locs la hz hP hS hl
  obtain ⟨⟨hx, hb, hml, hown, hts⟩, hK, hsz, hlk, hnm, hfr, hbud, hrt⟩ := id hF
  exact lv_icmp_lt hx hb hd ht (fun q => kt q hF H locs la hz hP hS hl) (fun q => kf q hF H locs la hz hP hS hl)

theorem J_icmp_ge {x y : Int32} {off : Int} (hd : decode mt.2.1 pc = .ok (.if_icmp .ge off, 3)) {tgt : Nat} (ht : (pc : Int) + off = (tgt : Int)) (kt : y ≤ x → J G d mt tgt ls st S I k n) (kf : ¬ y ≤ x → J G d mt (pc + 3) ls st S I k n) : J G d mt pc ls (.int y :: .int x :: st) S I k n := by
  obtain ⟨⟨p, l, e, R, s, m⟩, ⟨args, below, meth, c⟩, w, Q⟩ := G
  intro hF H locs la hz hP hS hl
  obtain ⟨⟨hx, hb, hml, hown, hts⟩, hK, hsz, hlk, hnm, hfr, hbud, hrt⟩ := id hF
  exact lv_icmp_ge hx hb hd ht (fun q => kt q hF H locs la hz hP hS hl) (fun q => kf q hF H locs la hz hP hS hl)

theorem J_icmp_gt {x y : Int32} {off : Int} (hd : decode mt.2.1 pc = .ok (.if_icmp .gt off, 3)) {tgt : Nat} (ht : (pc : Int) + off = (tgt : Int)) (kt : y < x → J G d mt tgt ls st S I k n) (kf : ¬ y < x → J G d mt (pc + 3) ls st S I k n) : J G d mt pc ls (.int y :: .int x :: st) S I k n := by
  obtain ⟨⟨p, l, e, R, s, m⟩, ⟨args, below, meth, c⟩, w, Q⟩ := G
  intro hF H locs la hz hP hS hl
  obtain ⟨⟨hx, hb, hml, hown, hts⟩, hK, hsz, hlk, hnm, hfr, hbud, hrt⟩ := id hF
  exact lv_icmp_gt hx hb hd ht (fun q => kt q hF H locs la hz hP hS hl) (fun q => kf q hF H locs la hz hP hS hl)

theorem J_icmp_le {x y : Int32} {off : Int} (hd : decode mt.2.1 pc = .ok (.if_icmp .le off, 3)) {tgt : Nat} (ht : (pc : Int) + off = (tgt : Int)) (kt : x ≤ y → J G d mt tgt ls st S I k n) (kf : ¬ x ≤ y → J G d mt (pc + 3) ls st S I k n) : J G d mt pc ls (.int y :: .int x :: st) S I k n := by
  obtain ⟨⟨p, l, e, R, s, m⟩, ⟨args, below, meth, c⟩, w, Q⟩ := G
  intro hF H locs la hz hP hS hl
  obtain ⟨⟨hx, hb, hml, hown, hts⟩, hK, hsz, hlk, hnm, hfr, hbud, hrt⟩ := id hF
  exact lv_icmp_le hx hb hd ht (fun q => kt q hF H locs la hz hP hS hl) (fun q => kf q hF H locs la hz hP hS hl)

theorem J_if_eq {x : Int32} {off : Int} (hd : decode mt.2.1 pc = .ok (.ifCond .eq off, 3)) {tgt : Nat} (ht : (pc : Int) + off = (tgt : Int)) (kt : x = 0 → J G d mt tgt ls st S I k n) (kf : ¬ x = 0 → J G d mt (pc + 3) ls st S I k n) : J G d mt pc ls (.int x :: st) S I k n := by
  obtain ⟨⟨p, l, e, R, s, m⟩, ⟨args, below, meth, c⟩, w, Q⟩ := G
  intro hF H locs la hz hP hS hl
  obtain ⟨⟨hx, hb, hml, hown, hts⟩, hK, hsz, hlk, hnm, hfr, hbud, hrt⟩ := id hF
  exact lv_if_eq hx hb hd ht (fun q => kt q hF H locs la hz hP hS hl) (fun q => kf q hF H locs la hz hP hS hl)

theorem J_if_ne {x : Int32} {off : Int} (hd : decode mt.2.1 pc = .ok (.ifCond .ne off, 3)) {tgt : Nat} (ht : (pc : Int) + off = (tgt : Int)) (kt : ¬ x = 0 → J G d mt tgt ls st S I k n) (kf : x = 0 → J G d mt (pc + 3) ls st S I k n) : J G d mt pc ls (.int x :: st) S I k n := by
  obtain ⟨⟨p, l, e, R, s, m⟩, ⟨args, below, meth, c⟩, w, Q⟩ := G
  intro hF H locs la hz hP hS hl
  obtain ⟨⟨hx, hb, hml, hown, hts⟩, hK, hsz, hlk, hnm, hfr, hbud, hrt⟩ := id hF
  exact lv_if_ne hx hb hd ht (fun q => kt q hF H locs la hz hP hS hl) (fun q => kf q hF H locs la hz hP hS hl)

theorem J_if_lt {x : Int32} {off : Int} (hd : decode mt.2.1 pc = .ok (.ifCond .lt off, 3)) {tgt : Nat} (ht : (pc : Int) + off = (tgt : Int)) (kt : x < 0 → J G d mt tgt ls st S I k n) (kf : ¬ x < 0 → J G d mt (pc + 3) ls st S I k n) : J G d mt pc ls (.int x :: st) S I k n := by
  obtain ⟨⟨p, l, e, R, s, m⟩, ⟨args, below, meth, c⟩, w, Q⟩ := G
  intro hF H locs la hz hP hS hl
  obtain ⟨⟨hx, hb, hml, hown, hts⟩, hK, hsz, hlk, hnm, hfr, hbud, hrt⟩ := id hF
  exact lv_if_lt hx hb hd ht (fun q => kt q hF H locs la hz hP hS hl) (fun q => kf q hF H locs la hz hP hS hl)

theorem J_if_ge {x : Int32} {off : Int} (hd : decode mt.2.1 pc = .ok (.ifCond .ge off, 3)) {tgt : Nat} (ht : (pc : Int) + off = (tgt : Int)) (kt : 0 ≤ x → J G d mt tgt ls st S I k n) (kf : ¬ 0 ≤ x → J G d mt (pc + 3) ls st S I k n) : J G d mt pc ls (.int x :: st) S I k n := by
  obtain ⟨⟨p, l, e, R, s, m⟩, ⟨args, below, meth, c⟩, w, Q⟩ := G
  intro hF H locs la hz hP hS hl
  obtain ⟨⟨hx, hb, hml, hown, hts⟩, hK, hsz, hlk, hnm, hfr, hbud, hrt⟩ := id hF
  exact lv_if_ge hx hb hd ht (fun q => kt q hF H locs la hz hP hS hl) (fun q => kf q hF H locs la hz hP hS hl)

theorem J_if_gt {x : Int32} {off : Int} (hd : decode mt.2.1 pc = .ok (.ifCond .gt off, 3)) {tgt : Nat} (ht : (pc : Int) + off = (tgt : Int)) (kt : 0 < x → J G d mt tgt ls st S I k n) (kf : ¬ 0 < x → J G d mt (pc + 3) ls st S I k n) : J G d mt pc ls (.int x :: st) S I k n := by
  obtain ⟨⟨p, l, e, R, s, m⟩, ⟨args, below, meth, c⟩, w, Q⟩ := G
  intro hF H locs la hz hP hS hl
  obtain ⟨⟨hx, hb, hml, hown, hts⟩, hK, hsz, hlk, hnm, hfr, hbud, hrt⟩ := id hF
  exact lv_if_gt hx hb hd ht (fun q => kt q hF H locs la hz hP hS hl) (fun q => kf q hF H locs la hz hP hS hl)

theorem J_if_le {x : Int32} {off : Int} (hd : decode mt.2.1 pc = .ok (.ifCond .le off, 3)) {tgt : Nat} (ht : (pc : Int) + off = (tgt : Int)) (kt : x ≤ 0 → J G d mt tgt ls st S I k n) (kf : ¬ x ≤ 0 → J G d mt (pc + 3) ls st S I k n) : J G d mt pc ls (.int x :: st) S I k n := by
  obtain ⟨⟨p, l, e, R, s, m⟩, ⟨args, below, meth, c⟩, w, Q⟩ := G
  intro hF H locs la hz hP hS hl
  obtain ⟨⟨hx, hb, hml, hown, hts⟩, hK, hsz, hlk, hnm, hfr, hbud, hrt⟩ := id hF
  exact lv_if_le hx hb hd ht (fun q => kt q hF H locs la hz hP hS hl) (fun q => kf q hF H locs la hz hP hS hl)

theorem J_goto {off : Int} {tgt : Nat} (hd : decode mt.2.1 pc = .ok (.goto off, 3)) (ht : (pc : Int) + off = (tgt : Int)) (h : J G d mt tgt ls st S I k n) : J G d mt pc ls st S I k n := by
  obtain ⟨⟨p, l, e, R, s, m⟩, ⟨args, below, meth, c⟩, w, Q⟩ := G
  intro hF H locs la hz hP hS hl
  obtain ⟨⟨hx, hb, hml, hown, hts⟩, hK, hsz, hlk, hnm, hfr, hbud, hrt⟩ := id hF
  exact lv_goto hx hb hd ht (h hF H locs la hz hP hS hl)
theorem J_ifnull_r {off : Int} {x : Nat} (hd : decode mt.2.1 pc = .ok (.ifnull off, 3)) (h : J G d mt (pc + 3) ls st S I k n) : J G d mt pc ls (.ref x :: st) S I k n := by
  obtain ⟨⟨p, l, e, R, s, m⟩, ⟨args, below, meth, c⟩, w, Q⟩ := G
  intro hF H locs la hz hP hS hl
  obtain ⟨⟨hx, hb, hml, hown, hts⟩, hK, hsz, hlk, hnm, hfr, hbud, hrt⟩ := id hF
  exact lv_ifnull hx hb hd (h hF H locs la hz hP hS hl)
theorem J_ifnull_n {off : Int} {tgt : Nat} (hd : decode mt.2.1 pc = .ok (.ifnull off, 3)) (ht : (pc : Int) + off = (tgt : Int)) (h : J G d mt tgt ls st S I k n) : J G d mt pc ls (.null :: st) S I k n := by
  obtain ⟨⟨p, l, e, R, s, m⟩, ⟨args, below, meth, c⟩, w, Q⟩ := G
  intro hF H locs la hz hP hS hl
  obtain ⟨⟨hx, hb, hml, hown, hts⟩, hK, hsz, hlk, hnm, hfr, hbud, hrt⟩ := id hF
  exact lv_ifnullN hx hb hd ht (h hF H locs la hz hP hS hl)
theorem J_ifnonnull_r {off : Int} {tgt x : Nat} (hd : decode mt.2.1 pc = .ok (.ifnonnull off, 3)) (ht : (pc : Int) + off = (tgt : Int)) (h : J G d mt tgt ls st S I k n) : J G d mt pc ls (.ref x :: st) S I k n := by
  obtain ⟨⟨p, l, e, R, s, m⟩, ⟨args, below, meth, c⟩, w, Q⟩ := G
  intro hF H locs la hz hP hS hl
  obtain ⟨⟨hx, hb, hml, hown, hts⟩, hK, hsz, hlk, hnm, hfr, hbud, hrt⟩ := id hF
  exact lv_ifnonnull hx hb hd ht (h hF H locs la hz hP hS hl)
theorem J_ifnonnull_n {off : Int} (hd : decode mt.2.1 pc = .ok (.ifnonnull off, 3)) (h : J G d mt (pc + 3) ls st S I k n) : J G d mt pc ls (.null :: st) S I k n := by
  obtain ⟨⟨p, l, e, R, s, m⟩, ⟨args, below, meth, c⟩, w, Q⟩ := G
  intro hF H locs la hz hP hS hl
  obtain ⟨⟨hx, hb, hml, hown, hts⟩, hK, hsz, hlk, hnm, hfr, hbud, hrt⟩ := id hF
  exact lv_ifnonnullN hx hb hd (h hF H locs la hz hP hS hl)
theorem J_tabOut {dflt lo hi : Int} {offs : Array Int} {len tgt : Nat} {x : Int32} (hd : decode mt.2.1 pc = .ok (.tableswitch dflt lo hi offs, len)) (hx2 : x.toInt < lo ∨ hi < x.toInt) (ht : (pc : Int) + dflt = (tgt : Int)) (h : J G d mt tgt ls st S I k n) : J G d mt pc ls (.int x :: st) S I k n := by
  obtain ⟨⟨p, l, e, R, s, m⟩, ⟨args, below, meth, c⟩, w, Q⟩ := G
  intro hF H locs la hz hP hS hl
  obtain ⟨⟨hx, hb, hml, hown, hts⟩, hK, hsz, hlk, hnm, hfr, hbud, hrt⟩ := id hF
  exact lv_tableOut hx hb hd hx2 ht (h hF H locs la hz hP hS hl)
theorem J_tabIn {dflt lo hi off : Int} {offs : Array Int} {len tgt : Nat} {x : Int32} (hd : decode mt.2.1 pc = .ok (.tableswitch dflt lo hi offs, len)) (h1 : ¬ x.toInt < lo) (h2 : ¬ hi < x.toInt) (ho : offs[(x.toInt - lo).toNat]? = some off) (ht : (pc : Int) + off = (tgt : Int)) (h : J G d mt tgt ls st S I k n) : J G d mt pc ls (.int x :: st) S I k n := by
  obtain ⟨⟨p, l, e, R, s, m⟩, ⟨args, below, meth, c⟩, w, Q⟩ := G
  intro hF H locs la hz hP hS hl
  obtain ⟨⟨hx, hb, hml, hown, hts⟩, hK, hsz, hlk, hnm, hfr, hbud, hrt⟩ := id hF
  exact lv_tableIn hx hb hd h1 h2 ho ht (h hF H locs la hz hP hS hl)
theorem J_look {dflt off : Int} {ps : Array (Int × Int)} {len tgt : Nat} {x : Int32} (hd : decode mt.2.1 pc = .ok (.lookupswitch dflt ps, len)) (hp : (ps.toList.zip (ps.toList.drop 1)).all (fun (a, next) => a.1 < next.1) = true) (ho : Op.lookupswitch.offset ps.toList dflt x.toInt = off) (ht : (pc : Int) + off = (tgt : Int)) (h : J G d mt tgt ls st S I k n) : J G d mt pc ls (.int x :: st) S I k n := by
  obtain ⟨⟨p, l, e, R, s, m⟩, ⟨args, below, meth, c⟩, w, Q⟩ := G
  intro hF H locs la hz hP hS hl
  obtain ⟨⟨hx, hb, hml, hown, hts⟩, hK, hsz, hlk, hnm, hfr, hbud, hrt⟩ := id hF
  exact lv_lookup hx hb hd hp ho ht (h hF H locs la hz hP hS hl)

end JR
end
section
theorem jC_in {c : Nat} (h : c < 8) : ∀ w ∈ u_ws (jC c).1 (jC c).2.1 (jC c).2.2, w ∈ jtw :=
  jlt8 (P := fun c => ∀ w ∈ u_ws (jC c).1 (jC c).2.1 (jC c).2.2, w ∈ jtw) jinX0 jinX1 jinX2 jinX3 jinX4 jinX5 jinX6 jinX7 h
/-- the cell o is of kind t (below 8: an object of that class; 8 ints, 9 chars, 10.. references), n its length -/
def jKd (S : jX) (o t n : Nat) : Prop := o < S.1 ∧ S.2.1 o = (t, n)
def jset (I : jI) (o j : Nat) (x : Int32) : jI := fun a b => if a = o ∧ b = j then x else I a b
/-- a field's link: the class of its object, its place -/
def jFL (own : String) (ix ci j : Nat) : Prop := ci < 8 ∧ j < (jC ci).2.2 ∧ (Cond.fieldLink own ix ((jC ci).2.1 j).1 ((jC ci).2.1 j).2.1 ((jC ci).2.1 j).2.2.1 ∈ jtw ∨ ∃ host, Cond.fieldLinkNest own ix ((jC ci).2.1 j).1 ((jC ci).2.1 j).2.1 ((jC ci).2.1 j).2.2.1 host ∈ jnw)
theorem jcell_o {w : jW} {S : jX} {I : jI} {o ci n : Nat} (hk : jKd S o ci n) (hc : ci < 8) : jcell w S I o = .inr (ci, jobj w S I o) := by
  simp [jcell, hk.2, hc]
theorem jcell_i {w : jW} {S : jX} {I : jI} {o n t : Nat} (hk : jKd S o t n) (h1 : 8 ≤ t) (h2 : t < 10) : jcell w S I o = .inl (w.2.2.2 t, n, .inl (I o)) := by
  have h3 : ¬ t < 8 := by omega
  simp [jcell, hk.2, h2, h3]
theorem jcell_r {w : jW} {S : jX} {I : jI} {o n t : Nat} (hk : jKd S o t n) (h1 : 10 ≤ t) : jcell w S I o = .inl (w.2.2.2 t, n, .inr (.inr (.inr (.inr (fun j => jq w (S.2.2 o j)))))) := by
  have h3 : ¬ t < 8 := by omega
  have h4 : ¬ t < 10 := by omega
  simp [jcell, hk.2, h3, h4]
theorem jobj_at {w : jW} {S : jX} {I : jI} {o ci n j : Nat} (hk : jKd S o ci n) (hj : j < (jC ci).2.2) : (jobj w S I o)[j]? = some (if jrf ci j = true then va_rf (jq w (S.2.2 o j)) else .int (I o j)) := by
  simp [jobj, hk.2, hj]
theorem jobj_len {w : jW} {S : jX} {I : jI} {o ci n : Nat} (hk : jKd S o ci n) : (jobj w S I o).length = (jC ci).2.2 := by simp [jobj, hk.2]
section JH
variable {G : jG} {d : Nat × Nat × Nat} {mt : jMt} {pc : Nat} {ls st : List Value} {S : jX} {I : jI} {k n : Nat}

theorem J_getv {ix ci j o : Nat} (hd : decode mt.2.1 pc = .ok (.getfield ix, 3)) (hf : jFL mt.1.cls ix ci j) (hk : jKd S o ci 0) (v : Value) (hv : ∀ w : jW, (if jrf ci j = true then va_rf (jq w (S.2.2 o j)) else .int (I o j)) = jv w v) (h : J G d mt (pc + 3) ls (v :: st) S I k n) : J G d mt pc ls (.ref o :: st) S I k n := by
  obtain ⟨⟨p, l, e, R, s, m⟩, ⟨args, below, meth, c⟩, w, Q⟩ := G
  intro hF H locs la hz hP hS hl
  obtain ⟨⟨hx, hb, hml, hown, hts⟩, hK, hsz, hlk, hnm, hfr, hbud, hrt⟩ := id hF
  obtain ⟨hc, hj, hw⟩ := hf
  have he := jws_at w S I hk.1
  rw [jcell_o hk hc] at he
  have hv' : (jobj w S I o)[j]? = some (jv w v) := by rw [jobj_at hk hj, hv w]
  have h := h hF H locs la hz hP hS hl
  rcases hw with hw | ⟨host, hw⟩
  · exact va_get (D := w.2.2.1) (ci := ci) hx hb hts (jC_in hc) hown hK.1 hP o he (jC_at hc) j hj (hts _ hw) (fun _ h9 => h9) hv' hd h
  · exact va_getN (D := w.2.2.1) (ci := ci) hx hb hts (jC_in hc) hown hK.1 hP o he (jC_at hc) j hj (va_Nw.use rfl (hK.2.1 _ hw)) (fun _ h9 => h9) hv' hd h
theorem J_getI {ix ci j o : Nat} (hd : decode mt.2.1 pc = .ok (.getfield ix, 3)) (hf : jFL mt.1.cls ix ci j) (hr : jrf ci j = false) (hk : jKd S o ci 0) (h : J G d mt (pc + 3) ls (.int (I o j) :: st) S I k n) : J G d mt pc ls (.ref o :: st) S I k n :=
  J_getv hd hf hk (.int (I o j)) (fun w => by rw [hr]; rfl) h
theorem J_getR {ix ci j o : Nat} {q : Nat} (hd : decode mt.2.1 pc = .ok (.getfield ix, 3)) (hf : jFL mt.1.cls ix ci j) (hr : jrf ci j = true) (hk : jKd S o ci 0) (hq : S.2.2 o j = some q) (h : J G d mt (pc + 3) ls (.ref q :: st) S I k n) : J G d mt pc ls (.ref o :: st) S I k n :=
  J_getv hd hf hk (.ref q) (fun w => by rw [hr, hq]; rfl) h

theorem jws_put {w : jW} {S : jX} {I : jI} {o ci j : Nat} {x : Int32} (hk : jKd S o ci 0) (hc : ci < 8) (hj : j < (jC ci).2.2) (hr : jrf ci j = false) : (jws w S I).set o (w.1 + o, .inr (ci, (jobj w S I o).set j (.int x))) = jws w S (jset I o j x) := by
  refine jws_set rfl ?_ (fun a ha hne => ?_)
  · rw [jcell_o hk hc]
    congr 2
    apply List.ext_getElem?
    intro b
    by_cases hb : b < (jC ci).2.2
    · rw [jobj_at hk hb]
      by_cases hbj : j = b
      · subst hbj
        rw [List.getElem?_set_self (by rw [jobj_len hk]; exact hj)]
        simp [hr, jset]
      · rw [List.getElem?_set_ne hbj, jobj_at hk hb]
        simp only [jset, true_and, if_neg (fun h => hbj (Eq.symm h) : ¬ b = j)]
    · rw [List.getElem?_eq_none (by rw [List.length_set, jobj_len hk]; omega), List.getElem?_eq_none (by rw [jobj_len hk]; omega)]
  · have hf : jset I o j x a = I a := by funext b; simp [jset, hne]
    simp [jcell, jobj, hf]
theorem jput {p : Program} {l : Launch} {e : Env} {R : Room} {s : State} {m : MethodId} {args : Array Value} {below : List Frame} {meth : Method} {c : Code} {H : Heap} {locs : List Loc} {Q : State → Prop} {w : jW} {o ci j ix : Nat} {v : Value} {la : Array Slot} {rest : List Value} {cc : ByteArray} {own : String} {fs : List Value} {ws : va_W}
    (hx : p.tables.exec = Jvm.exec) (hb : c.code = cc) (hown : s.vm.findClass own = some m.cls) (hts : ∀ x ∈ jtw, x.before args s = true) (hK : jK w s) (hP : va_P w.2.2.1 vwCl ws H) (hD : va_D (fun q => w.1 ≤ q) ws) (hS : va_S (fun q => w.1 ≤ q) s.heap H locs)
    (hf : jFL own ix ci j) (he : ws[o]? = some (w.1 + o, .inr (ci, fs))) (hl : j < fs.length) (hfin : ((jC ci).2.1 j).2.2.2 = false ∨ (((jC ci).2.1 j).2.2.2 = true ∧ meth.name = "<init>" ∧ ((jC ci).2.1 j).1 = own ∧ (Cond.fieldLink own ix ((jC ci).2.1 j).1 ((jC ci).2.1 j).2.1 ((jC ci).2.1 j).2.2.1 ∈ jtw))) (hn : narrow (jty ci j) v = v) (hfit : fits (jty ci j) v = true) (hd : decode cc pc = .ok (.putfield ix, 3))
    (kk : ∀ (H1 : Heap) (locs1 : List Loc), H1.size = H.size → va_P w.2.2.1 vwCl (ws.set o (w.1 + o, .inr (ci, fs.set j v))) H1 → va_S (fun q => w.1 ≤ q) s.heap H1 locs1 → W p l e R s m args below meth c H1 locs1 k n Q (F0 m (pc + 3) la rest)) : W p l e R s m args below meth c H locs k n Q (F0 m pc la (v :: .ref (w.1 + o) :: rest)) := by
  obtain ⟨hc, hj, hw⟩ := hf
  have hap := va_apart (own := own) hts (jC_in hc) (jty ci) (jC_ty hc) (jC_nm hc) hK.1 (jC_at hc)
  obtain ⟨r, h1, cell, q1, q2, q3, q4⟩ := hP o _ he
  have hr : r = jC ci := Option.some.inj (h1.symm.trans (jC_at hc))
  subst hr
  obtain ⟨hSl, hfc, kC, hkC, hkind⟩ := hK.1.1 ci _ (jC_at hc)
  obtain ⟨cf, kf, fi, f, hi, hsl⟩ := hSl j hj
  have hlay := hts _ (jC_in hc _ (u_in_lay hj))
  have hst := (u_facts hfc hkC (u_lays hts (jC_in hc) hj) hi).1
  have fin : ∀ H' : Heap, H'[w.1 + o]? = some (cell.setSlot f.slot v) → H'.size = H.size → (∀ q, q ≠ w.1 + o → H'[q]? = H[q]?) → W p l e R s m args below meth c H' (locs ++ [⟨w.1 + o, f.slot⟩]) k n Q (F0 m (pc + 3) la rest) := by
    intro H' e1 e2 e3
    rw [hsl] at e1 ⊢
    exact kk H' _ e2 (hP.set hD he ⟨_, jC_at hc, t_OB.to (V := updV (vp_V fs) j v) ⟨_, e1, q2, q3, t_set q4 hap hj v⟩ (fun b _ => vp_updV_set hl v b)⟩ e3) (hS.put e2 e3 (show w.1 ≤ w.1 + o by omega))
  unfold u_lay at hlay
  rcases hfin with hfin | ⟨hfin, hin2, hdecl, hw1⟩
  · rw [if_neg (by rw [hfin]; decide)] at hlay
    have h6 := u_store hfc hkC hkind hlay hi (jC_ty hc j hj) hn hfit
    rcases hw with hw | ⟨host, hw⟩
    · exact W.putK hx hb (f := f) ⟨hown, hts _ hw, ⟨_, _, _, hi⟩, hst⟩ (by rw [q2]; exact h6) q1 q3 (by rw [hsl]; exact k2_hasslot (q4 j hj)) rfl rfl hd fin
    · exact va_WputK hx hb (f := f) hown (va_Nw.use rfl (hK.2.1 _ hw)) hi hst (by rw [q2]; exact h6) q1 q3 (by rw [hsl]; exact k2_hasslot (q4 j hj)) rfl rfl hd fin
  · rw [if_pos hfin] at hlay
    have hcf : m.cls = cf := by
      obtain ⟨_, _, c', _, _, _, -, -, hf', -, -, -, hown2, -⟩ := Cond.laysFinal_spec hlay
      have e1 : c' = cf := by have := hi.symm.trans hf'; simp at this; exact this.1.symm
      rw [hdecl] at hown2
      rw [← e1]; exact Option.some.inj (hown.symm.trans hown2)
    have h6 := u_fits hfc hkC hkind (Or.inr hlay) hi (jC_ty hc j hj) hn hfit
    exact W.putFinK hx hb hown (hts _ hw1) hi hst hcf hin2 (by rw [q2]; exact h6) q1 q3 (by rw [hsl]; exact k2_hasslot (q4 j hj)) rfl rfl hd fin

theorem J_putI {ix ci j o : Nat} {x : Int32} (hd : decode mt.2.1 pc = .ok (.putfield ix, 3)) (hf : jFL mt.1.cls ix ci j) (hr : jrf ci j = false) (hfin : ((jC ci).2.1 j).2.2.2 = false) (hn : narrow (jty ci j) (.int x) = .int x) (hfit : fits (jty ci j) (.int x) = true) (hk : jKd S o ci 0) (h : J G d mt (pc + 3) ls st S (jset I o j x) k n) : J G d mt pc ls (.int x :: .ref o :: st) S I k n := by
  obtain ⟨⟨p, l, e, R, s, m⟩, ⟨args, below, meth, c⟩, w, Q⟩ := G
  intro hF H locs la hz hP hS hl
  obtain ⟨⟨hx, hb, hml, hown, hts⟩, hK, hsz, hlk, hnm, hfr, hbud, hrt⟩ := id hF
  have he := jws_at w S I hk.1
  rw [jcell_o hk hf.1] at he
  refine jput (v := .int x) hx hb hown hts hK hP (jws_D w S I) hS hf he (by rw [jobj_len hk]; exact hf.2.1) (Or.inl hfin) hn hfit hd (fun H1 locs1 hz1 hP1 hS1 => ?_)
  rw [jws_put hk hf.1 hf.2.1 hr] at hP1
  exact h hF H1 locs1 la (hz1.trans hz) hP1 hS1 hl

theorem jtys_i (ca : Nat → ClassId) : (jtys ca)[0]? = some (ca 8, .int) := rfl
theorem jtys_c (ca : Nat → ClassId) : (jtys ca)[1]? = some (ca 9, .char) := rfl
theorem jtys_r {t : Nat} (ca : Nat → ClassId) (h1 : 10 ≤ t) (h2 : t < 13) : ∃ C, (jtys ca)[t - 8]? = some (ca t, .object C) := by
  match t, h1, h2 with
  | 10, _, _ => exact ⟨_, rfl⟩
  | 11, _, _ => exact ⟨_, rfl⟩
  | 12, _, _ => exact ⟨_, rfl⟩
theorem jtys_any {t : Nat} (ca : Nat → ClassId) (h1 : 8 ≤ t) (h2 : t < 13) : ∃ ty, (jtys ca)[t - 8]? = some (ca t, ty) := by
  match t, h1, h2 with
  | 8, _, _ => exact ⟨_, rfl⟩
  | 9, _, _ => exact ⟨_, rfl⟩
  | 10, _, _ => exact ⟨_, rfl⟩
  | 11, _, _ => exact ⟨_, rfl⟩
  | 12, _, _ => exact ⟨_, rfl⟩

theorem J_iaload {o N : Nat} {i : Int32} (hd : decode mt.2.1 pc = .ok (.iaload, 1)) (hk : jKd S o 8 N) (hi : vp_in i N) (h : J G d mt (pc + 1) ls (.int (I o i.toNatClampNeg) :: st) S I k n) : J G d mt pc ls (.int i :: .ref o :: st) S I k n := by
  obtain ⟨⟨p, l, e, R, s, m⟩, ⟨args, below, meth, c⟩, w, Q⟩ := G
  intro hF H locs la hz hP hS hl
  obtain ⟨⟨hx, hb, hml, hown, hts⟩, hK, hsz, hlk, hnm, hfr, hbud, hrt⟩ := id hF
  have he := jws_at w S I hk.1
  rw [jcell_i hk (Nat.le_refl 8) (by decide)] at he
  exact va_iald hx hb hK.1 hP o 0 he (jtys_i _) hi hd (h hF H locs la hz hP hS hl)

theorem J_caload {o N : Nat} {i : Int32} (hd : decode mt.2.1 pc = .ok (.caload, 1)) (hk : jKd S o 9 N) (hi : vp_in i N) (h : J G d mt (pc + 1) ls (.int (I o i.toNatClampNeg) :: st) S I k n) : J G d mt pc ls (.int i :: .ref o :: st) S I k n := by
  obtain ⟨⟨p, l, e, R, s, m⟩, ⟨args, below, meth, c⟩, w, Q⟩ := G
  intro hF H locs la hz hP hS hl
  obtain ⟨⟨hx, hb, hml, hown, hts⟩, hK, hsz, hlk, hnm, hfr, hbud, hrt⟩ := id hF
  have he := jws_at w S I hk.1
  rw [jcell_i hk (by decide) (by decide)] at he
  exact va_cald hx hb hK.1 hP o 1 he (jtys_c _) hi hd (h hF H locs la hz hP hS hl)

theorem J_aaload {o t N q : Nat} {i : Int32} (hd : decode mt.2.1 pc = .ok (.aaload, 1)) (hk : jKd S o t N) (ht : 10 ≤ t ∧ t < 13) (hi : vp_in i N) (hq : S.2.2 o i.toNatClampNeg = some q) (h : J G d mt (pc + 1) ls (.ref q :: st) S I k n) : J G d mt pc ls (.int i :: .ref o :: st) S I k n := by
  obtain ⟨⟨p, l, e, R, s, m⟩, ⟨args, below, meth, c⟩, w, Q⟩ := G
  intro hF H locs la hz hP hS hl
  obtain ⟨⟨hx, hb, hml, hown, hts⟩, hK, hsz, hlk, hnm, hfr, hbud, hrt⟩ := id hF
  have he := jws_at w S I hk.1
  rw [jcell_r hk ht.1] at he
  obtain ⟨C, hC⟩ := jtys_r w.2.2.2 ht.1 ht.2
  refine va_aldq hx hb hK.1 hP o (t - 8) he hC hi hd ?_
  rw [hq]
  exact h hF H locs la hz hP hS hl

theorem J_alen {o t N : Nat} {x : Int32} (hd : decode mt.2.1 pc = .ok (.arraylength, 1)) (hk : jKd S o t N) (ht : 8 ≤ t ∧ t < 13) (hx0 : Int32.ofNat N = x) (h : J G d mt (pc + 1) ls (.int x :: st) S I k n) : J G d mt pc ls (.ref o :: st) S I k n := by
  obtain ⟨⟨p, l, e, R, s, m⟩, ⟨args, below, meth, c⟩, w, Q⟩ := G
  intro hF H locs la hz hP hS hl
  obtain ⟨⟨hx, hb, hml, hown, hts⟩, hK, hsz, hlk, hnm, hfr, hbud, hrt⟩ := id hF
  have he := jws_at w S I hk.1
  obtain ⟨ty, hC⟩ := jtys_any w.2.2.2 ht.1 ht.2
  have h := h hF H locs la hz hP hS hl
  by_cases h10 : t < 10
  · rw [jcell_i hk ht.1 h10] at he
    exact va_alen hx hb hK.1 hP o (t - 8) he hC hx0 hd h
  · rw [jcell_r hk (by omega)] at he
    exact va_alen hx hb hK.1 hP o (t - 8) he hC hx0 hd h
theorem jws_sti {w : jW} {S : jX} {I : jI} {o t N j : Nat} {x : Int32} (hk : jKd S o t N) (h1 : 8 ≤ t) (h2 : t < 10) : (jws w S I).set o (w.1 + o, .inl (w.2.2.2 t, N, .inl (upd (I o) j x))) = jws w S (jset I o j x) := by
  refine jws_set rfl ?_ (fun a ha hne => ?_)
  · rw [jcell_i hk h1 h2]
    have hf : jset I o j x o = upd (I o) j x := by funext b; simp [jset, upd]
    rw [hf]
  · have hf : jset I o j x a = I a := by funext b; simp [jset, hne]
    simp [jcell, jobj, hf]

theorem J_iastore {o N : Nat} {i x : Int32} (hd : decode mt.2.1 pc = .ok (.iastore, 1)) (hk : jKd S o 8 N) (hi : vp_in i N) (h : J G d mt (pc + 1) ls st S (jset I o i.toNatClampNeg x) k n) : J G d mt pc ls (.int x :: .int i :: .ref o :: st) S I k n := by
  obtain ⟨⟨p, l, e, R, s, m⟩, ⟨args, below, meth, c⟩, w, Q⟩ := G
  intro hF H locs la hz hP hS hl
  obtain ⟨⟨hx, hb, hml, hown, hts⟩, hK, hsz, hlk, hnm, hfr, hbud, hrt⟩ := id hF
  have he := jws_at w S I hk.1
  rw [jcell_i hk (Nat.le_refl 8) (by decide)] at he
  refine W.iast hx hb (hP o _ he) ((hK.1.2 0 _ (jtys_i _)).1 N (fun j => .int (I o j))) (fun q => by cases q) (by show ¬ (i < 0 ∨ (arrV _ _ _).slots.size ≤ _); rw [arrV_size]; exact hi) rfl rfl hd fun H1 e1 z oq => ?_
  have hP1 : va_P w.2.2.1 vwCl ((jws w S I).set o (w.1 + o, .inl (w.2.2.2 8, N, .inl (upd (I o) i.toNatClampNeg x)))) H1 := by
    refine hP.set (jws_D w S I) he ?_ oq
    show H1[w.1 + o]? = some (vp_cell _ _)
    rw [e1, vp_cell_i, vp_cell_i, arrV_store]
    congr 2
    funext q
    by_cases hq : q = i.toNatClampNeg
    · subst hq
      simp [updV, upd]
    · simp [updV, upd, hq]
  rw [jws_sti hk (by decide) (by decide)] at hP1
  exact h hF H1 _ la (z.trans hz) hP1 (hS.put z oq (show w.1 ≤ w.1 + o by omega)) hl

theorem J_castore {o N : Nat} {i x : Int32} (hd : decode mt.2.1 pc = .ok (.castore, 1)) (hk : jKd S o 9 N) (hi : vp_in i N) (hx9 : vp_nar .char x = x) (h : J G d mt (pc + 1) ls st S (jset I o i.toNatClampNeg x) k n) : J G d mt pc ls (.int x :: .int i :: .ref o :: st) S I k n := by
  obtain ⟨⟨p, l, e, R, s, m⟩, ⟨args, below, meth, c⟩, w, Q⟩ := G
  intro hF H locs la hz hP hS hl
  obtain ⟨⟨hx, hb, hml, hown, hts⟩, hK, hsz, hlk, hnm, hfr, hbud, hrt⟩ := id hF
  have he := jws_at w S I hk.1
  rw [jcell_i hk (by decide) (by decide)] at he
  refine W.cast hx hb (hP o _ he) ((hK.1.2 1 _ (jtys_c _)).1 N (fun j => .int (I o j))) (fun q => by cases q) (by show ¬ (i < 0 ∨ (arrV _ _ _).slots.size ≤ _); rw [arrV_size]; exact hi) rfl rfl hd fun H1 e1 z oq => ?_
  have hP1 : va_P w.2.2.1 vwCl ((jws w S I).set o (w.1 + o, .inl (w.2.2.2 9, N, .inl (upd (I o) i.toNatClampNeg x)))) H1 := by
    refine hP.set (jws_D w S I) he ?_ oq
    show H1[w.1 + o]? = some (vp_cell _ _)
    rw [e1, vp_cell_i, vp_cell_i, arrV_store]
    congr 2
    funext q
    by_cases hq : q = i.toNatClampNeg
    · subst hq
      have : narrow .char (.int x) = .int (vp_nar .char x) := rfl
      simp [updV, upd]
      rw [this, hx9]
    · simp [updV, upd, hq]
  rw [jws_sti hk (by decide) (by decide)] at hP1
  exact h hF H1 _ la (z.trans hz) hP1 (hS.put z oq (show w.1 ≤ w.1 + o by omega)) hl

theorem J_gets {ix : Nat} {host : String} (hd : decode mt.2.1 pc = .ok (.getstatic ix, 3)) (hw : Cond.fieldLinkNest mt.1.cls ix RX6 "GREATEST_SETTINGS" "[I" host ∈ jnw) (h : J G d mt (pc + 3) ls (.retAddr 0 :: st) S I k n) : J G d mt pc ls st S I k n := by
  obtain ⟨⟨p, l, e, R, s, m⟩, ⟨args, below, meth, c⟩, w, Q⟩ := G
  intro hF H locs la hz hP hS hl
  obtain ⟨⟨hx, hb, hml, hown, hts⟩, hK, hsz, hlk, hnm, hfr, hbud, hrt⟩ := id hF
  obtain ⟨cf, kf, fi, f, a, cell, h1, h2, h3, h4, h5, h6, h7, h8⟩ := hK.2.2.2.1
  exact va_WgetsN hx hb hown (va_Nw.use rfl (hK.2.1 _ hw)) h1 h2 h3 h4 (by rw [hS.2.1 a (Array.getElem?_eq_some_iff.mp h5).1 h8]; exact h5) (fun e => by rw [e] at h6; cases h6) h7 rfl hd (h hF H locs la hz hP hS hl)

theorem J_slen (hd : decode mt.2.1 pc = .ok (.arraylength, 1)) (h : J G d mt (pc + 1) ls (.int 4 :: st) S I k n) : J G d mt pc ls (.retAddr 0 :: st) S I k n := by
  obtain ⟨⟨p, l, e, R, s, m⟩, ⟨args, below, meth, c⟩, w, Q⟩ := G
  intro hF H locs la hz hP hS hl
  obtain ⟨⟨hx, hb, hml, hown, hts⟩, hK, hsz, hlk, hnm, hfr, hbud, hrt⟩ := id hF
  exact va_tlen hx hb hK.2.2.2.2 hS rfl hd (h hF H locs la hz hP hS hl)

theorem J_sld {i : Int32} (hd : decode mt.2.1 pc = .ok (.iaload, 1)) (hi : vp_in i 4) (h : J G d mt (pc + 1) ls (.int (jgs i.toNatClampNeg) :: st) S I k n) : J G d mt pc ls (.int i :: .retAddr 0 :: st) S I k n := by
  obtain ⟨⟨p, l, e, R, s, m⟩, ⟨args, below, meth, c⟩, w, Q⟩ := G
  intro hF H locs la hz hP hS hl
  obtain ⟨⟨hx, hb, hml, hown, hts⟩, hK, hsz, hlk, hnm, hfr, hbud, hrt⟩ := id hF
  exact va_ti (N := 4) hx hb hK.2.2.2.2 hS hi rfl hd (h hF H locs la hz hP hS hl)

end JH
end
section
/-- what a method's end may say -/
def jR (G : jG) (d : Nat × Nat × Nat) (Φ : Option Value → jX → jI → Prop) : Prop :=
  match G with
  | ((p, l, e, R, s, m), (args, below, meth, c), w, Q) => Q = MQ below (jQ w Φ) args s d.2.1 d.2.2 (fun q => w.1 ≤ q)
def jRes (r : Option Value) (S : jX) (I : jI) : Option Value → jX → jI → Prop := fun v S' I' => v = r ∧ S' = S ∧ I' = I
theorem jM.mono {d : Nat × Nat × Nat} {mt : jMt} {as : List Value} {S : jX} {I : jI} {Φ Ψ : Option Value → jX → jI → Prop} (h : jM d mt as S I Φ) (hi : ∀ v S' I', Φ v S' I' → Ψ v S' I') : jM d mt as S I Ψ := by
  intro l w
  intro p e ha hc hk s m args below hf happ hP hK
  obtain ⟨q, o, g1, g2, g3, ⟨v, S', I', h1, h2, h3⟩, hL⟩ := h l w p e ha hc hk s m args below hf happ hP hK
  exact ⟨q, o, g1, g2, g3, ⟨v, S', I', h1, hi _ _ _ h2, h3⟩, hL⟩
theorem jl_entry (w : jW) : ∀ (as : List Value) (b n : Nat), (∀ v ∈ as, v.category = 1) → jl w b (as ++ List.replicate n (.long 0)) = lv_args b (as.map (jv w))
  | [], b, 0, _ => rfl
  | [], b, n + 1, h => by
    show jl w b (.long 0 :: ([] ++ List.replicate n (.long 0))) = _
    unfold jl
    rw [if_pos (show (Value.long 0).category = 2 from rfl), jl_entry w [] (b + 1) n h]
    rfl
  | v :: as, b, n, h => by
    have hv : v.category = 1 := h v List.mem_cons_self
    have h2 : ¬ v.category = 2 := by omega
    have h3 : ¬ (jv w v).category = 2 := by rw [jv_cat]; omega
    show jl w b (v :: (as ++ List.replicate n (.long 0))) = lv_args b (jv w v :: as.map (jv w))
    unfold jl lv_args
    rw [if_neg h2, if_neg h3, jl_entry w as (b + 1) n (fun u hu => h u (List.mem_cons_of_mem _ hu))]
theorem jM.of {d : Nat × Nat × Nat} {mt : jMt} {as ls : List Value} {S : jX} {I : jI} {Φ : Option Value → jX → jI → Prop} (hy : plainName mt.1.cls = true) (hn : as.length ≤ mt.2.2.1) (hcat : ∀ v ∈ as, v.category = 1) (hls : as ++ List.replicate (mt.2.2.1 - as.length) (.long 0) = ls)
    (h : ∀ G : jG, jR G d Φ → J G d mt 0 ls [] S I 0 0) : jM d mt as S I Φ := by
  intro l w
  refine Met.ofW (cc := mt.2.1) (maxL := mt.2.2.1) (ret := mt.2.2.2) hy rfl ?_
  intro p e s m args below meth c s₁ B hml hv
  obtain ⟨rfl, hsz, hP, hK⟩ := hv
  have hlen : (lg_sl (as.map (jv w))).length = as.length := by
    have : ∀ (xs : List Value), (∀ v ∈ xs, v.category = 1) → (lg_sl (xs.map (jv w))).length = xs.length := by
      intro xs
      induction xs with
      | nil => intro _; rfl
      | cons v xs ih =>
        intro hx
        have h1 : ¬ (jv w v).category = 2 := by rw [jv_cat, hx v List.mem_cons_self]; decide
        have h2 := ih (fun u hu => hx u (List.mem_cons_of_mem _ hu))
        simp only [lg_sl, List.map_cons, List.flatMap_cons, if_neg h1, List.length_append, List.length_cons, List.length_nil] at h2 ⊢
        omega
    exact this as hcat
  have hl := lv_entry (as.map (jv w)) (n := mt.2.2.1) (by rw [hlen]; exact hn)
  rw [lg_entry_eq]
  generalize (lg_sl (as.map (jv w)) ++ List.replicate (mt.2.2.1 - (lg_sl (as.map (jv w))).length) Slot.unset).toArray = la at hl ⊢
  rw [← jl_entry w as 0 (mt.2.2.1 - as.length) hcat, hls] at hl
  exact h ((p, l, e, _, s, m), (_, below, meth, c), w, _) rfl ⟨⟨B.exec, B.bytes, hml, findClass_of_methodNamed B.named, fun x hx => atoms_spec (ws := Cond.code mt.1 mt.2.1 mt.2.2.1 mt.2.2.2 :: jtw) B.pre _ (List.mem_cons_of_mem _ hx)⟩, hK, by rw [hsz]; omega, B.notSynchronized, (name_of_methodNamed B.named B.method).1, ⟨Nat.le_refl _, Nat.le_refl _⟩, ⟨Nat.le_refl _, Nat.le_refl _⟩, B.returns⟩ s.heap [] la hsz hP va_S.rf hl
/-- a method's link, and what the tables say of the method -/
def jML (own : String) (ix : Nat) (y : MethodName) : Prop := Cond.methodLink own ix y ∈ jtw ∨ ∃ host, Cond.methodLinkNest own ix y host ∈ jnw
def jOk (mt : jMt) (n : Nat) : Prop := Cond.code mt.1 mt.2.1 mt.2.2.1 mt.2.2.2 ∈ jtw ∧ Cond.initialized mt.1.cls ∈ jtw ∧ (mt.1.cls ≠ "java/lang/invoke/MethodHandle" ∧ mt.1.cls ≠ "java/lang/invoke/VarHandle" ∧ (parseMethodDescriptor mt.1.desc).map (fun d => d.parameters.length) = some n) ∧ mt.2.2.1 ≤ 15
def jOkV (mt : jMt) (n : Nat) : Prop := jOk mt n ∧ Cond.instanceMethod mt.1 ∈ jtw ∧ Cond.selects mt.1.cls mt.1 mt.1 ∈ jtw
def jOkS (mt : jMt) (n : Nat) : Prop := jOk mt n ∧ Cond.static mt.1 ∈ jtw
def jOkI (mt : jMt) (n : Nat) : Prop := jOk mt n ∧ Cond.instanceMethod mt.1 ∈ jtw ∧ mt.1.name = "<init>" ∧ mt.2.2.2 = none
theorem jgood (mt : jMt) (h : Cond.code mt.1 mt.2.1 mt.2.2.1 mt.2.2.2 ∈ jtw) : GoodIn jtw (Cond.code mt.1 mt.2.1 mt.2.2.1 mt.2.2.2 :: jtw) := by
  intro w hw
  have hm : w ∈ jtw := by
    rcases List.mem_cons.mp hw with rfl | hw
    · exact h
    · exact hw
  exact ⟨hm, good_of_word (List.mem_filter.mp hm).2⟩
theorem jblind (w : jW) (S : jX) (I : jI) (av : List Value) : FrameBlind (va_Pc av (jP w S I)) := by
  rintro a U g mk ⟨h1, h2, h3, h4⟩
  exact ⟨h1, h2, h3, h4.calling⟩
theorem jgo {p : Program} {l : Launch} {e : Env} {R : Room} {s : State} {m : MethodId} {args : Array Value} {below : List Frame} {meth : Method} {c : Code} {H : Heap} {locs : List Loc} {Q : State → Prop} {k n mc ms pc : Nat} {la : Array Slot} {st0 rest : List Value} {w : jW} {Φ : Option Value → jX → jI → Prop} {a : Array Value}
    (hr : va_Run p l e R s m args below meth c H locs k n mc ms (F0 m pc la st0) rest (jQ w Φ a) (fun q => w.1 ≤ q)) (hS : va_S (fun q => w.1 ≤ q) s.heap H locs)
    (kk : ∀ (v : Option Value) (S' : jX) (I' : jI) (H1 : Heap) (locs1 : List Loc), Φ v S' I' → H1.size = w.1 + S'.1 → va_P w.2.2.1 vwCl (jws w S' I') H1 → va_S (fun q => w.1 ≤ q) s.heap H1 locs1 → W p l e R s m args below meth c H1 locs1 (k + mc) (n + ms) Q (F0 m (pc + 3) la ((v.map (jv w)).toList ++ rest))) : W p l e R s m args below meth c H locs k n Q (F0 m pc la st0) := by
  intro T hT X
  obtain ⟨v0, st₀, t, T', L, h0, X', hL, e1, e2, ⟨v, S', I', hv, hp, hz1, hP1, hz, hk⟩, stp⟩ := hr T hT X
  cases hv
  rw [h0] at hz hk
  obtain ⟨t2, a1, b1⟩ := kk v S' I' T'.heap (locs ++ L) hp (by rw [e1]; exact hz1) (by rw [e1]; exact hP1)
    ⟨Nat.le_trans hS.1 (by rw [e1]; exact hz), fun q h1 h2 => by rw [e1, hk q (Nat.lt_of_lt_of_le h1 hS.1) h2]; exact hS.2.1 q h1 h2, fun q hq => by
      rcases List.mem_append.mp hq with h | h
      · exact hS.2.2 q h
      · exact hL q h⟩ T' rfl X'
  exact ⟨t2, stp t2 a1, b1⟩
theorem jroom (w : jW) {m : MethodId} {pc : Nat} {la : Array Slot} {st rest : List Value} (h : rest.length ≤ 4) : 2 * (F0 m pc la st).monitorRoom + ((rest.map (jv w)).map fun v => v.category).sum ≤ 8 := by
  refine lv_room ?_
  have : ∀ xs : List Value, ((xs.map (jv w)).map fun v => v.category).sum ≤ 2 * xs.length := by
    intro xs
    induction xs with
    | nil => exact Nat.le_refl _
    | cons v xs ih =>
      have hc : (jv w v).category ≤ 2 := by rcases lv_cat (jv w v) with h | h <;> omega
      simp only [List.map_cons, List.sum_cons, List.length_cons]
      omega
  have := this rest
  omega
section JK
variable {G : jG} {d d' : Nat × Nat × Nat} {mt mc : jMt} {pc ix : Nat} {ls st rest As : List Value} {S : jX} {I : jI} {k n : Nat} {Φ : Option Value → jX → jI → Prop}

theorem J_callV {o ci : Nat} (hk : jKd S o ci 0) (hci : ci < 8) (hcc : (jC ci).1 = mc.1.cls) (hd : decode mt.2.1 pc = .ok (.invokevirtual ix, 3)) (hL : jML mt.1.cls ix mc.1) (hy : jOkV mc As.length) (hM : jM d' mc (.ref o :: As) S I Φ) (hdd : d'.1 + 1 ≤ d.1) (hk1 : k + d'.2.1 ≤ d.2.1) (hn1 : n + d'.2.2 ≤ d.2.2) (hlen : rest.length ≤ 4) (hst : st = As.reverse ++ .ref o :: rest)
    (h : ∀ v S' I', Φ v S' I' → J G d mt (pc + 3) ls (v.toList ++ rest) S' I' (k + d'.2.1) (n + d'.2.2)) : J G d mt pc ls st S I k n := by
  obtain ⟨⟨p, l, e, R, s, m⟩, ⟨args, below, meth, c⟩, w, Q⟩ := G
  intro hF H locs la hz hP hS hl
  obtain ⟨⟨hx, hb, hml, hown, hts⟩, hK, hsz, hlk, hnm, hfr, hbud, hrt⟩ := id hF
  subst hst
  obtain ⟨⟨hcode, hini, hdsc, h15⟩, hinst, hsel⟩ := hy
  have he := jws_at w S I hk.1
  rw [jcell_o hk hci] at he
  have hpre : PreV s H mc.1.cls (w.1 + o) (va_Pc ((.ref o :: As).map (jv w)) (jP w S I)) (As.map (jv w)) := by
    refine ⟨jblind _ _ _ _, ?_, fun U hU hW => ⟨rfl, by rw [hU]; exact hz, by rw [hU]; exact hP, hK.next hS hU hW⟩⟩
    rw [← hcc]
    exact va_recv hK.1 hP (jC_at hci) he
  have hR : (({ frames := d'.1, cells := d'.2.1, slots := d'.2.2, locals := 34 * d'.1 } : Room)).frames + 1 ≤ R.frames ∧ 8 + (mc.2.2.1 + 11) + (({ frames := d'.1, cells := d'.2.1, slots := d'.2.2, locals := 34 * d'.1 } : Room)).locals ≤ R.locals := by
    refine ⟨?_, ?_⟩ <;> dsimp only <;> omega
  have hfit : k + d'.2.1 ≤ R.cells ∧ n + d'.2.2 ≤ R.slots := ⟨by omega, by omega⟩
  have hstk : (As.reverse ++ .ref o :: rest).map (jv w) = (As.map (jv w)).reverse ++ .ref (w.1 + o) :: rest.map (jv w) := by simp [jv]
  have hrun : va_Run p l e R s m args below meth c H locs k n d'.2.1 d'.2.2 (F0 m pc la ((As.reverse ++ .ref o :: rest).map (jv w))) (rest.map (jv w)) (jQ w Φ (Value.ref (w.1 + o) :: As.map (jv w)).toArray) (fun q => w.1 ≤ q) := by
    rcases hL with hL | ⟨host, hL⟩
    · have cw : CallW R s args mt.1.cls mc.1.cls ix mc.1 mc.2.1 mc.2.2.1 mc.2.2.2 (Cond.code mc.1 mc.2.1 mc.2.2.1 mc.2.2.2 :: jtw) ({ frames := d'.1, cells := d'.2.1, slots := d'.2.2, locals := 34 * d'.1 } : Room) d'.2.1 d'.2.2 As.length :=
        ⟨callB_of As.length hts (jgood mc hcode) rfl rfl rfl (hts _ hini) (hts _ hL) hdsc hR, hts _ hinst, hts _ hsel⟩
      exact va_runV ⟨hx, hb, hml, hown, hts⟩ (hM l w) cw hpre rfl (by simp) hl.1 hstk (jroom w hlen) hd hfit
    · have cw : va_CN R s args mt.1.cls ix mc.1 host mc.2.1 mc.2.2.1 mc.2.2.2 (Cond.code mc.1 mc.2.1 mc.2.2.1 mc.2.2.2 :: jtw) ({ frames := d'.1, cells := d'.2.1, slots := d'.2.2, locals := 34 * d'.1 } : Room) d'.2.1 d'.2.2 As.length :=
        va_cnB As.length hts (jgood mc hcode) rfl rfl rfl (hK.2.1 _ hL) (hts _ hini) hdsc hR
      exact va_runVN (C := mc.1.cls) ⟨hx, hb, hml, hown, hts⟩ (hM l w) ⟨cw, hts _ hinst, hts _ hsel⟩ hpre rfl (by simp) hl.1 hstk (jroom w hlen) hd hfit
  refine jgo hrun hS (fun v S' I' H1 locs1 hφ hz1 hP1 hS1 => ?_)
  have h := h v S' I' hφ hF H1 locs1 la hz1 hP1 hS1 hl
  rw [List.map_append] at h
  cases v <;> exact h

theorem J_callS  (hd : decode mt.2.1 pc = .ok (.invokestatic ix, 3)) (hL : jML mt.1.cls ix mc.1) (hy : jOkS mc As.length) (hM : jM d' mc (As) S I Φ) (hdd : d'.1 + 1 ≤ d.1) (hk1 : k + d'.2.1 ≤ d.2.1) (hn1 : n + d'.2.2 ≤ d.2.2) (hlen : rest.length ≤ 4) (hst : st = As.reverse ++ rest)
    (h : ∀ v S' I', Φ v S' I' → J G d mt (pc + 3) ls (v.toList ++ rest) S' I' (k + d'.2.1) (n + d'.2.2)) : J G d mt pc ls st S I k n := by
  obtain ⟨⟨p, l, e, R, s, m⟩, ⟨args, below, meth, c⟩, w, Q⟩ := G
  intro hF H locs la hz hP hS hl
  obtain ⟨⟨hx, hb, hml, hown, hts⟩, hK, hsz, hlk, hnm, hfr, hbud, hrt⟩ := id hF
  subst hst
  obtain ⟨⟨hcode, hini, hdsc, h15⟩, hstat⟩ := hy
  have hpre : PreS s H (va_Pc (As.map (jv w)) (jP w S I)) (As.map (jv w)) :=
    ⟨jblind _ _ _ _, fun U hU hW => ⟨rfl, by rw [hU]; exact hz, by rw [hU]; exact hP, hK.next hS hU hW⟩⟩
  have hR : (({ frames := d'.1, cells := d'.2.1, slots := d'.2.2, locals := 34 * d'.1 } : Room)).frames + 1 ≤ R.frames ∧ 8 + (mc.2.2.1 + 11) + (({ frames := d'.1, cells := d'.2.1, slots := d'.2.2, locals := 34 * d'.1 } : Room)).locals ≤ R.locals := by
    refine ⟨?_, ?_⟩ <;> dsimp only <;> omega
  have hfit : k + d'.2.1 ≤ R.cells ∧ n + d'.2.2 ≤ R.slots := ⟨by omega, by omega⟩
  have hstk : (As.reverse ++ rest).map (jv w) = (As.map (jv w)).reverse ++ rest.map (jv w) := by simp
  have hrun : va_Run p l e R s m args below meth c H locs k n d'.2.1 d'.2.2 (F0 m pc la ((As.reverse ++ rest).map (jv w))) (rest.map (jv w)) (jQ w Φ (As.map (jv w)).toArray) (fun q => w.1 ≤ q) := by
    rcases hL with hL | ⟨host, hL⟩
    · have cw : CallB R s args mt.1.cls ix mc.1 mc.2.1 mc.2.2.1 mc.2.2.2 (Cond.code mc.1 mc.2.1 mc.2.2.1 mc.2.2.2 :: jtw) ({ frames := d'.1, cells := d'.2.1, slots := d'.2.2, locals := 34 * d'.1 } : Room) d'.2.1 d'.2.2 As.length :=
        callB_of As.length hts (jgood mc hcode) rfl rfl rfl (hts _ hini) (hts _ hL) hdsc hR
      exact va_runS ⟨hx, hb, hml, hown, hts⟩ (hM l w) ⟨cw, hts _ hstat⟩ hpre rfl (by simp) hl.1 hstk (jroom w hlen) hd hfit
    · have cw : va_CN R s args mt.1.cls ix mc.1 host mc.2.1 mc.2.2.1 mc.2.2.2 (Cond.code mc.1 mc.2.1 mc.2.2.1 mc.2.2.2 :: jtw) ({ frames := d'.1, cells := d'.2.1, slots := d'.2.2, locals := 34 * d'.1 } : Room) d'.2.1 d'.2.2 As.length :=
        va_cnB As.length hts (jgood mc hcode) rfl rfl rfl (hK.2.1 _ hL) (hts _ hini) hdsc hR
      exact va_runSN ⟨hx, hb, hml, hown, hts⟩ (hM l w) ⟨cw, hts _ hstat, trivial⟩ hpre rfl (by simp) hl.1 hstk (jroom w hlen) hd hfit
  refine jgo hrun hS (fun v S' I' H1 locs1 hφ hz1 hP1 hS1 => ?_)
  have h := h v S' I' hφ hF H1 locs1 la hz1 hP1 hS1 hl
  rw [List.map_append] at h
  cases v <;> exact h

theorem J_callI {o : Nat} (hd : decode mt.2.1 pc = .ok (.invokespecial ix, 3)) (hL : jML mt.1.cls ix mc.1) (hy : jOkI mc As.length) (hM : jM d' mc (.ref o :: As) S I Φ) (hdd : d'.1 + 1 ≤ d.1) (hk1 : k + d'.2.1 ≤ d.2.1) (hn1 : n + d'.2.2 ≤ d.2.2) (hlen : rest.length ≤ 4) (hst : st = As.reverse ++ .ref o :: rest)
    (h : ∀ v S' I', Φ v S' I' → J G d mt (pc + 3) ls (v.toList ++ rest) S' I' (k + d'.2.1) (n + d'.2.2)) : J G d mt pc ls st S I k n := by
  obtain ⟨⟨p, l, e, R, s, m⟩, ⟨args, below, meth, c⟩, w, Q⟩ := G
  intro hF H locs la hz hP hS hl
  obtain ⟨⟨hx, hb, hml, hown, hts⟩, hK, hsz, hlk, hnm, hfr, hbud, hrt⟩ := id hF
  subst hst
  obtain ⟨⟨hcode, hini, hdsc, h15⟩, hinst, hnm1, hret⟩ := hy
  obtain ⟨my, mb, mn, mr⟩ := mc
  dsimp only at hret hcode hini hdsc h15 hinst hnm1 hL
  subst hret
  have hpre : PreS s H (va_Pc ((.ref o :: As).map (jv w)) (jP w S I)) (.ref (w.1 + o) :: As.map (jv w)) :=
    ⟨jblind _ _ _ _, fun U hU hW => ⟨rfl, by rw [hU]; exact hz, by rw [hU]; exact hP, hK.next hS hU hW⟩⟩
  have hR : (({ frames := d'.1, cells := d'.2.1, slots := d'.2.2, locals := 34 * d'.1 } : Room)).frames + 1 ≤ R.frames ∧ 8 + (mn + 11) + (({ frames := d'.1, cells := d'.2.1, slots := d'.2.2, locals := 34 * d'.1 } : Room)).locals ≤ R.locals := by
    refine ⟨?_, ?_⟩ <;> dsimp only <;> omega
  have hfit : k + d'.2.1 ≤ R.cells ∧ n + d'.2.2 ≤ R.slots := ⟨by omega, by omega⟩
  have hstk : (As.reverse ++ .ref o :: rest).map (jv w) = (As.map (jv w)).reverse ++ .ref (w.1 + o) :: rest.map (jv w) := by simp [jv]
  have hrun : va_Run p l e R s m args below meth c H locs k n d'.2.1 d'.2.2 (F0 m pc la ((As.reverse ++ .ref o :: rest).map (jv w))) (rest.map (jv w)) (jQ w Φ (Value.ref (w.1 + o) :: As.map (jv w)).toArray) (fun q => w.1 ≤ q) := by
    rcases hL with hL | ⟨host, hL⟩
    · have cw : CallB R s args mt.1.cls ix my mb mn none (Cond.code my mb mn none :: jtw) ({ frames := d'.1, cells := d'.2.1, slots := d'.2.2, locals := 34 * d'.1 } : Room) d'.2.1 d'.2.2 As.length :=
        callB_of As.length hts (jgood (my, mb, mn, none) hcode) rfl rfl rfl (hts _ hini) (hts _ hL) hdsc hR
      exact va_runI ⟨hx, hb, hml, hown, hts⟩ (hM l w) ⟨cw, hnm1, hts _ hinst⟩ hpre rfl (by simp) hl.1 hstk (jroom w hlen) hd hfit
    · have cw : va_CN R s args mt.1.cls ix my host mb mn none (Cond.code my mb mn none :: jtw) ({ frames := d'.1, cells := d'.2.1, slots := d'.2.2, locals := 34 * d'.1 } : Room) d'.2.1 d'.2.2 As.length :=
        va_cnB As.length hts (jgood (my, mb, mn, none) hcode) rfl rfl rfl (hK.2.1 _ hL) (hts _ hini) hdsc hR
      exact va_runIN ⟨hx, hb, hml, hown, hts⟩ (hM l w) ⟨cw, hnm1, hts _ hinst⟩ hpre rfl (by simp) hl.1 hstk (jroom w hlen) hd hfit
  refine jgo hrun hS (fun v S' I' H1 locs1 hφ hz1 hP1 hS1 => ?_)
  have h := h v S' I' hφ hF H1 locs1 la hz1 hP1 hS1 hl
  rw [List.map_append] at h
  cases v <;> exact h

theorem jend {w : jW} {s t : State} {H : Heap} {locs : List Loc} {S : jX} {I : jI} {v : Option Value} {a : Array Value} (hz : H.size = w.1 + S.1) (hP : va_P w.2.2.1 vwCl (jws w S I) H) (hS : va_S (fun q => w.1 ≤ q) s.heap H locs) (hφ : Φ v S I) (ht : t.heap = H) : jQ w Φ a s (.returned (v.map (jv w))) t :=
  ⟨v, S, I, rfl, hφ, by rw [ht]; exact hz, by rw [ht]; exact hP, hS.F ht⟩
theorem J_iret {x : Int32} {ty : FieldType} (hR : jR G d Φ) (hd : decode mt.2.1 pc = .ok (.ireturn, 1)) (hty : mt.2.2.2 = some ty) (hnr : narrow ty (.int x) = .int x) (hk : k ≤ d.2.1) (hn : n ≤ d.2.2) (hφ : Φ (some (.int x)) S I) : J G d mt pc ls [.int x] S I k n := by
  obtain ⟨⟨p, l, e, R, s, m⟩, ⟨args, below, meth, c⟩, w, Q⟩ := G
  intro hF H locs la hz hP hS hl
  obtain ⟨⟨hx, hb, hml, hown, hts⟩, hK, hsz, hlk, hnm, hfr, hbud, hrt⟩ := id hF
  have hR : Q = _ := hR
  subst hR
  refine W.widen (k := d.2.1) (n := d.2.2) hk hn ?_
  exact W.zret hx hb (hrt.trans hty) hnr (fun t ht hW => jend (v := some (.int x)) hz hP hS hφ ht) hS.2.2 hd hlk
theorem J_vret (hR : jR G d Φ) (hd : decode mt.2.1 pc = .ok (.return_, 1)) (hty : mt.2.2.2 = none) (hk : k ≤ d.2.1) (hn : n ≤ d.2.2) (hφ : Φ none S I) : J G d mt pc ls [] S I k n := by
  obtain ⟨⟨p, l, e, R, s, m⟩, ⟨args, below, meth, c⟩, w, Q⟩ := G
  intro hF H locs la hz hP hS hl
  obtain ⟨⟨hx, hb, hml, hown, hts⟩, hK, hsz, hlk, hnm, hfr, hbud, hrt⟩ := id hF
  have hR : Q = _ := hR
  subst hR
  refine W.widen (k := d.2.1) (n := d.2.2) hk hn ?_
  exact W.vret hx hb (hrt.trans hty) (fun t ht hW => jend (v := none) hz hP hS hφ ht) hS.2.2 hd hlk
theorem J_aret {v : Value} {C : String} (hR : jR G d Φ) (hd : decode mt.2.1 pc = .ok (.areturn, 1)) (hty : mt.2.2.2 = some (.object C)) (hv : jisRef v = true) (hk : k ≤ d.2.1) (hn : n ≤ d.2.2) (hφ : Φ (some v) S I) : J G d mt pc ls [v] S I k n := by
  obtain ⟨⟨p, l, e, R, s, m⟩, ⟨args, below, meth, c⟩, w, Q⟩ := G
  intro hF H locs la hz hP hS hl
  obtain ⟨⟨hx, hb, hml, hown, hts⟩, hK, hsz, hlk, hnm, hfr, hbud, hrt⟩ := id hF
  have hR : Q = _ := hR
  subst hR
  refine W.widen (k := d.2.1) (n := d.2.2) hk hn ?_
  refine W.aret hx hb (hrt.trans hty) (Or.inl ⟨C, rfl⟩) ?_ (fun t ht hW => jend (v := some v) hz hP hS hφ ht) hS.2.2 hd hlk
  cases v <;> first | exact Or.inl rfl | exact Or.inr ⟨_, rfl⟩ | cases hv
theorem J_objInit {o : Nat} (hd : decode mt.2.1 pc = .ok (.invokespecial ix, 3)) (hL : Cond.methodLink mt.1.cls ix objectInit ∈ jtw) (hI : Cond.instanceMethod objectInit ∈ jtw) (hC : Cond.code objectInit ⟨#[0xb1]⟩ 1 none ∈ jtw) (hd1 : 1 ≤ d.1) (hlen : rest.length ≤ 4) (h : J G d mt (pc + 3) ls rest S I k n) : J G d mt pc ls (.ref o :: rest) S I k n := by
  obtain ⟨⟨p, l, e, R, s, m⟩, ⟨args, below, meth, c⟩, w, Q⟩ := G
  intro hF H locs la hz hP hS hl
  obtain ⟨⟨hx, hb, hml, hown, hts⟩, hK, hsz, hlk, hnm, hfr, hbud, hrt⟩ := id hF
  refine W.objInit hx hb hown (hts _ hL) (hts _ hI) (hts _ hC) rfl (hl.1.trans hml.symm) rfl hd (by omega) ?_ (h hF H locs la hz hP hS hl)
  have := jroom w (m := m) (pc := pc) (la := la) (st := .ref o :: rest) hlen
  have h2 : (F0 m pc la (List.map (jv w) (.ref o :: rest))).monitorRoom = (F0 m pc la (.ref o :: rest)).monitorRoom := rfl
  rw [h2]
  omega
end JK
end
section
/-- a new cell; its ints 0, its references null -/
def jnS (S : jX) (t n : Nat) : jX := (S.1 + 1, fun a => if a = S.1 then (t, n) else S.2.1 a, fun a j => if a = S.1 then none else S.2.2 a j)
def jnI (S : jX) (I : jI) : jI := fun a j => if a = S.1 then 0 else I a j
def jsetR (S : jX) (o j q : Nat) : jX := (S.1, S.2.1, fun a b => if a = o ∧ b = j then some q else S.2.2 a b)
theorem jC_df {c : Nat} (h : c < 8) : ∀ k, k < (jC c).2.2 → defaultValue (jty c k) = if jrf c k = true then .null else .int 0 :=
  jlt8 (P := fun c => ∀ k, k < (jC c).2.2 → defaultValue (jty c k) = if jrf c k = true then .null else .int 0) (by decide +kernel) (by decide +kernel) (by decide +kernel) (by decide +kernel) (by decide +kernel) (by decide +kernel) (by decide +kernel) (by decide +kernel) h
theorem jcell_old {w : jW} {S : jX} {I : jI} {t n a : Nat} (h : a < S.1) : jcell w (jnS S t n) (jnI S I) a = jcell w S I a := by
  have hne : ¬ a = S.1 := by omega
  have hf : jnI S I a = I a := by funext b; simp [jnI, hne]
  have hg : (jnS S t n).2.2 a = S.2.2 a := by funext b; simp [jnS, hne]
  have hk : (jnS S t n).2.1 a = S.2.1 a := by simp [jnS, hne]
  simp only [jcell, jobj, hf, hg, hk]
theorem jKd_new (S : jX) (t n : Nat) : jKd (jnS S t n) S.1 t n := ⟨Nat.lt_succ_self _, by simp [jnS]⟩
theorem jKd_old {S : jX} {o t n t' n' : Nat} (h : jKd S o t n) : jKd (jnS S t' n') o t n := ⟨Nat.lt_succ_of_lt h.1, by have h1 := h.1; have h2 := h.2; simp only [jnS]; rw [if_neg (by omega), h2]⟩
theorem jmove {D : va_G} {H H1 : Heap} {ws : va_W} {b : Nat} (hP : va_P D vwCl ws H) (hb : H.size = b) (o1 : ∀ q, q < b → H1[q]? = H[q]?) : va_P D vwCl ws H1 := hP.kept (fun k x hx => o1 x.1 (by rw [← hb]; exact (hP k x hx).lt))
theorem jsmove {A : Nat → Prop} {H0 H H1 : Heap} {locs : List Loc} {b : Nat} (hS : va_S A H0 H locs) (hb : H.size = b) (z1 : H1.size = b + 1) (o1 : ∀ q, q < b → H1[q]? = H[q]?) : va_S A H0 H1 locs :=
  ⟨Nat.le_trans hS.1 (by omega), fun x h1 h2 => (o1 x (by have := hS.1; omega)).trans (hS.2.1 x h1 h2), hS.2.2⟩
theorem jpush {w : jW} {S S' : jX} {I I' : jI} {H1 : Heap} (hP : va_P w.2.2.1 vwCl (jws w S I) H1) (hn : S'.1 = S.1 + 1) (hk : ∀ k, k < S.1 → jcell w S' I' k = jcell w S I k) (he : va_at w.2.2.1 vwCl (w.1 + S.1, jcell w S' I' S.1) H1) : va_P w.2.2.1 vwCl (jws w S' I') H1 := by
  rw [← jws_push hn rfl hk]
  refine hP.app (fun k x hx => ?_)
  have hz : k < 1 := (List.getElem?_eq_some_iff.mp hx).1
  rw [show k = 0 by omega] at hx
  cases hx
  exact he
section JA
variable {G : jG} {d : Nat × Nat × Nat} {mt : jMt} {pc ix : Nat} {ls st : List Value} {S : jX} {I : jI} {k n : Nat}

theorem J_new {ci : Nat} (hd : decode mt.2.1 pc = .ok (.new ix, 3)) (hc : ci < 8) (hcl : Cond.classLink mt.1.cls ix (jC ci).1 ∈ jtw) (hin : Cond.instantiable (jC ci).1 (jC ci).2.2 ∈ jtw) (hini : Cond.initialized (jC ci).1 ∈ jtw) (hk1 : k + 1 ≤ d.2.1) (hn1 : n + (jC ci).2.2 ≤ d.2.2) (h : J G d mt (pc + 3) ls (.ref S.1 :: st) (jnS S ci 0) (jnI S I) (k + 1) (n + (jC ci).2.2)) : J G d mt pc ls st S I k n := by
  obtain ⟨⟨p, l, e, R, s, m⟩, ⟨args, below, meth, c⟩, w, Q⟩ := G
  intro hF H locs la hz hP hS hl
  obtain ⟨⟨hx, hb, hml, hown, hts⟩, hK, hsz, hlk, hnm, hfr, hbud, hrt⟩ := id hF
  have hKn := hK.1.1 ci _ (jC_at hc)
  refine W.newcK hx hb hown (hts _ hcl) (hts _ hin) (hts _ hini) rfl hd (by omega) (by omega) hKn.2.1 hz fun H1 kC hkC e1 z1 o1 => ?_
  refine h hF H1 locs la z1 (jpush (jmove hP hz o1) rfl (fun a ha => jcell_old ha) ?_) (jsmove hS hz z1 o1) hl
  rw [jcell_o (jKd_new S ci 0) hc]
  refine ⟨_, jC_at hc, (u_born (jty ci) hts (jC_in hc) hKn hkC e1 (jC_ty hc)).to (fun j hj => ?_)⟩
  have hv := jobj_at (w := w) (I := jnI S I) (jKd_new S ci 0) hj
  rw [jC_df hc j hj]
  simp only [vp_V, List.getD_eq_getElem?_getD, hv, Option.getD_some]
  have hr : (jnS S ci 0).2.2 S.1 j = none := by simp [jnS]
  have hi : jnI S I S.1 j = 0 := by simp [jnI]
  rw [hr, hi]
  rfl

theorem J_newI {x : Int32} {N : Nat} (hd : decode mt.2.1 pc = .ok (.newarray .int, 2)) (hw : Cond.arrayClass .int ∈ jtw) (hx0 : ¬ x < 0) (hN : x.toNatClampNeg = N) (hbytes : N * 8 ≤ 536870912) (hk1 : k + 1 ≤ d.2.1) (hn1 : n + N ≤ d.2.2) (h : J G d mt (pc + 2) ls (.ref S.1 :: st) (jnS S 8 N) (jnI S I) (k + 1) (n + N)) : J G d mt pc ls (.int x :: st) S I k n := by
  obtain ⟨⟨p, l, e, R, s, m⟩, ⟨args, below, meth, c⟩, w, Q⟩ := G
  intro hF H locs la hz hP hS hl
  obtain ⟨⟨hx, hb, hml, hown, hts⟩, hK, hsz, hlk, hnm, hfr, hbud, hrt⟩ := id hF
  have hcb : N * componentBytes (newarray.typeOf .int) ≤ 536870912 := Nat.le_trans (Nat.mul_le_mul_left N (show componentBytes .int ≤ 8 by decide)) hbytes
  refine va_newaK (atype := .int) hx hb (hts _ hw) rfl hd rfl hx0 hN hcb (by omega) (by omega) hz fun H1 cA e1 z1 o1 hAr hNm => ?_
  have hcA : cA = w.2.2.2 8 := Option.some.inj (hNm.symm.trans (hK.1.2 0 _ (jtys_i _)).2)
  subst hcA
  refine h hF H1 locs la z1 (jpush (jmove hP hz o1) rfl (fun a ha => jcell_old ha) ?_) (jsmove hS hz z1 o1) hl
  rw [jcell_i (jKd_new S 8 N) (by decide) (by decide)]
  show H1[w.1 + S.1]? = some (vp_cell _ _)
  rw [e1, vp_cell_i]
  have hi : (fun j => Value.int (jnI S I S.1 j)) = fun _ => defaultValue .int := by funext j; simp [jnI, defaultValue]
  rw [hi]
  rfl

theorem J_newC {x : Int32} {N : Nat} (hd : decode mt.2.1 pc = .ok (.newarray .char, 2)) (hw : Cond.arrayClass .char ∈ jtw) (hx0 : ¬ x < 0) (hN : x.toNatClampNeg = N) (hbytes : N * 8 ≤ 536870912) (hk1 : k + 1 ≤ d.2.1) (hn1 : n + N ≤ d.2.2) (h : J G d mt (pc + 2) ls (.ref S.1 :: st) (jnS S 9 N) (jnI S I) (k + 1) (n + N)) : J G d mt pc ls (.int x :: st) S I k n := by
  obtain ⟨⟨p, l, e, R, s, m⟩, ⟨args, below, meth, c⟩, w, Q⟩ := G
  intro hF H locs la hz hP hS hl
  obtain ⟨⟨hx, hb, hml, hown, hts⟩, hK, hsz, hlk, hnm, hfr, hbud, hrt⟩ := id hF
  have hcb : N * componentBytes (newarray.typeOf .char) ≤ 536870912 := Nat.le_trans (Nat.mul_le_mul_left N (show componentBytes .char ≤ 8 by decide)) hbytes
  refine va_newaK (atype := .char) hx hb (hts _ hw) rfl hd rfl hx0 hN hcb (by omega) (by omega) hz fun H1 cA e1 z1 o1 hAr hNm => ?_
  have hcA : cA = w.2.2.2 9 := Option.some.inj (hNm.symm.trans (hK.1.2 1 _ (jtys_c _)).2)
  subst hcA
  refine h hF H1 locs la z1 (jpush (jmove hP hz o1) rfl (fun a ha => jcell_old ha) ?_) (jsmove hS hz z1 o1) hl
  rw [jcell_i (jKd_new S 9 N) (by decide) (by decide)]
  show H1[w.1 + S.1]? = some (vp_cell _ _)
  rw [e1, vp_cell_i]
  have hi : (fun j => Value.int (jnI S I S.1 j)) = fun _ => defaultValue .char := by funext j; simp [jnI, defaultValue]
  rw [hi]
  rfl

theorem jtys_rA {t : Nat} (ca : Nat → ClassId) (h1 : 10 ≤ t) (h2 : t < 13) : (jtys ca)[t - 8]? = some (ca t, .object (match t with | 10 => RX0 | 11 => RX3 | _ => RX2)) := by
  match t, h1, h2 with
  | 10, _, _ => rfl
  | 11, _, _ => rfl
  | 12, _, _ => rfl
def jcomp (t : Nat) : Nat := match t with
  | 10 => 0
  | 11 => 3
  | _ => 2
theorem jtys_rC {t : Nat} (ca : Nat → ClassId) (h1 : 10 ≤ t) (h2 : t < 13) : (jtys ca)[t - 8]? = some (ca t, .object (jC (jcomp t)).1) := by
  match t, h1, h2 with
  | 10, _, _ => rfl
  | 11, _, _ => rfl
  | 12, _, _ => rfl
theorem jAO {w : jW} {U : State} {t : Nat} (h : jK w U) (h1 : 10 ≤ t) (h2 : t < 13) : va_AO (jC (jcomp t)).1 U := by
  match t, h1, h2 with
  | 10, _, _ => exact h.2.2.1.1
  | 11, _, _ => exact h.2.2.1.2.1
  | 12, _, _ => exact h.2.2.1.2.2

theorem J_anew {x : Int32} {N t : Nat} (hd : decode mt.2.1 pc = .ok (.anewarray ix, 3)) (h1 : 10 ≤ t) (h2 : t < 13) (hcl : Cond.classLink mt.1.cls ix (jC (jcomp t)).1 ∈ jtw) (hx0 : ¬ x < 0) (hN : x.toNatClampNeg = N) (hbytes : N * 4 ≤ 536870912) (hk1 : k + 1 ≤ d.2.1) (hn1 : n + N ≤ d.2.2) (h : J G d mt (pc + 3) ls (.ref S.1 :: st) (jnS S t N) (jnI S I) (k + 1) (n + N)) : J G d mt pc ls (.int x :: st) S I k n := by
  obtain ⟨⟨p, l, e, R, s, m⟩, ⟨args, below, meth, c⟩, w, Q⟩ := G
  intro hF H locs la hz hP hS hl
  obtain ⟨⟨hx, hb, hml, hown, hts⟩, hK, hsz, hlk, hnm, hfr, hbud, hrt⟩ := id hF
  subst hN
  refine W.anew hx hb hown (hts _ hcl) (va_AO.use (jAO hK h1 h2)) rfl hd rfl hx0 hbytes (by omega) (by omega) fun cA kA comp f1 f2 f3 f4 => ?_
  obtain ⟨kA', comp', r1, r2, r3, r4⟩ := (hK.1.2 (t - 8) _ (jtys_rC w.2.2.2 h1 h2)).2
  have hcA : cA = w.2.2.2 t := Option.some.inj (f1.symm.trans r4)
  subst hcA
  rw [hz]
  generalize hH1 : H.push ({ cls := w.2.2.2 t, slots := Array.replicate x.toNatClampNeg .null, vm := .none } : Cell) = H1
  have z1 : H1.size = w.1 + S.1 + 1 := by rw [← hH1, Array.size_push, hz]
  have e1 : H1[w.1 + S.1]? = some (arrV (w.2.2.2 t) x.toNatClampNeg (fun _ => .null)) := by rw [← hH1, ← hz, Array.getElem?_push_size, ← arrV_new]
  have o1 : ∀ q : Nat, q < w.1 + S.1 → H1[q]? = H[q]? := fun q hq => by rw [← hH1, Array.getElem?_push, if_neg (by omega)]
  refine h hF H1 locs la z1 (jpush (jmove hP hz o1) rfl (fun a ha => jcell_old ha) ?_) (jsmove hS hz z1 o1) hl
  rw [jcell_r (jKd_new S t _) h1]
  show H1[w.1 + S.1]? = some (vp_cell _ _)
  rw [e1, vp_cell_q]
  have hi : (fun j => va_rf (jq w ((jnS S t x.toNatClampNeg).2.2 S.1 j))) = fun _ => Value.null := by funext j; simp [jnS, jq, va_rf]
  rw [hi]
theorem jws_putR {w : jW} {S : jX} {I : jI} {o ci j q : Nat} (hk : jKd S o ci 0) (hc : ci < 8) (hj : j < (jC ci).2.2) (hr : jrf ci j = true) : (jws w S I).set o (w.1 + o, .inr (ci, (jobj w S I o).set j (.ref (w.1 + q)))) = jws w (jsetR S o j q) I := by
  have hk' : jKd (jsetR S o j q) o ci 0 := hk
  refine jws_set rfl ?_ (fun a ha hne => ?_)
  · rw [jcell_o hk' hc]
    congr 2
    apply List.ext_getElem?
    intro b
    by_cases hb : b < (jC ci).2.2
    · rw [jobj_at hk' hb]
      by_cases hbj : j = b
      · subst hbj
        rw [List.getElem?_set_self (by rw [jobj_len hk]; exact hj)]
        simp [hr, jsetR, jq, va_rf]
      · rw [List.getElem?_set_ne hbj, jobj_at hk hb]
        have hne : ¬ (o = o ∧ b = j) := fun h => hbj h.2.symm
        have h9 : (jsetR S o j q).2.2 o b = S.2.2 o b := if_neg hne
        rw [h9]
    · rw [List.getElem?_eq_none (by rw [List.length_set, jobj_len hk]; omega), List.getElem?_eq_none (by rw [jobj_len hk']; omega)]
  · have hf : (jsetR S o j q).2.2 a = S.2.2 a := by funext b; simp [jsetR, hne]
    have hg : (jsetR S o j q).2.1 = S.2.1 := rfl
    simp only [jcell, jobj, hf, hg]

theorem J_putR {ci j o q : Nat} (hd : decode mt.2.1 pc = .ok (.putfield ix, 3)) (hf : jFL mt.1.cls ix ci j) (hr : jrf ci j = true) (hfin : ((jC ci).2.1 j).2.2.2 = true) (hini : mt.1.name = "<init>") (hdecl : ((jC ci).2.1 j).1 = mt.1.cls) (hw : Cond.fieldLink mt.1.cls ix ((jC ci).2.1 j).1 ((jC ci).2.1 j).2.1 ((jC ci).2.1 j).2.2.1 ∈ jtw) (hn : ∀ a : Nat, narrow (jty ci j) (.ref a) = .ref a) (hfit : ∀ a : Nat, fits (jty ci j) (.ref a) = true) (hk : jKd S o ci 0) (h : J G d mt (pc + 3) ls st (jsetR S o j q) I k n) : J G d mt pc ls (.ref q :: .ref o :: st) S I k n := by
  obtain ⟨⟨p, l, e, R, s, m⟩, ⟨args, below, meth, c⟩, w, Q⟩ := G
  intro hF H locs la hz hP hS hl
  obtain ⟨⟨hx, hb, hml, hown, hts⟩, hK, hsz, hlk, hnm, hfr, hbud, hrt⟩ := id hF
  have he := jws_at w S I hk.1
  rw [jcell_o hk hf.1] at he
  refine jput (v := .ref (w.1 + q)) hx hb hown hts hK hP (jws_D w S I) hS hf he (by rw [jobj_len hk]; exact hf.2.1) (Or.inr ⟨hfin, hnm.trans hini, hdecl, hw⟩) (hn _) (hfit _) hd (fun H1 locs1 hz1 hP1 hS1 => ?_)
  rw [jws_putR hk hf.1 hf.2.1 hr] at hP1
  exact h hF H1 locs1 la (hz1.trans hz) hP1 hS1 hl
theorem jws_stR {w : jW} {S : jX} {I : jI} {o t N j q : Nat} (hk : jKd S o t N) (h1 : 10 ≤ t) : (jws w S I).set o (w.1 + o, .inl (w.2.2.2 t, N, .inr (.inr (.inr (.inr (va_up (fun b => jq w (S.2.2 o b)) j (some (w.1 + q)))))))) = jws w (jsetR S o j q) I := by
  have hk' : jKd (jsetR S o j q) o t N := hk
  refine jws_set rfl ?_ (fun a ha hne => ?_)
  · rw [jcell_r hk' h1]
    have hf : (va_up (fun b => jq w (S.2.2 o b)) j (some (w.1 + q))) = fun b => jq w ((jsetR S o j q).2.2 o b) := by
      funext b
      by_cases hb : b = j
      · subst hb; simp [va_up, jsetR, jq]
      · simp [va_up, jsetR, hb]
    rw [hf]
  · have hf : (jsetR S o j q).2.2 a = S.2.2 a := by funext b; simp [jsetR, hne]
    have hg : (jsetR S o j q).2.1 = S.2.1 := rfl
    simp only [jcell, jobj, hf, hg]

theorem J_aastore {o t N q : Nat} {i : Int32} (hd : decode mt.2.1 pc = .ok (.aastore, 1)) (hk : jKd S o t N) (h1 : 10 ≤ t) (h2 : t < 13) (hq : jKd S q (jcomp t) 0) (hi : vp_in i N) (h : J G d mt (pc + 1) ls st (jsetR S o i.toNatClampNeg q) I k n) : J G d mt pc ls (.ref q :: .int i :: .ref o :: st) S I k n := by
  obtain ⟨⟨p, l, e, R, s, m⟩, ⟨args, below, meth, c⟩, w, Q⟩ := G
  intro hF H locs la hz hP hS hl
  obtain ⟨⟨hx, hb, hml, hown, hts⟩, hK, hsz, hlk, hnm, hfr, hbud, hrt⟩ := id hF
  have he := jws_at w S I hk.1
  rw [jcell_r hk h1] at he
  have hc8 : jcomp t < 8 := by
    match t, h1, h2 with
    | 10, _, _ => decide
    | 11, _, _ => decide
    | 12, _, _ => decide
  have hv := jws_at w S I hq.1
  rw [jcell_o hq hc8] at hv
  have ht := jtys_rC w.2.2.2 h1 h2
  have hlt : i.toNatClampNeg < N := Nat.not_le.mp fun q => hi (Or.inr q)
  have h0 : ¬ i < 0 := fun q => hi (Or.inl q)
  obtain ⟨r', hr', cellV, g1, g2, g3, -⟩ := hP q _ hv
  have hcls := (hK.1.1 (jcomp t) _ (jC_at hc8)).2
  obtain ⟨kA, comp, k1, k2, k3, -⟩ := (hK.1.2 (t - 8) _ ht).2
  have hcomp : comp = w.2.2.1.1 (jcomp t) := Option.some.inj (k3.symm.trans hcls.1)
  subst hcomp
  obtain ⟨kC, hkC, -⟩ := hcls.2
  refine W.aast hx hb (hP o _ he) (fun q h => by cases h) (fun h => by cases h) k1 k2 rfl hkC ⟨h0, by show _ < (arrV _ _ _).slots.size; rw [arrV_size]; exact hlt⟩ g1 (fun q h => by rw [g3] at h; cases h) (by rw [g2]; exact hkC) (by rw [g2]; exact va_assign hcls) rfl rfl hd fun H1 e1 z oq => ?_
  have hP1 : va_P w.2.2.1 vwCl ((jws w S I).set o (w.1 + o, .inl (w.2.2.2 t, N, .inr (.inr (.inr (.inr (va_up (fun b => jq w (S.2.2 o b)) i.toNatClampNeg (some (w.1 + q))))))))) H1 := by
    refine hP.set (jws_D w S I) he ?_ oq
    show H1[w.1 + o]? = some (vp_cell _ _)
    rw [e1, vp_cell_q, vp_cell_q, arrV_store]
    congr 2
    funext b
    by_cases hb : b = i.toNatClampNeg
    · subst hb
      simp [updV, va_up, va_rf]
    · simp [updV, va_up, hb]
  rw [jws_stR hk h1] at hP1
  exact h hF H1 _ la (z.trans hz) hP1 (hS.put z oq (show w.1 ≤ w.1 + o by omega)) hl
end JA
end
section
abbrev mX6_init : jMt := (yX6_init, cX6_init, 1, none)
abbrev mX2_init : jMt := (yX2_init, cX2_init, 2, none)
abbrev mX0_init : jMt := (yX0_init, cX0_init, 1, none)
abbrev mX3_init : jMt := (yX3_init, cX3_init, 1, none)
abbrev mX1_init : jMt := (yX1_init, cX1_init, 2, none)
abbrev mX4_init : jMt := (yX4_init, cX4_init, 1, none)
abbrev mX5_init : jMt := (yX5_init, cX5_init, 1, none)
abbrev mX6_boiler : jMt := (yX6_boiler, cX6_boiler, 2, (some .int))
abbrev mX6_trialOfNow : jMt := (yX6_trialOfNow, cX6_trialOfNow, 1, (some (.object "BoilerPapers$House")))
abbrev mX2_copyFrom : jMt := (yX2_copyFrom, cX2_copyFrom, 5, none)
abbrev mX2_copyNumbers : jMt := (yX2_copyNumbers, cX2_copyNumbers, 3, none)
abbrev mX2_boilerAt : jMt := (yX2_boilerAt, cX2_boilerAt, 3, (some (.object "BoilerPapers$Boiler")))
abbrev mX0_copyFrom : jMt := (yX0_copyFrom, cX0_copyFrom, 2, none)
abbrev mX2_inspectorAt : jMt := (yX2_inspectorAt, cX2_inspectorAt, 3, (some (.object "BoilerPapers$Inspector")))
abbrev mX3_copyFrom : jMt := (yX3_copyFrom, cX3_copyFrom, 2, none)
abbrev mX2_addBoiler : jMt := (yX2_addBoiler, cX2_addBoiler, 4, (some .int))
abbrev mX0_begin : jMt := (yX0_begin, cX0_begin, 2, none)
abbrev mX6_settle : jMt := (yX6_settle, cX6_settle, 2, (some .int))
abbrev mX6_isError : jMt := (yX6_isError, cX6_isError, 1, (some .boolean))
abbrev mX1_keep : jMt := (yX1_keep, cX1_keep, 3, none)
abbrev mX1_stateAt : jMt := (yX1_stateAt, cX1_stateAt, 2, (some (.object "BoilerPapers$House")))
abbrev mJ9_min_7cf53 : jMt := (yJ9_min_7cf53, cJ9_min_7cf53, 2, (some .int))
abbrev mX6_inspector : jMt := (yX6_inspector, cX6_inspector, 3, (some .int))
abbrev mX2_addInspector : jMt := (yX2_addInspector, cX2_addInspector, 5, (some .int))
abbrev mX6_isInsurer : jMt := (yX6_isInsurer, cX6_isInsurer, 1, (some .boolean))
abbrev mX3_begin : jMt := (yX3_begin, cX3_begin, 3, none)
abbrev mX6_press : jMt := (yX6_press, cX6_press, 3, (some .int))
abbrev mX2_changePressure : jMt := (yX2_changePressure, cX2_changePressure, 5, (some .int))
abbrev mX6_inspect : jMt := (yX6_inspect, cX6_inspect, 3, (some .int))
abbrev mX2_examine : jMt := (yX2_examine, cX2_examine, 7, (some .int))
abbrev mX0_whyNotInspectedBy : jMt := (yX0_whyNotInspectedBy, cX0_whyNotInspectedBy, 2, (some .int))
abbrev mX3_left : jMt := (yX3_left, cX3_left, 1, (some .int))
abbrev mX2_pressureOffered : jMt := (yX2_pressureOffered, cX2_pressureOffered, 4, (some .int))
abbrev mX2_settingAt : jMt := (yX2_settingAt, cX2_settingAt, 3, (some .int))
abbrev mX0_strength : jMt := (yX0_strength, cX0_strength, 1, (some .int))
abbrev mX2_lastWeekOffered : jMt := (yX2_lastWeekOffered, cX2_lastWeekOffered, 3, (some .int))
abbrev mX0_takePaper : jMt := (yX0_takePaper, cX0_takePaper, 4, none)
abbrev mX0_refusePaper : jMt := (yX0_refusePaper, cX0_refusePaper, 1, none)
abbrev mX3_noteInspection : jMt := (yX3_noteInspection, cX3_noteInspection, 2, none)
abbrev mX2_ownerPays : jMt := (yX2_ownerPays, cX2_ownerPays, 3, none)
abbrev mX6_fire : jMt := (yX6_fire, cX6_fire, 2, (some .int))
abbrev mX2_light : jMt := (yX2_light, cX2_light, 3, (some .int))
abbrev mX0_whyNotFiredIn : jMt := (yX0_whyNotFiredIn, cX0_whyNotFiredIn, 2, (some .int))
abbrev mX0_isShutIn : jMt := (yX0_isShutIn, cX0_isShutIn, 2, (some .boolean))
abbrev mX6_out : jMt := (yX6_out, cX6_out, 2, (some .int))
abbrev mX2_putOut : jMt := (yX2_putOut, cX2_putOut, 3, (some .int))
abbrev mX0_becomeCold : jMt := (yX0_becomeCold, cX0_becomeCold, 1, none)
abbrev mX6_plan : jMt := (yX6_plan, cX6_plan, 4, (some .int))
abbrev mX2_planShutdown : jMt := (yX2_planShutdown, cX2_planShutdown, 5, (some .int))
abbrev mX6_repair : jMt := (yX6_repair, cX6_repair, 2, (some .int))
abbrev mX2_sendToRepair : jMt := (yX2_sendToRepair, cX2_sendToRepair, 4, (some .int))
abbrev mX6_pass : jMt := (yX6_pass, cX6_pass, 2, (some .int))
abbrev mX2_letWeeksPass : jMt := (yX2_letWeeksPass, cX2_letWeeksPass, 4, (some .int))
abbrev mX2_letOneWeekPass : jMt := (yX2_letOneWeekPass, cX2_letOneWeekPass, 4, (some .int))
abbrev mX3_beginWeek : jMt := (yX3_beginWeek, cX3_beginWeek, 1, none)
abbrev mX0_age : jMt := (yX0_age, cX0_age, 1, none)
abbrev mX0_endRepairIn : jMt := (yX0_endRepairIn, cX0_endRepairIn, 2, none)
abbrev mX0_dropWhatIsPastIn : jMt := (yX0_dropWhatIsPastIn, cX0_dropWhatIsPastIn, 2, none)
abbrev mX0_mustGoOutIn : jMt := (yX0_mustGoOutIn, cX0_mustGoOutIn, 2, (some .boolean))
abbrev mX6_set : jMt := (yX6_set, cX6_set, 3, (some .int))
abbrev mX2_changeSetting : jMt := (yX2_changeSetting, cX2_changeSetting, 4, (some .int))
abbrev mX6_boilerOf : jMt := (yX6_boilerOf, cX6_boilerOf, 3, (some .int))
abbrev mX2_factOfBoiler : jMt := (yX2_factOfBoiler, cX2_factOfBoiler, 4, (some .int))
abbrev mX0_fact : jMt := (yX0_fact, cX0_fact, 3, (some .int))
abbrev mX6_paperOf : jMt := (yX6_paperOf, cX6_paperOf, 3, (some .int))
abbrev mX2_factOfPaper : jMt := (yX2_factOfPaper, cX2_factOfPaper, 4, (some .int))
abbrev mX0_factOfPaper : jMt := (yX0_factOfPaper, cX0_factOfPaper, 2, (some .int))
abbrev mX6_inspectorOf : jMt := (yX6_inspectorOf, cX6_inspectorOf, 3, (some .int))
abbrev mX2_factOfInspector : jMt := (yX2_factOfInspector, cX2_factOfInspector, 4, (some .int))
abbrev mX3_fact : jMt := (yX3_fact, cX3_fact, 2, (some .int))
abbrev mX6_why : jMt := (yX6_why, cX6_why, 3, (some .int))
abbrev mX2_whyNotFired : jMt := (yX2_whyNotFired, cX2_whyNotFired, 3, (some .int))
abbrev mX2_whyNotInspected : jMt := (yX2_whyNotInspected, cX2_whyNotInspected, 5, (some .int))
abbrev mX6_account : jMt := (yX6_account, cX6_account, 2, (some .int))
abbrev mX2_balanceOf : jMt := (yX2_balanceOf, cX2_balanceOf, 3, (some .int))
abbrev mX6_would : jMt := (yX6_would, cX6_would, 4, (some .int))
abbrev mX2_paperThatWouldBe : jMt := (yX2_paperThatWouldBe, cX2_paperThatWouldBe, 6, (some .int))
abbrev mX6_better : jMt := (yX6_better, cX6_better, 2, (some .int))
abbrev mX2_betterInsurer : jMt := (yX2_betterInsurer, cX2_betterInsurer, 5, (some .int))
abbrev mX2_isOneBetter : jMt := (yX2_isOneBetter, cX2_isOneBetter, 4, (some .boolean))
abbrev mX6_first : jMt := (yX6_first, cX6_first, 2, (some .int))
abbrev mX2_firstToRunOut : jMt := (yX2_firstToRunOut, cX2_firstToRunOut, 6, (some .int))
abbrev mX6_goesOn : jMt := (yX6_goesOn, cX6_goesOn, 2, (some .int))
abbrev mX2_weeksUntilPutOut : jMt := (yX2_weeksUntilPutOut, cX2_weeksUntilPutOut, 3, (some .int))
abbrev mX0_weeksUntilPutOut : jMt := (yX0_weeksUntilPutOut, cX0_weeksUntilPutOut, 3, (some .int))
abbrev mX6_share : jMt := (yX6_share, cX6_share, 2, (some .int))
abbrev mX2_shareOfStrength : jMt := (yX2_shareOfStrength, cX2_shareOfStrength, 3, (some .int))
abbrev mX2_bitsOfShare : jMt := (yX2_bitsOfShare, cX2_bitsOfShare, 4, (some .int))
abbrev mX6_count : jMt := (yX6_count, cX6_count, 2, (some .int))
abbrev mX1_size : jMt := (yX1_size, cX1_size, 1, (some .int))
abbrev mX4_length : jMt := (yX4_length, cX4_length, 1, (some .int))
abbrev mX2_numberOf : jMt := (yX2_numberOf, cX2_numberOf, 2, (some .int))
abbrev mX2_setOfBoilers : jMt := (yX2_setOfBoilers, cX2_setOfBoilers, 5, (some .int))
abbrev mX2_isInSet : jMt := (yX2_isInSet, cX2_isInSet, 3, (some .boolean))
abbrev mX2_allAccounts : jMt := (yX2_allAccounts, cX2_allAccounts, 6, (some .int))
abbrev mX2_allOfInspectors : jMt := (yX2_allOfInspectors, cX2_allOfInspectors, 5, (some .int))
abbrev mX6_undo : jMt := (yX6_undo, cX6_undo, 1, (some .int))
abbrev mX1_bringBack : jMt := (yX1_bringBack, cX1_bringBack, 4, (some .int))
abbrev mX6_type : jMt := (yX6_type, cX6_type, 2, (some .int))
abbrev mX4_append : jMt := (yX4_append, cX4_append, 2, (some .int))
abbrev mX6_clearText : jMt := (yX6_clearText, cX6_clearText, 1, (some .int))
abbrev mX4_empty : jMt := (yX4_empty, cX4_empty, 2, (some .int))
abbrev mX6_fault : jMt := (yX6_fault, cX6_fault, 2, (some .int))
abbrev mX5_run : jMt := (yX5_run, cX5_run, 4, none)
abbrev mX4_goToStart : jMt := (yX4_goToStart, cX4_goToStart, 1, none)
abbrev mX4_hasMore : jMt := (yX4_hasMore, cX4_hasMore, 1, (some .boolean))
abbrev mX4_readOrder : jMt := (yX4_readOrder, cX4_readOrder, 1, (some .boolean))
abbrev mX4_readKind : jMt := (yX4_readKind, cX4_readKind, 2, (some .boolean))
abbrev mX4_signHere : jMt := (yX4_signHere, cX4_signHere, 2, (some .int))
abbrev mX4_readNumber : jMt := (yX4_readNumber, cX4_readNumber, 3, (some .int))
abbrev mX4_readDigit : jMt := (yX4_readDigit, cX4_readDigit, 2, (some .int))
abbrev mX4_readSign : jMt := (yX4_readSign, cX4_readSign, 2, (some .boolean))
abbrev mX2_obey : jMt := (yX2_obey, cX2_obey, 4, (some .int))
abbrev mX5_takeAnswer : jMt := (yX5_takeAnswer, cX5_takeAnswer, 3, none)
abbrev mX5_stopAt : jMt := (yX5_stopAt, cX5_stopAt, 4, none)
abbrev mX4_brokeOffAt : jMt := (yX4_brokeOffAt, cX4_brokeOffAt, 1, (some .int))
abbrev mX5_factOfFault : jMt := (yX5_factOfFault, cX5_factOfFault, 2, (some .int))
abbrev mX6_play : jMt := (yX6_play, cX6_play, 1, (some .int))
abbrev mX5_ordersDone : jMt := (yX5_ordersDone, cX5_ordersDone, 1, (some .int))
abbrev mX7_init : jMt := (yX7_init, cX7_init, 1, none)
abbrev mX7_boiler : jMt := (yX7_boiler, cX7_boiler, 2, (some .int))
abbrev mX7_begins : jMt := (yX7_begins, cX7_begins, 2, none)
abbrev mX7_comes : jMt := (yX7_comes, cX7_comes, 4, (some .int))
abbrev mX7_in : jMt := (yX7_in, cX7_in, 3, (some .boolean))
abbrev mX7_lays : jMt := (yX7_lays, cX7_lays, 4, none)
abbrev mX7_acted : jMt := (yX7_acted, cX7_acted, 3, (some .int))
abbrev mX7_returns : jMt := (yX7_returns, cX7_returns, 2, none)
abbrev mX7_inspector : jMt := (yX7_inspector, cX7_inspector, 4, (some .int))
abbrev mX7_press : jMt := (yX7_press, cX7_press, 4, (some .int))
abbrev mX7_isBoiler : jMt := (yX7_isBoiler, cX7_isBoiler, 2, (some .boolean))
abbrev mX7_of : jMt := (yX7_of, cX7_of, 3, (some .int))
abbrev mX7_inspect : jMt := (yX7_inspect, cX7_inspect, 3, (some .int))
abbrev mX7_inspects : jMt := (yX7_inspects, cX7_inspects, 5, (some .int))
abbrev mX7_isInspector : jMt := (yX7_isInspector, cX7_isInspector, 2, (some .boolean))
abbrev mX7_whyNotInspected : jMt := (yX7_whyNotInspected, cX7_whyNotInspected, 3, (some .int))
abbrev mX7_by : jMt := (yX7_by, cX7_by, 3, (some .int))
abbrev mX7_pressureBy : jMt := (yX7_pressureBy, cX7_pressureBy, 4, (some .int))
abbrev mX7_strength : jMt := (yX7_strength, cX7_strength, 2, (some .int))
abbrev mX7_pays : jMt := (yX7_pays, cX7_pays, 3, none)
abbrev mX7_counts : jMt := (yX7_counts, cX7_counts, 3, none)
abbrev mX7_lastBy : jMt := (yX7_lastBy, cX7_lastBy, 3, (some .int))
abbrev mX7_fire : jMt := (yX7_fire, cX7_fire, 2, (some .int))
abbrev mX7_fires : jMt := (yX7_fires, cX7_fires, 2, (some .int))
abbrev mX7_whyNotFired : jMt := (yX7_whyNotFired, cX7_whyNotFired, 2, (some .int))
abbrev mX7_isShut : jMt := (yX7_isShut, cX7_isShut, 2, (some .boolean))
abbrev mX7_hasPaper : jMt := (yX7_hasPaper, cX7_hasPaper, 2, (some .boolean))
abbrev mX7_out : jMt := (yX7_out, cX7_out, 2, (some .int))
abbrev mX7_puts : jMt := (yX7_puts, cX7_puts, 2, (some .int))
abbrev mX7_cools : jMt := (yX7_cools, cX7_cools, 2, none)
abbrev mX7_plan : jMt := (yX7_plan, cX7_plan, 4, (some .int))
abbrev mX7_repair : jMt := (yX7_repair, cX7_repair, 2, (some .int))
abbrev mX7_sends : jMt := (yX7_sends, cX7_sends, 3, (some .int))
abbrev mX7_pass : jMt := (yX7_pass, cX7_pass, 2, (some .int))
abbrev mX7_passes : jMt := (yX7_passes, cX7_passes, 4, (some .int))
abbrev mX7_week : jMt := (yX7_week, cX7_week, 3, (some .int))
abbrev mX7_grows : jMt := (yX7_grows, cX7_grows, 3, none)
abbrev mX7_repairs : jMt := (yX7_repairs, cX7_repairs, 2, none)
abbrev mX7_set : jMt := (yX7_set, cX7_set, 4, (some .int))
abbrev mX7_boilerOf : jMt := (yX7_boilerOf, cX7_boilerOf, 3, (some .int))
abbrev mX7_paperOf : jMt := (yX7_paperOf, cX7_paperOf, 3, (some .int))
abbrev mX7_inspectorOf : jMt := (yX7_inspectorOf, cX7_inspectorOf, 3, (some .int))
abbrev mX7_why : jMt := (yX7_why, cX7_why, 3, (some .int))
abbrev mX7_account : jMt := (yX7_account, cX7_account, 2, (some .int))
abbrev mX7_would : jMt := (yX7_would, cX7_would, 5, (some .int))
abbrev mX7_better : jMt := (yX7_better, cX7_better, 6, (some .int))
abbrev mX7_wouldDo : jMt := (yX7_wouldDo, cX7_wouldDo, 3, (some .boolean))
abbrev mX7_first : jMt := (yX7_first, cX7_first, 5, (some .int))
abbrev mX7_goesOn : jMt := (yX7_goesOn, cX7_goesOn, 4, (some .int))
abbrev mX7_share : jMt := (yX7_share, cX7_share, 4, (some .int))
abbrev mJxf58ca_floatToIntBits_5c35a : jMt := (yJxf58ca_floatToIntBits_5c35a, cJxf58ca_floatToIntBits_5c35a, 1, (some .int))
abbrev mJxf58ca_isNaN_12338 : jMt := (yJxf58ca_isNaN_12338, cJxf58ca_isNaN_12338, 1, (some .boolean))
abbrev mX7_count : jMt := (yX7_count, cX7_count, 2, (some .int))
abbrev mX7_set0 : jMt := (yX7_set0, cX7_set0, 5, (some .int))
abbrev mX7_undo : jMt := (yX7_undo, cX7_undo, 2, (some .int))
abbrev mX7_type : jMt := (yX7_type, cX7_type, 2, (some .int))
abbrev mX7_clearText : jMt := (yX7_clearText, cX7_clearText, 2, (some .int))
abbrev mX7_fault : jMt := (yX7_fault, cX7_fault, 3, (some .int))
abbrev mX7_doesAll : jMt := (yX7_doesAll, cX7_doesAll, 2, (some .boolean))
abbrev mX7_here : jMt := (yX7_here, cX7_here, 1, (some .int))
abbrev mX7_isOrder : jMt := (yX7_isOrder, cX7_isOrder, 1, (some .boolean))
abbrev mX7_number : jMt := (yX7_number, cX7_number, 3, (some .int))
abbrev mX7_isDigit : jMt := (yX7_isDigit, cX7_isDigit, 1, (some .boolean))
abbrev mX7_takesSign : jMt := (yX7_takesSign, cX7_takesSign, 2, none)
abbrev mX7_called : jMt := (yX7_called, cX7_called, 2, (some .int))
abbrev mX7_play : jMt := (yX7_play, cX7_play, 1, (some .int))
theorem flX0_9 : jFL RX0 9 0 0 := ⟨by decide, by decide, Or.inl jw_34⟩
theorem flX2_80 : jFL RX2 80 0 0 := ⟨by decide, by decide, Or.inr ⟨_, jw_35⟩⟩
theorem flX0_15 : jFL RX0 15 0 1 := ⟨by decide, by decide, Or.inl jw_36⟩
theorem flX2_90 : jFL RX2 90 0 1 := ⟨by decide, by decide, Or.inr ⟨_, jw_37⟩⟩
theorem flX0_18 : jFL RX0 18 0 2 := ⟨by decide, by decide, Or.inl jw_38⟩
theorem flX2_134 : jFL RX2 134 0 2 := ⟨by decide, by decide, Or.inr ⟨_, jw_39⟩⟩
theorem flX0_21 : jFL RX0 21 0 3 := ⟨by decide, by decide, Or.inl jw_40⟩
theorem flX2_83 : jFL RX2 83 0 3 := ⟨by decide, by decide, Or.inr ⟨_, jw_41⟩⟩
theorem flX0_24 : jFL RX0 24 0 4 := ⟨by decide, by decide, Or.inl jw_42⟩
theorem flX0_27 : jFL RX0 27 0 5 := ⟨by decide, by decide, Or.inl jw_43⟩
theorem flX2_147 : jFL RX2 147 0 5 := ⟨by decide, by decide, Or.inr ⟨_, jw_44⟩⟩
theorem flX0_30 : jFL RX0 30 0 6 := ⟨by decide, by decide, Or.inl jw_45⟩
theorem flX2_228 : jFL RX2 228 0 6 := ⟨by decide, by decide, Or.inr ⟨_, jw_46⟩⟩
theorem flX0_34 : jFL RX0 34 0 7 := ⟨by decide, by decide, Or.inl jw_47⟩
theorem flX2_231 : jFL RX2 231 0 7 := ⟨by decide, by decide, Or.inr ⟨_, jw_48⟩⟩
theorem flX0_40 : jFL RX0 40 0 8 := ⟨by decide, by decide, Or.inl jw_49⟩
theorem flX0_43 : jFL RX0 43 0 9 := ⟨by decide, by decide, Or.inl jw_50⟩
theorem flX2_86 : jFL RX2 86 0 9 := ⟨by decide, by decide, Or.inr ⟨_, jw_51⟩⟩
theorem flX0_46 : jFL RX0 46 0 10 := ⟨by decide, by decide, Or.inl jw_52⟩
theorem flX2_128 : jFL RX2 128 0 10 := ⟨by decide, by decide, Or.inr ⟨_, jw_53⟩⟩
theorem flX0_37 : jFL RX0 37 0 11 := ⟨by decide, by decide, Or.inl jw_54⟩
theorem flX2_137 : jFL RX2 137 0 11 := ⟨by decide, by decide, Or.inr ⟨_, jw_55⟩⟩
theorem flX0_49 : jFL RX0 49 0 12 := ⟨by decide, by decide, Or.inl jw_56⟩
theorem flX2_141 : jFL RX2 141 0 12 := ⟨by decide, by decide, Or.inr ⟨_, jw_57⟩⟩
theorem flX0_52 : jFL RX0 52 0 13 := ⟨by decide, by decide, Or.inl jw_58⟩
theorem flX2_144 : jFL RX2 144 0 13 := ⟨by decide, by decide, Or.inr ⟨_, jw_59⟩⟩
theorem flX3_9 : jFL RX3 9 3 0 := ⟨by decide, by decide, Or.inl jw_95⟩
theorem flX2_97 : jFL RX2 97 3 0 := ⟨by decide, by decide, Or.inr ⟨_, jw_96⟩⟩
theorem flX3_15 : jFL RX3 15 3 1 := ⟨by decide, by decide, Or.inl jw_97⟩
theorem flX3_18 : jFL RX3 18 3 2 := ⟨by decide, by decide, Or.inl jw_98⟩
theorem flX3_21 : jFL RX3 21 3 3 := ⟨by decide, by decide, Or.inl jw_99⟩
theorem flX3_24 : jFL RX3 24 3 4 := ⟨by decide, by decide, Or.inl jw_100⟩
theorem flX2_11 : jFL RX2 11 2 0 := ⟨by decide, by decide, Or.inl jw_112⟩
theorem flX2_19 : jFL RX2 19 2 1 := ⟨by decide, by decide, Or.inl jw_113⟩
theorem flX2_23 : jFL RX2 23 2 2 := ⟨by decide, by decide, Or.inl jw_114⟩
theorem flX2_27 : jFL RX2 27 2 3 := ⟨by decide, by decide, Or.inl jw_115⟩
theorem flX2_32 : jFL RX2 32 2 4 := ⟨by decide, by decide, Or.inl jw_116⟩
theorem flX2_36 : jFL RX2 36 2 5 := ⟨by decide, by decide, Or.inl jw_117⟩
theorem flX2_39 : jFL RX2 39 2 6 := ⟨by decide, by decide, Or.inl jw_118⟩
theorem flX2_42 : jFL RX2 42 2 7 := ⟨by decide, by decide, Or.inl jw_119⟩
theorem flX2_45 : jFL RX2 45 2 8 := ⟨by decide, by decide, Or.inl jw_120⟩
theorem flX1_11 : jFL RX1 11 1 0 := ⟨by decide, by decide, Or.inl jw_149⟩
theorem flX1_18 : jFL RX1 18 1 1 := ⟨by decide, by decide, Or.inl jw_150⟩
theorem flX1_22 : jFL RX1 22 1 2 := ⟨by decide, by decide, Or.inl jw_151⟩
theorem flX4_9 : jFL RX4 9 4 0 := ⟨by decide, by decide, Or.inl jw_165⟩
theorem flX4_15 : jFL RX4 15 4 1 := ⟨by decide, by decide, Or.inl jw_166⟩
theorem flX5_30 : jFL RX5 30 4 2 := ⟨by decide, by decide, Or.inr ⟨_, jw_167⟩⟩
theorem flX4_24 : jFL RX4 24 4 2 := ⟨by decide, by decide, Or.inl jw_168⟩
theorem flX4_21 : jFL RX4 21 4 3 := ⟨by decide, by decide, Or.inl jw_169⟩
theorem flX5_33 : jFL RX5 33 4 4 := ⟨by decide, by decide, Or.inr ⟨_, jw_170⟩⟩
theorem flX4_41 : jFL RX4 41 4 4 := ⟨by decide, by decide, Or.inl jw_171⟩
theorem flX5_37 : jFL RX5 37 4 5 := ⟨by decide, by decide, Or.inr ⟨_, jw_172⟩⟩
theorem flX4_35 : jFL RX4 35 4 5 := ⟨by decide, by decide, Or.inl jw_173⟩
theorem flX5_40 : jFL RX5 40 4 6 := ⟨by decide, by decide, Or.inr ⟨_, jw_174⟩⟩
theorem flX4_38 : jFL RX4 38 4 6 := ⟨by decide, by decide, Or.inl jw_175⟩
theorem flX5_9 : jFL RX5 9 5 0 := ⟨by decide, by decide, Or.inl jw_198⟩
theorem flX5_65 : jFL RX5 65 5 1 := ⟨by decide, by decide, Or.inl jw_199⟩
theorem flX5_15 : jFL RX5 15 5 2 := ⟨by decide, by decide, Or.inl jw_200⟩
theorem flX5_68 : jFL RX5 68 5 3 := ⟨by decide, by decide, Or.inl jw_201⟩
theorem flX6_10 : jFL RX6 10 6 0 := ⟨by decide, by decide, Or.inl jw_211⟩
theorem flX6_16 : jFL RX6 16 6 1 := ⟨by decide, by decide, Or.inl jw_212⟩
theorem flX6_22 : jFL RX6 22 6 2 := ⟨by decide, by decide, Or.inl jw_213⟩
theorem flX6_29 : jFL RX6 29 6 3 := ⟨by decide, by decide, Or.inl jw_214⟩
theorem flX6_36 : jFL RX6 36 6 4 := ⟨by decide, by decide, Or.inl jw_215⟩
theorem flX7_7 : jFL RX7 7 7 0 := ⟨by decide, by decide, Or.inl jw_705⟩
theorem flX7_13 : jFL RX7 13 7 1 := ⟨by decide, by decide, Or.inl jw_706⟩
theorem flX7_16 : jFL RX7 16 7 2 := ⟨by decide, by decide, Or.inl jw_707⟩
theorem flX7_26 : jFL RX7 26 7 3 := ⟨by decide, by decide, Or.inl jw_708⟩
theorem flX7_19 : jFL RX7 19 7 4 := ⟨by decide, by decide, Or.inl jw_709⟩
theorem flX7_135 : jFL RX7 135 7 5 := ⟨by decide, by decide, Or.inl jw_710⟩
theorem flX7_138 : jFL RX7 138 7 6 := ⟨by decide, by decide, Or.inl jw_711⟩
theorem flX7_161 : jFL RX7 161 7 7 := ⟨by decide, by decide, Or.inl jw_712⟩
theorem flX7_158 : jFL RX7 158 7 8 := ⟨by decide, by decide, Or.inl jw_713⟩
theorem flX7_176 : jFL RX7 176 7 9 := ⟨by decide, by decide, Or.inl jw_714⟩
theorem flX7_144 : jFL RX7 144 7 10 := ⟨by decide, by decide, Or.inl jw_715⟩
theorem flX7_152 : jFL RX7 152 7 11 := ⟨by decide, by decide, Or.inl jw_716⟩
theorem flX7_155 : jFL RX7 155 7 12 := ⟨by decide, by decide, Or.inl jw_717⟩
theorem mlL_9 : jML RL 9 yX6_init := Or.inl jw_13
theorem mlX6_9 : jML RX6 9 yX2_init := Or.inl jw_21
theorem mlX2_30 : jML RX2 30 yX0_init := Or.inr ⟨_, jw_30⟩
theorem mlX2_31 : jML RX2 31 yX3_init := Or.inr ⟨_, jw_91⟩
theorem mlX6_21 : jML RX6 21 yX1_init := Or.inl jw_142
theorem mlX1_17 : jML RX1 17 yX2_init := Or.inl jw_148
theorem mlX6_28 : jML RX6 28 yX4_init := Or.inr ⟨_, jw_161⟩
theorem mlX6_35 : jML RX6 35 yX5_init := Or.inr ⟨_, jw_194⟩
theorem mlL_13 : jML RL 13 yX6_boiler := Or.inl jw_227
theorem mlX6_40 : jML RX6 40 yX6_trialOfNow := Or.inl jw_231
theorem mlX6_144 : jML RX6 144 yX2_copyFrom := Or.inl jw_235
theorem mlX2_48 : jML RX2 48 yX2_copyNumbers := Or.inl jw_239
theorem mlX2_52 : jML RX2 52 yX2_boilerAt := Or.inl jw_242
theorem mlX2_56 : jML RX2 56 yX0_copyFrom := Or.inl jw_246
theorem mlX2_60 : jML RX2 60 yX2_inspectorAt := Or.inl jw_250
theorem mlX2_64 : jML RX2 64 yX3_copyFrom := Or.inl jw_254
theorem mlX6_44 : jML RX6 44 yX2_addBoiler := Or.inl jw_258
theorem mlX2_69 : jML RX2 69 yX0_begin := Or.inl jw_264
theorem mlX6_48 : jML RX6 48 yX6_settle := Or.inl jw_268
theorem mlX6_148 : jML RX6 148 yX6_isError := Or.inl jw_272
theorem mlX6_152 : jML RX6 152 yX1_keep := Or.inl jw_276
theorem mlX1_25 : jML RX1 25 yX1_stateAt := Or.inl jw_280
theorem mlX1_29 : jML RX1 29 yX2_copyFrom := Or.inl jw_284
theorem mlX1_33 : jML RX1 33 yJ9_min_7cf53 := Or.inl jw_285
theorem mlL_18 : jML RL 18 yX6_inspector := Or.inl jw_288
theorem mlX6_51 : jML RX6 51 yX2_addInspector := Or.inl jw_292
theorem mlX2_73 : jML RX2 73 yX6_isInsurer := Or.inr ⟨_, jw_296⟩
theorem mlX2_77 : jML RX2 77 yX3_begin := Or.inl jw_299
theorem mlL_23 : jML RL 23 yX6_press := Or.inl jw_303
theorem mlX6_55 : jML RX6 55 yX2_changePressure := Or.inl jw_307
theorem mlL_27 : jML RL 27 yX6_inspect := Or.inl jw_312
theorem mlX6_58 : jML RX6 58 yX2_examine := Or.inl jw_316
theorem mlX2_93 : jML RX2 93 yX0_whyNotInspectedBy := Or.inl jw_320
theorem mlX0_59 : jML RX0 59 yX3_left := Or.inl jw_324
theorem mlX2_100 : jML RX2 100 yX2_pressureOffered := Or.inl jw_328
theorem mlX2_118 : jML RX2 118 yX2_settingAt := Or.inl jw_332
theorem mlX2_199 : jML RX2 199 yX0_strength := Or.inl jw_336
theorem mlX2_104 : jML RX2 104 yX2_lastWeekOffered := Or.inl jw_340
theorem mlX2_107 : jML RX2 107 yX0_takePaper := Or.inl jw_344
theorem mlX2_111 : jML RX2 111 yX0_refusePaper := Or.inl jw_348
theorem mlX2_114 : jML RX2 114 yX3_noteInspection := Or.inl jw_352
theorem mlX2_122 : jML RX2 122 yX2_ownerPays := Or.inl jw_356
theorem mlL_31 : jML RL 31 yX6_fire := Or.inl jw_360
theorem mlX6_61 : jML RX6 61 yX2_light := Or.inl jw_364
theorem mlX2_125 : jML RX2 125 yX0_whyNotFiredIn := Or.inl jw_368
theorem mlX0_55 : jML RX0 55 yX0_isShutIn := Or.inl jw_372
theorem mlL_35 : jML RL 35 yX6_out := Or.inl jw_376
theorem mlX6_64 : jML RX6 64 yX2_putOut := Or.inl jw_380
theorem mlX2_131 : jML RX2 131 yX0_becomeCold := Or.inl jw_384
theorem mlL_39 : jML RL 39 yX6_plan := Or.inl jw_388
theorem mlX6_67 : jML RX6 67 yX2_planShutdown := Or.inl jw_392
theorem mlL_44 : jML RL 44 yX6_repair := Or.inl jw_396
theorem mlX6_71 : jML RX6 71 yX2_sendToRepair := Or.inl jw_400
theorem mlL_48 : jML RL 48 yX6_pass := Or.inl jw_404
theorem mlX6_74 : jML RX6 74 yX2_letWeeksPass := Or.inl jw_408
theorem mlX2_150 : jML RX2 150 yX2_letOneWeekPass := Or.inl jw_412
theorem mlX2_154 : jML RX2 154 yX3_beginWeek := Or.inl jw_416
theorem mlX2_157 : jML RX2 157 yX0_age := Or.inl jw_420
theorem mlX0_65 : jML RX0 65 yJ9_min_7cf53 := Or.inl jw_424
theorem mlX2_160 : jML RX2 160 yX0_endRepairIn := Or.inl jw_425
theorem mlX0_71 : jML RX0 71 yX0_becomeCold := Or.inl jw_429
theorem mlX2_163 : jML RX2 163 yX0_dropWhatIsPastIn := Or.inl jw_430
theorem mlX2_166 : jML RX2 166 yX0_mustGoOutIn := Or.inl jw_434
theorem mlL_52 : jML RL 52 yX6_set := Or.inl jw_438
theorem mlX6_77 : jML RX6 77 yX2_changeSetting := Or.inl jw_442
theorem mlL_56 : jML RL 56 yX6_boilerOf := Or.inl jw_448
theorem mlX6_80 : jML RX6 80 yX2_factOfBoiler := Or.inl jw_452
theorem mlX2_191 : jML RX2 191 yX0_fact := Or.inl jw_456
theorem mlX0_76 : jML RX0 76 yX0_strength := Or.inl jw_461
theorem mlL_60 : jML RL 60 yX6_paperOf := Or.inl jw_463
theorem mlX6_83 : jML RX6 83 yX2_factOfPaper := Or.inl jw_467
theorem mlX2_194 : jML RX2 194 yX0_factOfPaper := Or.inl jw_471
theorem mlL_64 : jML RL 64 yX6_inspectorOf := Or.inl jw_475
theorem mlX6_86 : jML RX6 86 yX2_factOfInspector := Or.inl jw_479
theorem mlX2_197 : jML RX2 197 yX3_fact := Or.inl jw_483
theorem mlX3_27 : jML RX3 27 yX3_left := Or.inl jw_487
theorem mlL_68 : jML RL 68 yX6_why := Or.inl jw_489
theorem mlX6_89 : jML RX6 89 yX2_whyNotFired := Or.inl jw_493
theorem mlX6_92 : jML RX6 92 yX2_whyNotInspected := Or.inl jw_497
theorem mlL_72 : jML RL 72 yX6_account := Or.inl jw_501
theorem mlX6_95 : jML RX6 95 yX2_balanceOf := Or.inl jw_505
theorem mlL_76 : jML RL 76 yX6_would := Or.inl jw_509
theorem mlX6_98 : jML RX6 98 yX2_paperThatWouldBe := Or.inl jw_513
theorem mlL_80 : jML RL 80 yX6_better := Or.inl jw_518
theorem mlX6_101 : jML RX6 101 yX2_betterInsurer := Or.inl jw_522
theorem mlX2_203 : jML RX2 203 yX2_isOneBetter := Or.inl jw_526
theorem mlL_84 : jML RL 84 yX6_first := Or.inl jw_530
theorem mlX6_104 : jML RX6 104 yX2_firstToRunOut := Or.inl jw_534
theorem mlL_88 : jML RL 88 yX6_goesOn := Or.inl jw_538
theorem mlX6_107 : jML RX6 107 yX2_weeksUntilPutOut := Or.inl jw_542
theorem mlX2_207 : jML RX2 207 yX0_weeksUntilPutOut := Or.inl jw_546
theorem mlL_92 : jML RL 92 yX6_share := Or.inl jw_551
theorem mlX6_110 : jML RX6 110 yX2_shareOfStrength := Or.inl jw_555
theorem mlX2_210 : jML RX2 210 yX2_bitsOfShare := Or.inl jw_559
theorem mlL_96 : jML RL 96 yX6_count := Or.inl jw_563
theorem mlX6_113 : jML RX6 113 yX1_size := Or.inl jw_567
theorem mlX6_117 : jML RX6 117 yX4_length := Or.inl jw_571
theorem mlX6_120 : jML RX6 120 yX2_numberOf := Or.inl jw_575
theorem mlX2_215 : jML RX2 215 yX2_setOfBoilers := Or.inl jw_579
theorem mlX2_224 : jML RX2 224 yX2_isInSet := Or.inl jw_583
theorem mlX2_218 : jML RX2 218 yX2_allAccounts := Or.inl jw_587
theorem mlX2_221 : jML RX2 221 yX2_allOfInspectors := Or.inl jw_591
theorem mlL_100 : jML RL 100 yX6_undo := Or.inl jw_595
theorem mlX6_123 : jML RX6 123 yX1_bringBack := Or.inl jw_599
theorem mlL_105 : jML RL 105 yX6_type := Or.inl jw_604
theorem mlX6_127 : jML RX6 127 yX4_append := Or.inl jw_608
theorem mlL_109 : jML RL 109 yX6_clearText := Or.inl jw_614
theorem mlX6_130 : jML RX6 130 yX4_empty := Or.inl jw_618
theorem mlL_113 : jML RL 113 yX6_fault := Or.inl jw_622
theorem mlX6_134 : jML RX6 134 yX5_run := Or.inl jw_626
theorem mlX5_18 : jML RX5 18 yX4_goToStart := Or.inl jw_630
theorem mlX5_23 : jML RX5 23 yX4_hasMore := Or.inl jw_634
theorem mlX5_27 : jML RX5 27 yX4_readOrder := Or.inl jw_638
theorem mlX4_27 : jML RX4 27 yX4_readKind := Or.inl jw_642
theorem mlX4_49 : jML RX4 49 yX4_signHere := Or.inl jw_646
theorem mlX4_31 : jML RX4 31 yX4_readNumber := Or.inl jw_650
theorem mlX4_52 : jML RX4 52 yX4_readDigit := Or.inl jw_654
theorem mlX4_45 : jML RX4 45 yX4_readSign := Or.inl jw_658
theorem mlX5_43 : jML RX5 43 yX2_obey := Or.inl jw_662
theorem mlX2_172 : jML RX2 172 yX2_addBoiler := Or.inl jw_666
theorem mlX2_175 : jML RX2 175 yX2_examine := Or.inl jw_667
theorem mlX2_179 : jML RX2 179 yX2_light := Or.inl jw_668
theorem mlX2_182 : jML RX2 182 yX2_putOut := Or.inl jw_669
theorem mlX2_185 : jML RX2 185 yX2_sendToRepair := Or.inl jw_670
theorem mlX2_188 : jML RX2 188 yX2_letWeeksPass := Or.inl jw_671
theorem mlX5_49 : jML RX5 49 yX5_takeAnswer := Or.inl jw_672
theorem mlX5_61 : jML RX5 61 yX6_isError := Or.inr ⟨_, jw_676⟩
theorem mlX5_57 : jML RX5 57 yX5_stopAt := Or.inl jw_677
theorem mlX5_53 : jML RX5 53 yX4_brokeOffAt := Or.inl jw_681
theorem mlX6_138 : jML RX6 138 yX5_factOfFault := Or.inl jw_685
theorem mlL_117 : jML RL 117 yX6_play := Or.inl jw_690
theorem mlX6_141 : jML RX6 141 yX5_ordersDone := Or.inl jw_694
theorem mlL_12 : jML RL 12 yX7_init := Or.inl jw_701
theorem mlL_17 : jML RL 17 yX7_boiler := Or.inl jw_745
theorem mlX7_97 : jML RX7 97 yX7_begins := Or.inl jw_749
theorem mlX7_100 : jML RX7 100 yX7_comes := Or.inl jw_753
theorem mlX7_30 : jML RX7 30 yX7_in := Or.inl jw_757
theorem mlX7_52 : jML RX7 52 yX7_lays := Or.inl jw_762
theorem mlX7_103 : jML RX7 103 yX7_acted := Or.inl jw_766
theorem mlX7_23 : jML RX7 23 yX7_returns := Or.inl jw_770
theorem mlL_22 : jML RL 22 yX7_inspector := Or.inl jw_774
theorem mlL_26 : jML RL 26 yX7_press := Or.inl jw_778
theorem mlX7_67 : jML RX7 67 yX7_isBoiler := Or.inl jw_782
theorem mlX7_34 : jML RX7 34 yX7_of := Or.inl jw_786
theorem mlL_30 : jML RL 30 yX7_inspect := Or.inl jw_791
theorem mlX7_106 : jML RX7 106 yX7_inspects := Or.inl jw_795
theorem mlX7_70 : jML RX7 70 yX7_isInspector := Or.inl jw_799
theorem mlX7_73 : jML RX7 73 yX7_whyNotInspected := Or.inl jw_803
theorem mlX7_49 : jML RX7 49 yX7_by := Or.inl jw_807
theorem mlX7_77 : jML RX7 77 yX7_pressureBy := Or.inl jw_811
theorem mlX7_38 : jML RX7 38 yX7_strength := Or.inl jw_815
theorem mlX7_80 : jML RX7 80 yX7_pays := Or.inl jw_819
theorem mlX7_84 : jML RX7 84 yX7_counts := Or.inl jw_823
theorem mlX7_87 : jML RX7 87 yX7_lastBy := Or.inl jw_827
theorem mlL_34 : jML RL 34 yX7_fire := Or.inl jw_831
theorem mlX7_109 : jML RX7 109 yX7_fires := Or.inl jw_835
theorem mlX7_90 : jML RX7 90 yX7_whyNotFired := Or.inl jw_839
theorem mlX7_42 : jML RX7 42 yX7_isShut := Or.inl jw_843
theorem mlX7_46 : jML RX7 46 yX7_hasPaper := Or.inl jw_847
theorem mlL_38 : jML RL 38 yX7_out := Or.inl jw_851
theorem mlX7_112 : jML RX7 112 yX7_puts := Or.inl jw_855
theorem mlX7_56 : jML RX7 56 yX7_cools := Or.inl jw_859
theorem mlL_43 : jML RL 43 yX7_plan := Or.inl jw_863
theorem mlL_47 : jML RL 47 yX7_repair := Or.inl jw_867
theorem mlX7_115 : jML RX7 115 yX7_sends := Or.inl jw_871
theorem mlL_51 : jML RL 51 yX7_pass := Or.inl jw_875
theorem mlX7_118 : jML RX7 118 yX7_passes := Or.inl jw_879
theorem mlX7_93 : jML RX7 93 yX7_week := Or.inl jw_883
theorem mlX7_60 : jML RX7 60 yX7_grows := Or.inl jw_887
theorem mlX7_63 : jML RX7 63 yX7_repairs := Or.inl jw_891
theorem mlL_55 : jML RL 55 yX7_set := Or.inl jw_895
theorem mlL_59 : jML RL 59 yX7_boilerOf := Or.inl jw_899
theorem mlL_63 : jML RL 63 yX7_paperOf := Or.inl jw_904
theorem mlL_67 : jML RL 67 yX7_inspectorOf := Or.inl jw_908
theorem mlL_71 : jML RL 71 yX7_why := Or.inl jw_912
theorem mlL_75 : jML RL 75 yX7_account := Or.inl jw_916
theorem mlL_79 : jML RL 79 yX7_would := Or.inl jw_920
theorem mlL_83 : jML RL 83 yX7_better := Or.inl jw_924
theorem mlX7_122 : jML RX7 122 yX7_wouldDo := Or.inl jw_928
theorem mlL_87 : jML RL 87 yX7_first := Or.inl jw_932
theorem mlL_91 : jML RL 91 yX7_goesOn := Or.inl jw_936
theorem mlL_95 : jML RL 95 yX7_share := Or.inl jw_940
theorem mlX7_126 : jML RX7 126 yJxf58ca_floatToIntBits_5c35a := Or.inl jw_944
theorem mlJxf58ca_59 : jML RJxf58ca 59 yJxf58ca_isNaN_12338 := Or.inl jw_947
theorem mlL_99 : jML RL 99 yX7_count := Or.inl jw_954
theorem mlX7_132 : jML RX7 132 yX7_set0 := Or.inl jw_958
theorem mlL_104 : jML RL 104 yX7_undo := Or.inl jw_962
theorem mlL_108 : jML RL 108 yX7_type := Or.inl jw_966
theorem mlL_112 : jML RL 112 yX7_clearText := Or.inl jw_970
theorem mlL_116 : jML RL 116 yX7_fault := Or.inl jw_974
theorem mlX7_179 : jML RX7 179 yX7_doesAll := Or.inl jw_978
theorem mlX7_141 : jML RX7 141 yX7_here := Or.inl jw_982
theorem mlX7_164 : jML RX7 164 yX7_isOrder := Or.inl jw_986
theorem mlX7_167 : jML RX7 167 yX7_number := Or.inl jw_989
theorem mlX7_148 : jML RX7 148 yX7_isDigit := Or.inl jw_993
theorem mlX7_170 : jML RX7 170 yX7_takesSign := Or.inl jw_997
theorem mlX7_173 : jML RX7 173 yX7_called := Or.inl jw_1001
theorem mlL_120 : jML RL 120 yX7_play := Or.inl jw_1005
theorem okX6_init : jOkI mX6_init 0 := ⟨⟨jw_15, jw_1, ⟨by decide, by decide, by decide +kernel⟩, by decide⟩, jw_14, rfl, rfl⟩
theorem okX2_init : jOkI mX2_init 0 := ⟨⟨jw_23, jw_2, ⟨by decide, by decide, by decide +kernel⟩, by decide⟩, jw_22, rfl, rfl⟩
theorem okX0_init : jOkI mX0_init 0 := ⟨⟨jw_32, jw_3, ⟨by decide, by decide, by decide +kernel⟩, by decide⟩, jw_31, rfl, rfl⟩
theorem okX3_init : jOkI mX3_init 0 := ⟨⟨jw_93, jw_4, ⟨by decide, by decide, by decide +kernel⟩, by decide⟩, jw_92, rfl, rfl⟩
theorem okX1_init : jOkI mX1_init 0 := ⟨⟨jw_144, jw_5, ⟨by decide, by decide, by decide +kernel⟩, by decide⟩, jw_143, rfl, rfl⟩
theorem okX4_init : jOkI mX4_init 0 := ⟨⟨jw_163, jw_6, ⟨by decide, by decide, by decide +kernel⟩, by decide⟩, jw_162, rfl, rfl⟩
theorem okX5_init : jOkI mX5_init 0 := ⟨⟨jw_196, jw_7, ⟨by decide, by decide, by decide +kernel⟩, by decide⟩, jw_195, rfl, rfl⟩
theorem okX6_boiler : jOkV mX6_boiler 1 := ⟨⟨jw_230, jw_1, ⟨by decide, by decide, by decide +kernel⟩, by decide⟩, jw_228, jw_229⟩
theorem okX6_trialOfNow : jOkV mX6_trialOfNow 0 := ⟨⟨jw_234, jw_1, ⟨by decide, by decide, by decide +kernel⟩, by decide⟩, jw_233, jws_0⟩
theorem okX2_copyFrom : jOkV mX2_copyFrom 1 := ⟨⟨jw_238, jw_2, ⟨by decide, by decide, by decide +kernel⟩, by decide⟩, jw_236, jw_237⟩
theorem okX2_copyNumbers : jOkS mX2_copyNumbers 2 := ⟨⟨jw_241, jw_2, ⟨by decide, by decide, by decide +kernel⟩, by decide⟩, jw_240⟩
theorem okX2_boilerAt : jOkV mX2_boilerAt 1 := ⟨⟨jw_245, jw_2, ⟨by decide, by decide, by decide +kernel⟩, by decide⟩, jw_244, jws_1⟩
theorem okX0_copyFrom : jOkV mX0_copyFrom 1 := ⟨⟨jw_249, jw_3, ⟨by decide, by decide, by decide +kernel⟩, by decide⟩, jw_247, jw_248⟩
theorem okX2_inspectorAt : jOkV mX2_inspectorAt 1 := ⟨⟨jw_253, jw_2, ⟨by decide, by decide, by decide +kernel⟩, by decide⟩, jw_252, jws_2⟩
theorem okX3_copyFrom : jOkV mX3_copyFrom 1 := ⟨⟨jw_257, jw_4, ⟨by decide, by decide, by decide +kernel⟩, by decide⟩, jw_255, jw_256⟩
theorem okX2_addBoiler : jOkV mX2_addBoiler 1 := ⟨⟨jw_261, jw_2, ⟨by decide, by decide, by decide +kernel⟩, by decide⟩, jw_259, jw_260⟩
theorem okX0_begin : jOkV mX0_begin 1 := ⟨⟨jw_267, jw_3, ⟨by decide, by decide, by decide +kernel⟩, by decide⟩, jw_265, jw_266⟩
theorem okX6_settle : jOkV mX6_settle 1 := ⟨⟨jw_271, jw_1, ⟨by decide, by decide, by decide +kernel⟩, by decide⟩, jw_270, jws_3⟩
theorem okX6_isError : jOkS mX6_isError 1 := ⟨⟨jw_274, jw_1, ⟨by decide, by decide, by decide +kernel⟩, by decide⟩, jw_273⟩
theorem okX1_keep : jOkV mX1_keep 1 := ⟨⟨jw_279, jw_5, ⟨by decide, by decide, by decide +kernel⟩, by decide⟩, jw_277, jw_278⟩
theorem okX1_stateAt : jOkV mX1_stateAt 1 := ⟨⟨jw_283, jw_5, ⟨by decide, by decide, by decide +kernel⟩, by decide⟩, jw_282, jws_4⟩
theorem okJ9_min_7cf53 : jOkS mJ9_min_7cf53 2 := ⟨⟨jw_287, jw_9, ⟨by decide, by decide, by decide +kernel⟩, by decide⟩, jw_286⟩
theorem okX6_inspector : jOkV mX6_inspector 2 := ⟨⟨jw_291, jw_1, ⟨by decide, by decide, by decide +kernel⟩, by decide⟩, jw_289, jw_290⟩
theorem okX2_addInspector : jOkV mX2_addInspector 2 := ⟨⟨jw_295, jw_2, ⟨by decide, by decide, by decide +kernel⟩, by decide⟩, jw_293, jw_294⟩
theorem okX6_isInsurer : jOkS mX6_isInsurer 1 := ⟨⟨jw_298, jw_1, ⟨by decide, by decide, by decide +kernel⟩, by decide⟩, jw_297⟩
theorem okX3_begin : jOkV mX3_begin 2 := ⟨⟨jw_302, jw_4, ⟨by decide, by decide, by decide +kernel⟩, by decide⟩, jw_300, jw_301⟩
theorem okX6_press : jOkV mX6_press 2 := ⟨⟨jw_306, jw_1, ⟨by decide, by decide, by decide +kernel⟩, by decide⟩, jw_304, jw_305⟩
theorem okX2_changePressure : jOkV mX2_changePressure 2 := ⟨⟨jw_310, jw_2, ⟨by decide, by decide, by decide +kernel⟩, by decide⟩, jw_308, jw_309⟩
theorem okX6_inspect : jOkV mX6_inspect 2 := ⟨⟨jw_315, jw_1, ⟨by decide, by decide, by decide +kernel⟩, by decide⟩, jw_313, jw_314⟩
theorem okX2_examine : jOkV mX2_examine 2 := ⟨⟨jw_319, jw_2, ⟨by decide, by decide, by decide +kernel⟩, by decide⟩, jw_317, jw_318⟩
theorem okX0_whyNotInspectedBy : jOkV mX0_whyNotInspectedBy 1 := ⟨⟨jw_323, jw_3, ⟨by decide, by decide, by decide +kernel⟩, by decide⟩, jw_321, jw_322⟩
theorem okX3_left : jOkV mX3_left 0 := ⟨⟨jw_327, jw_4, ⟨by decide, by decide, by decide +kernel⟩, by decide⟩, jw_325, jw_326⟩
theorem okX2_pressureOffered : jOkV mX2_pressureOffered 2 := ⟨⟨jw_331, jw_2, ⟨by decide, by decide, by decide +kernel⟩, by decide⟩, jw_330, jws_5⟩
theorem okX2_settingAt : jOkV mX2_settingAt 1 := ⟨⟨jw_335, jw_2, ⟨by decide, by decide, by decide +kernel⟩, by decide⟩, jw_334, jws_6⟩
theorem okX0_strength : jOkV mX0_strength 0 := ⟨⟨jw_339, jw_3, ⟨by decide, by decide, by decide +kernel⟩, by decide⟩, jw_337, jw_338⟩
theorem okX2_lastWeekOffered : jOkV mX2_lastWeekOffered 2 := ⟨⟨jw_343, jw_2, ⟨by decide, by decide, by decide +kernel⟩, by decide⟩, jw_342, jws_7⟩
theorem okX0_takePaper : jOkV mX0_takePaper 3 := ⟨⟨jw_347, jw_3, ⟨by decide, by decide, by decide +kernel⟩, by decide⟩, jw_345, jw_346⟩
theorem okX0_refusePaper : jOkV mX0_refusePaper 0 := ⟨⟨jw_351, jw_3, ⟨by decide, by decide, by decide +kernel⟩, by decide⟩, jw_349, jw_350⟩
theorem okX3_noteInspection : jOkV mX3_noteInspection 1 := ⟨⟨jw_355, jw_4, ⟨by decide, by decide, by decide +kernel⟩, by decide⟩, jw_353, jw_354⟩
theorem okX2_ownerPays : jOkV mX2_ownerPays 2 := ⟨⟨jw_359, jw_2, ⟨by decide, by decide, by decide +kernel⟩, by decide⟩, jw_358, jws_8⟩
theorem okX6_fire : jOkV mX6_fire 1 := ⟨⟨jw_363, jw_1, ⟨by decide, by decide, by decide +kernel⟩, by decide⟩, jw_361, jw_362⟩
theorem okX2_light : jOkV mX2_light 1 := ⟨⟨jw_367, jw_2, ⟨by decide, by decide, by decide +kernel⟩, by decide⟩, jw_365, jw_366⟩
theorem okX0_whyNotFiredIn : jOkV mX0_whyNotFiredIn 1 := ⟨⟨jw_371, jw_3, ⟨by decide, by decide, by decide +kernel⟩, by decide⟩, jw_369, jw_370⟩
theorem okX0_isShutIn : jOkV mX0_isShutIn 1 := ⟨⟨jw_375, jw_3, ⟨by decide, by decide, by decide +kernel⟩, by decide⟩, jw_373, jw_374⟩
theorem okX6_out : jOkV mX6_out 1 := ⟨⟨jw_379, jw_1, ⟨by decide, by decide, by decide +kernel⟩, by decide⟩, jw_377, jw_378⟩
theorem okX2_putOut : jOkV mX2_putOut 1 := ⟨⟨jw_383, jw_2, ⟨by decide, by decide, by decide +kernel⟩, by decide⟩, jw_381, jw_382⟩
theorem okX0_becomeCold : jOkV mX0_becomeCold 0 := ⟨⟨jw_387, jw_3, ⟨by decide, by decide, by decide +kernel⟩, by decide⟩, jw_385, jw_386⟩
theorem okX6_plan : jOkV mX6_plan 3 := ⟨⟨jw_391, jw_1, ⟨by decide, by decide, by decide +kernel⟩, by decide⟩, jw_389, jw_390⟩
theorem okX2_planShutdown : jOkV mX2_planShutdown 3 := ⟨⟨jw_395, jw_2, ⟨by decide, by decide, by decide +kernel⟩, by decide⟩, jw_393, jw_394⟩
theorem okX6_repair : jOkV mX6_repair 1 := ⟨⟨jw_399, jw_1, ⟨by decide, by decide, by decide +kernel⟩, by decide⟩, jw_397, jw_398⟩
theorem okX2_sendToRepair : jOkV mX2_sendToRepair 1 := ⟨⟨jw_403, jw_2, ⟨by decide, by decide, by decide +kernel⟩, by decide⟩, jw_401, jw_402⟩
theorem okX6_pass : jOkV mX6_pass 1 := ⟨⟨jw_407, jw_1, ⟨by decide, by decide, by decide +kernel⟩, by decide⟩, jw_405, jw_406⟩
theorem okX2_letWeeksPass : jOkV mX2_letWeeksPass 1 := ⟨⟨jw_411, jw_2, ⟨by decide, by decide, by decide +kernel⟩, by decide⟩, jw_409, jw_410⟩
theorem okX2_letOneWeekPass : jOkV mX2_letOneWeekPass 0 := ⟨⟨jw_415, jw_2, ⟨by decide, by decide, by decide +kernel⟩, by decide⟩, jw_414, jws_9⟩
theorem okX3_beginWeek : jOkV mX3_beginWeek 0 := ⟨⟨jw_419, jw_4, ⟨by decide, by decide, by decide +kernel⟩, by decide⟩, jw_417, jw_418⟩
theorem okX0_age : jOkV mX0_age 0 := ⟨⟨jw_423, jw_3, ⟨by decide, by decide, by decide +kernel⟩, by decide⟩, jw_421, jw_422⟩
theorem okX0_endRepairIn : jOkV mX0_endRepairIn 1 := ⟨⟨jw_428, jw_3, ⟨by decide, by decide, by decide +kernel⟩, by decide⟩, jw_426, jw_427⟩
theorem okX0_dropWhatIsPastIn : jOkV mX0_dropWhatIsPastIn 1 := ⟨⟨jw_433, jw_3, ⟨by decide, by decide, by decide +kernel⟩, by decide⟩, jw_431, jw_432⟩
theorem okX0_mustGoOutIn : jOkV mX0_mustGoOutIn 1 := ⟨⟨jw_437, jw_3, ⟨by decide, by decide, by decide +kernel⟩, by decide⟩, jw_435, jw_436⟩
theorem okX6_set : jOkV mX6_set 2 := ⟨⟨jw_441, jw_1, ⟨by decide, by decide, by decide +kernel⟩, by decide⟩, jw_439, jw_440⟩
theorem okX2_changeSetting : jOkV mX2_changeSetting 2 := ⟨⟨jw_445, jw_2, ⟨by decide, by decide, by decide +kernel⟩, by decide⟩, jw_443, jw_444⟩
theorem okX6_boilerOf : jOkV mX6_boilerOf 2 := ⟨⟨jw_451, jw_1, ⟨by decide, by decide, by decide +kernel⟩, by decide⟩, jw_449, jw_450⟩
theorem okX2_factOfBoiler : jOkV mX2_factOfBoiler 2 := ⟨⟨jw_455, jw_2, ⟨by decide, by decide, by decide +kernel⟩, by decide⟩, jw_453, jw_454⟩
theorem okX0_fact : jOkV mX0_fact 2 := ⟨⟨jw_459, jw_3, ⟨by decide, by decide, by decide +kernel⟩, by decide⟩, jw_457, jw_458⟩
theorem okX6_paperOf : jOkV mX6_paperOf 2 := ⟨⟨jw_466, jw_1, ⟨by decide, by decide, by decide +kernel⟩, by decide⟩, jw_464, jw_465⟩
theorem okX2_factOfPaper : jOkV mX2_factOfPaper 2 := ⟨⟨jw_470, jw_2, ⟨by decide, by decide, by decide +kernel⟩, by decide⟩, jw_468, jw_469⟩
theorem okX0_factOfPaper : jOkV mX0_factOfPaper 1 := ⟨⟨jw_474, jw_3, ⟨by decide, by decide, by decide +kernel⟩, by decide⟩, jw_472, jw_473⟩
theorem okX6_inspectorOf : jOkV mX6_inspectorOf 2 := ⟨⟨jw_478, jw_1, ⟨by decide, by decide, by decide +kernel⟩, by decide⟩, jw_476, jw_477⟩
theorem okX2_factOfInspector : jOkV mX2_factOfInspector 2 := ⟨⟨jw_482, jw_2, ⟨by decide, by decide, by decide +kernel⟩, by decide⟩, jw_480, jw_481⟩
theorem okX3_fact : jOkV mX3_fact 1 := ⟨⟨jw_486, jw_4, ⟨by decide, by decide, by decide +kernel⟩, by decide⟩, jw_484, jw_485⟩
theorem okX6_why : jOkV mX6_why 2 := ⟨⟨jw_492, jw_1, ⟨by decide, by decide, by decide +kernel⟩, by decide⟩, jw_490, jw_491⟩
theorem okX2_whyNotFired : jOkV mX2_whyNotFired 1 := ⟨⟨jw_496, jw_2, ⟨by decide, by decide, by decide +kernel⟩, by decide⟩, jw_494, jw_495⟩
theorem okX2_whyNotInspected : jOkV mX2_whyNotInspected 2 := ⟨⟨jw_500, jw_2, ⟨by decide, by decide, by decide +kernel⟩, by decide⟩, jw_498, jw_499⟩
theorem okX6_account : jOkV mX6_account 1 := ⟨⟨jw_504, jw_1, ⟨by decide, by decide, by decide +kernel⟩, by decide⟩, jw_502, jw_503⟩
theorem okX2_balanceOf : jOkV mX2_balanceOf 1 := ⟨⟨jw_508, jw_2, ⟨by decide, by decide, by decide +kernel⟩, by decide⟩, jw_506, jw_507⟩
theorem okX6_would : jOkV mX6_would 3 := ⟨⟨jw_512, jw_1, ⟨by decide, by decide, by decide +kernel⟩, by decide⟩, jw_510, jw_511⟩
theorem okX2_paperThatWouldBe : jOkV mX2_paperThatWouldBe 3 := ⟨⟨jw_516, jw_2, ⟨by decide, by decide, by decide +kernel⟩, by decide⟩, jw_514, jw_515⟩
theorem okX6_better : jOkV mX6_better 1 := ⟨⟨jw_521, jw_1, ⟨by decide, by decide, by decide +kernel⟩, by decide⟩, jw_519, jw_520⟩
theorem okX2_betterInsurer : jOkV mX2_betterInsurer 1 := ⟨⟨jw_525, jw_2, ⟨by decide, by decide, by decide +kernel⟩, by decide⟩, jw_523, jw_524⟩
theorem okX2_isOneBetter : jOkV mX2_isOneBetter 1 := ⟨⟨jw_529, jw_2, ⟨by decide, by decide, by decide +kernel⟩, by decide⟩, jw_528, jws_10⟩
theorem okX6_first : jOkV mX6_first 1 := ⟨⟨jw_533, jw_1, ⟨by decide, by decide, by decide +kernel⟩, by decide⟩, jw_531, jw_532⟩
theorem okX2_firstToRunOut : jOkV mX2_firstToRunOut 1 := ⟨⟨jw_537, jw_2, ⟨by decide, by decide, by decide +kernel⟩, by decide⟩, jw_535, jw_536⟩
theorem okX6_goesOn : jOkV mX6_goesOn 1 := ⟨⟨jw_541, jw_1, ⟨by decide, by decide, by decide +kernel⟩, by decide⟩, jw_539, jw_540⟩
theorem okX2_weeksUntilPutOut : jOkV mX2_weeksUntilPutOut 1 := ⟨⟨jw_545, jw_2, ⟨by decide, by decide, by decide +kernel⟩, by decide⟩, jw_543, jw_544⟩
theorem okX0_weeksUntilPutOut : jOkV mX0_weeksUntilPutOut 1 := ⟨⟨jw_549, jw_3, ⟨by decide, by decide, by decide +kernel⟩, by decide⟩, jw_547, jw_548⟩
theorem okX6_share : jOkV mX6_share 1 := ⟨⟨jw_554, jw_1, ⟨by decide, by decide, by decide +kernel⟩, by decide⟩, jw_552, jw_553⟩
theorem okX2_shareOfStrength : jOkV mX2_shareOfStrength 1 := ⟨⟨jw_558, jw_2, ⟨by decide, by decide, by decide +kernel⟩, by decide⟩, jw_556, jw_557⟩
theorem okX2_bitsOfShare : jOkS mX2_bitsOfShare 1 := ⟨⟨jw_561, jw_2, ⟨by decide, by decide, by decide +kernel⟩, by decide⟩, jw_560⟩
theorem okX6_count : jOkV mX6_count 1 := ⟨⟨jw_566, jw_1, ⟨by decide, by decide, by decide +kernel⟩, by decide⟩, jw_564, jw_565⟩
theorem okX1_size : jOkV mX1_size 0 := ⟨⟨jw_570, jw_5, ⟨by decide, by decide, by decide +kernel⟩, by decide⟩, jw_568, jw_569⟩
theorem okX4_length : jOkV mX4_length 0 := ⟨⟨jw_574, jw_6, ⟨by decide, by decide, by decide +kernel⟩, by decide⟩, jw_572, jw_573⟩
theorem okX2_numberOf : jOkV mX2_numberOf 1 := ⟨⟨jw_578, jw_2, ⟨by decide, by decide, by decide +kernel⟩, by decide⟩, jw_576, jw_577⟩
theorem okX2_setOfBoilers : jOkV mX2_setOfBoilers 1 := ⟨⟨jw_582, jw_2, ⟨by decide, by decide, by decide +kernel⟩, by decide⟩, jw_581, jws_11⟩
theorem okX2_isInSet : jOkV mX2_isInSet 2 := ⟨⟨jw_586, jw_2, ⟨by decide, by decide, by decide +kernel⟩, by decide⟩, jw_585, jws_12⟩
theorem okX2_allAccounts : jOkV mX2_allAccounts 0 := ⟨⟨jw_590, jw_2, ⟨by decide, by decide, by decide +kernel⟩, by decide⟩, jw_589, jws_13⟩
theorem okX2_allOfInspectors : jOkV mX2_allOfInspectors 1 := ⟨⟨jw_594, jw_2, ⟨by decide, by decide, by decide +kernel⟩, by decide⟩, jw_593, jws_14⟩
theorem okX6_undo : jOkV mX6_undo 0 := ⟨⟨jw_598, jw_1, ⟨by decide, by decide, by decide +kernel⟩, by decide⟩, jw_596, jw_597⟩
theorem okX1_bringBack : jOkV mX1_bringBack 1 := ⟨⟨jw_602, jw_5, ⟨by decide, by decide, by decide +kernel⟩, by decide⟩, jw_600, jw_601⟩
theorem okX6_type : jOkV mX6_type 1 := ⟨⟨jw_607, jw_1, ⟨by decide, by decide, by decide +kernel⟩, by decide⟩, jw_605, jw_606⟩
theorem okX4_append : jOkV mX4_append 1 := ⟨⟨jw_611, jw_6, ⟨by decide, by decide, by decide +kernel⟩, by decide⟩, jw_609, jw_610⟩
theorem okX6_clearText : jOkV mX6_clearText 0 := ⟨⟨jw_617, jw_1, ⟨by decide, by decide, by decide +kernel⟩, by decide⟩, jw_615, jw_616⟩
theorem okX4_empty : jOkV mX4_empty 0 := ⟨⟨jw_621, jw_6, ⟨by decide, by decide, by decide +kernel⟩, by decide⟩, jw_619, jw_620⟩
theorem okX6_fault : jOkV mX6_fault 1 := ⟨⟨jw_625, jw_1, ⟨by decide, by decide, by decide +kernel⟩, by decide⟩, jw_623, jw_624⟩
theorem okX5_run : jOkV mX5_run 2 := ⟨⟨jw_629, jw_7, ⟨by decide, by decide, by decide +kernel⟩, by decide⟩, jw_627, jw_628⟩
theorem okX4_goToStart : jOkV mX4_goToStart 0 := ⟨⟨jw_633, jw_6, ⟨by decide, by decide, by decide +kernel⟩, by decide⟩, jw_631, jw_632⟩
theorem okX4_hasMore : jOkV mX4_hasMore 0 := ⟨⟨jw_637, jw_6, ⟨by decide, by decide, by decide +kernel⟩, by decide⟩, jw_635, jw_636⟩
theorem okX4_readOrder : jOkV mX4_readOrder 0 := ⟨⟨jw_641, jw_6, ⟨by decide, by decide, by decide +kernel⟩, by decide⟩, jw_639, jw_640⟩
theorem okX4_readKind : jOkV mX4_readKind 0 := ⟨⟨jw_645, jw_6, ⟨by decide, by decide, by decide +kernel⟩, by decide⟩, jw_644, jws_15⟩
theorem okX4_signHere : jOkV mX4_signHere 0 := ⟨⟨jw_649, jw_6, ⟨by decide, by decide, by decide +kernel⟩, by decide⟩, jw_648, jws_16⟩
theorem okX4_readNumber : jOkV mX4_readNumber 0 := ⟨⟨jw_653, jw_6, ⟨by decide, by decide, by decide +kernel⟩, by decide⟩, jw_652, jws_17⟩
theorem okX4_readDigit : jOkV mX4_readDigit 0 := ⟨⟨jw_657, jw_6, ⟨by decide, by decide, by decide +kernel⟩, by decide⟩, jw_656, jws_18⟩
theorem okX4_readSign : jOkV mX4_readSign 1 := ⟨⟨jw_661, jw_6, ⟨by decide, by decide, by decide +kernel⟩, by decide⟩, jw_660, jws_19⟩
theorem okX2_obey : jOkV mX2_obey 3 := ⟨⟨jw_665, jw_2, ⟨by decide, by decide, by decide +kernel⟩, by decide⟩, jw_663, jw_664⟩
theorem okX5_takeAnswer : jOkV mX5_takeAnswer 2 := ⟨⟨jw_675, jw_7, ⟨by decide, by decide, by decide +kernel⟩, by decide⟩, jw_674, jws_20⟩
theorem okX5_stopAt : jOkV mX5_stopAt 3 := ⟨⟨jw_680, jw_7, ⟨by decide, by decide, by decide +kernel⟩, by decide⟩, jw_679, jws_21⟩
theorem okX4_brokeOffAt : jOkV mX4_brokeOffAt 0 := ⟨⟨jw_684, jw_6, ⟨by decide, by decide, by decide +kernel⟩, by decide⟩, jw_682, jw_683⟩
theorem okX5_factOfFault : jOkV mX5_factOfFault 1 := ⟨⟨jw_688, jw_7, ⟨by decide, by decide, by decide +kernel⟩, by decide⟩, jw_686, jw_687⟩
theorem okX6_play : jOkV mX6_play 0 := ⟨⟨jw_693, jw_1, ⟨by decide, by decide, by decide +kernel⟩, by decide⟩, jw_691, jw_692⟩
theorem okX5_ordersDone : jOkV mX5_ordersDone 0 := ⟨⟨jw_697, jw_7, ⟨by decide, by decide, by decide +kernel⟩, by decide⟩, jw_695, jw_696⟩
theorem okX7_init : jOkI mX7_init 0 := ⟨⟨jw_703, jw_8, ⟨by decide, by decide, by decide +kernel⟩, by decide⟩, jw_702, rfl, rfl⟩
theorem okX7_boiler : jOkV mX7_boiler 1 := ⟨⟨jw_748, jw_8, ⟨by decide, by decide, by decide +kernel⟩, by decide⟩, jw_746, jw_747⟩
theorem okX7_begins : jOkV mX7_begins 0 := ⟨⟨jw_752, jw_8, ⟨by decide, by decide, by decide +kernel⟩, by decide⟩, jw_751, jws_22⟩
theorem okX7_comes : jOkV mX7_comes 1 := ⟨⟨jw_756, jw_8, ⟨by decide, by decide, by decide +kernel⟩, by decide⟩, jw_755, jws_23⟩
theorem okX7_in : jOkS mX7_in 3 := ⟨⟨jw_759, jw_8, ⟨by decide, by decide, by decide +kernel⟩, by decide⟩, jw_758⟩
theorem okX7_lays : jOkV mX7_lays 3 := ⟨⟨jw_765, jw_8, ⟨by decide, by decide, by decide +kernel⟩, by decide⟩, jw_764, jws_24⟩
theorem okX7_acted : jOkV mX7_acted 1 := ⟨⟨jw_769, jw_8, ⟨by decide, by decide, by decide +kernel⟩, by decide⟩, jw_768, jws_25⟩
theorem okX7_returns : jOkV mX7_returns 0 := ⟨⟨jw_773, jw_8, ⟨by decide, by decide, by decide +kernel⟩, by decide⟩, jw_772, jws_26⟩
theorem okX7_inspector : jOkV mX7_inspector 2 := ⟨⟨jw_777, jw_8, ⟨by decide, by decide, by decide +kernel⟩, by decide⟩, jw_775, jw_776⟩
theorem okX7_press : jOkV mX7_press 2 := ⟨⟨jw_781, jw_8, ⟨by decide, by decide, by decide +kernel⟩, by decide⟩, jw_779, jw_780⟩
theorem okX7_isBoiler : jOkV mX7_isBoiler 1 := ⟨⟨jw_785, jw_8, ⟨by decide, by decide, by decide +kernel⟩, by decide⟩, jw_784, jws_27⟩
theorem okX7_of : jOkV mX7_of 2 := ⟨⟨jw_789, jw_8, ⟨by decide, by decide, by decide +kernel⟩, by decide⟩, jw_788, jws_28⟩
theorem okX7_inspect : jOkV mX7_inspect 2 := ⟨⟨jw_794, jw_8, ⟨by decide, by decide, by decide +kernel⟩, by decide⟩, jw_792, jw_793⟩
theorem okX7_inspects : jOkV mX7_inspects 2 := ⟨⟨jw_798, jw_8, ⟨by decide, by decide, by decide +kernel⟩, by decide⟩, jw_797, jws_29⟩
theorem okX7_isInspector : jOkV mX7_isInspector 1 := ⟨⟨jw_802, jw_8, ⟨by decide, by decide, by decide +kernel⟩, by decide⟩, jw_801, jws_30⟩
theorem okX7_whyNotInspected : jOkV mX7_whyNotInspected 2 := ⟨⟨jw_806, jw_8, ⟨by decide, by decide, by decide +kernel⟩, by decide⟩, jw_805, jws_31⟩
theorem okX7_by : jOkV mX7_by 2 := ⟨⟨jw_810, jw_8, ⟨by decide, by decide, by decide +kernel⟩, by decide⟩, jw_809, jws_32⟩
theorem okX7_pressureBy : jOkV mX7_pressureBy 2 := ⟨⟨jw_814, jw_8, ⟨by decide, by decide, by decide +kernel⟩, by decide⟩, jw_813, jws_33⟩
theorem okX7_strength : jOkV mX7_strength 1 := ⟨⟨jw_818, jw_8, ⟨by decide, by decide, by decide +kernel⟩, by decide⟩, jw_817, jws_34⟩
theorem okX7_pays : jOkV mX7_pays 2 := ⟨⟨jw_822, jw_8, ⟨by decide, by decide, by decide +kernel⟩, by decide⟩, jw_821, jws_35⟩
theorem okX7_counts : jOkV mX7_counts 2 := ⟨⟨jw_826, jw_8, ⟨by decide, by decide, by decide +kernel⟩, by decide⟩, jw_825, jws_36⟩
theorem okX7_lastBy : jOkV mX7_lastBy 2 := ⟨⟨jw_830, jw_8, ⟨by decide, by decide, by decide +kernel⟩, by decide⟩, jw_829, jws_37⟩
theorem okX7_fire : jOkV mX7_fire 1 := ⟨⟨jw_834, jw_8, ⟨by decide, by decide, by decide +kernel⟩, by decide⟩, jw_832, jw_833⟩
theorem okX7_fires : jOkV mX7_fires 1 := ⟨⟨jw_838, jw_8, ⟨by decide, by decide, by decide +kernel⟩, by decide⟩, jw_837, jws_38⟩
theorem okX7_whyNotFired : jOkV mX7_whyNotFired 1 := ⟨⟨jw_842, jw_8, ⟨by decide, by decide, by decide +kernel⟩, by decide⟩, jw_841, jws_39⟩
theorem okX7_isShut : jOkV mX7_isShut 1 := ⟨⟨jw_846, jw_8, ⟨by decide, by decide, by decide +kernel⟩, by decide⟩, jw_845, jws_40⟩
theorem okX7_hasPaper : jOkV mX7_hasPaper 1 := ⟨⟨jw_850, jw_8, ⟨by decide, by decide, by decide +kernel⟩, by decide⟩, jw_849, jws_41⟩
theorem okX7_out : jOkV mX7_out 1 := ⟨⟨jw_854, jw_8, ⟨by decide, by decide, by decide +kernel⟩, by decide⟩, jw_852, jw_853⟩
theorem okX7_puts : jOkV mX7_puts 1 := ⟨⟨jw_858, jw_8, ⟨by decide, by decide, by decide +kernel⟩, by decide⟩, jw_857, jws_42⟩
theorem okX7_cools : jOkV mX7_cools 1 := ⟨⟨jw_862, jw_8, ⟨by decide, by decide, by decide +kernel⟩, by decide⟩, jw_861, jws_43⟩
theorem okX7_plan : jOkV mX7_plan 3 := ⟨⟨jw_866, jw_8, ⟨by decide, by decide, by decide +kernel⟩, by decide⟩, jw_864, jw_865⟩
theorem okX7_repair : jOkV mX7_repair 1 := ⟨⟨jw_870, jw_8, ⟨by decide, by decide, by decide +kernel⟩, by decide⟩, jw_868, jw_869⟩
theorem okX7_sends : jOkV mX7_sends 1 := ⟨⟨jw_874, jw_8, ⟨by decide, by decide, by decide +kernel⟩, by decide⟩, jw_873, jws_44⟩
theorem okX7_pass : jOkV mX7_pass 1 := ⟨⟨jw_878, jw_8, ⟨by decide, by decide, by decide +kernel⟩, by decide⟩, jw_876, jw_877⟩
theorem okX7_passes : jOkV mX7_passes 1 := ⟨⟨jw_882, jw_8, ⟨by decide, by decide, by decide +kernel⟩, by decide⟩, jw_881, jws_45⟩
theorem okX7_week : jOkV mX7_week 0 := ⟨⟨jw_886, jw_8, ⟨by decide, by decide, by decide +kernel⟩, by decide⟩, jw_885, jws_46⟩
theorem okX7_grows : jOkV mX7_grows 1 := ⟨⟨jw_890, jw_8, ⟨by decide, by decide, by decide +kernel⟩, by decide⟩, jw_889, jws_47⟩
theorem okX7_repairs : jOkV mX7_repairs 1 := ⟨⟨jw_894, jw_8, ⟨by decide, by decide, by decide +kernel⟩, by decide⟩, jw_893, jws_48⟩
theorem okX7_set : jOkV mX7_set 2 := ⟨⟨jw_898, jw_8, ⟨by decide, by decide, by decide +kernel⟩, by decide⟩, jw_896, jw_897⟩
theorem okX7_boilerOf : jOkV mX7_boilerOf 2 := ⟨⟨jw_902, jw_8, ⟨by decide, by decide, by decide +kernel⟩, by decide⟩, jw_900, jw_901⟩
theorem okX7_paperOf : jOkV mX7_paperOf 2 := ⟨⟨jw_907, jw_8, ⟨by decide, by decide, by decide +kernel⟩, by decide⟩, jw_905, jw_906⟩
theorem okX7_inspectorOf : jOkV mX7_inspectorOf 2 := ⟨⟨jw_911, jw_8, ⟨by decide, by decide, by decide +kernel⟩, by decide⟩, jw_909, jw_910⟩
theorem okX7_why : jOkV mX7_why 2 := ⟨⟨jw_915, jw_8, ⟨by decide, by decide, by decide +kernel⟩, by decide⟩, jw_913, jw_914⟩
theorem okX7_account : jOkV mX7_account 1 := ⟨⟨jw_919, jw_8, ⟨by decide, by decide, by decide +kernel⟩, by decide⟩, jw_917, jw_918⟩
theorem okX7_would : jOkV mX7_would 3 := ⟨⟨jw_923, jw_8, ⟨by decide, by decide, by decide +kernel⟩, by decide⟩, jw_921, jw_922⟩
theorem okX7_better : jOkV mX7_better 1 := ⟨⟨jw_927, jw_8, ⟨by decide, by decide, by decide +kernel⟩, by decide⟩, jw_925, jw_926⟩
theorem okX7_wouldDo : jOkV mX7_wouldDo 2 := ⟨⟨jw_931, jw_8, ⟨by decide, by decide, by decide +kernel⟩, by decide⟩, jw_930, jws_49⟩
theorem okX7_first : jOkV mX7_first 1 := ⟨⟨jw_935, jw_8, ⟨by decide, by decide, by decide +kernel⟩, by decide⟩, jw_933, jw_934⟩
theorem okX7_goesOn : jOkV mX7_goesOn 1 := ⟨⟨jw_939, jw_8, ⟨by decide, by decide, by decide +kernel⟩, by decide⟩, jw_937, jw_938⟩
theorem okX7_share : jOkV mX7_share 1 := ⟨⟨jw_943, jw_8, ⟨by decide, by decide, by decide +kernel⟩, by decide⟩, jw_941, jw_942⟩
theorem okJxf58ca_floatToIntBits_5c35a : jOkS mJxf58ca_floatToIntBits_5c35a 1 := ⟨⟨jw_946, jw_10, ⟨by decide, by decide, by decide +kernel⟩, by decide⟩, jw_945⟩
theorem okJxf58ca_isNaN_12338 : jOkS mJxf58ca_isNaN_12338 1 := ⟨⟨jw_949, jw_10, ⟨by decide, by decide, by decide +kernel⟩, by decide⟩, jw_948⟩
theorem okX7_count : jOkV mX7_count 1 := ⟨⟨jw_957, jw_8, ⟨by decide, by decide, by decide +kernel⟩, by decide⟩, jw_955, jw_956⟩
theorem okX7_set0 : jOkV mX7_set0 1 := ⟨⟨jw_961, jw_8, ⟨by decide, by decide, by decide +kernel⟩, by decide⟩, jw_960, jws_50⟩
theorem okX7_undo : jOkV mX7_undo 0 := ⟨⟨jw_965, jw_8, ⟨by decide, by decide, by decide +kernel⟩, by decide⟩, jw_963, jw_964⟩
theorem okX7_type : jOkV mX7_type 1 := ⟨⟨jw_969, jw_8, ⟨by decide, by decide, by decide +kernel⟩, by decide⟩, jw_967, jw_968⟩
theorem okX7_clearText : jOkV mX7_clearText 0 := ⟨⟨jw_973, jw_8, ⟨by decide, by decide, by decide +kernel⟩, by decide⟩, jw_971, jw_972⟩
theorem okX7_fault : jOkV mX7_fault 1 := ⟨⟨jw_977, jw_8, ⟨by decide, by decide, by decide +kernel⟩, by decide⟩, jw_975, jw_976⟩
theorem okX7_doesAll : jOkV mX7_doesAll 0 := ⟨⟨jw_981, jw_8, ⟨by decide, by decide, by decide +kernel⟩, by decide⟩, jw_980, jws_51⟩
theorem okX7_here : jOkV mX7_here 0 := ⟨⟨jw_985, jw_8, ⟨by decide, by decide, by decide +kernel⟩, by decide⟩, jw_984, jws_52⟩
theorem okX7_isOrder : jOkS mX7_isOrder 1 := ⟨⟨jw_988, jw_8, ⟨by decide, by decide, by decide +kernel⟩, by decide⟩, jw_987⟩
theorem okX7_number : jOkV mX7_number 0 := ⟨⟨jw_992, jw_8, ⟨by decide, by decide, by decide +kernel⟩, by decide⟩, jw_991, jws_53⟩
theorem okX7_isDigit : jOkV mX7_isDigit 0 := ⟨⟨jw_996, jw_8, ⟨by decide, by decide, by decide +kernel⟩, by decide⟩, jw_995, jws_54⟩
theorem okX7_takesSign : jOkV mX7_takesSign 1 := ⟨⟨jw_1000, jw_8, ⟨by decide, by decide, by decide +kernel⟩, by decide⟩, jw_999, jws_55⟩
theorem okX7_called : jOkV mX7_called 1 := ⟨⟨jw_1004, jw_8, ⟨by decide, by decide, by decide +kernel⟩, by decide⟩, jw_1003, jws_56⟩
theorem okX7_play : jOkV mX7_play 0 := ⟨⟨jw_1008, jw_8, ⟨by decide, by decide, by decide +kernel⟩, by decide⟩, jw_1006, jw_1007⟩
end
section
theorem dJxf58ca_isNaN_12338_0 : decode cJxf58ca_isNaN_12338 0 = .ok (.fload_n 0, 1) := by decide +kernel
theorem dJxf58ca_isNaN_12338_1 : decode cJxf58ca_isNaN_12338 1 = .ok (.fload_n 0, 1) := by decide +kernel
theorem dJxf58ca_isNaN_12338_2 : decode cJxf58ca_isNaN_12338 2 = .ok (.fcmp .l, 1) := by decide +kernel
theorem dJxf58ca_isNaN_12338_3 : decode cJxf58ca_isNaN_12338 3 = .ok (.ifCond .eq 7, 3) := by decide +kernel
theorem dJxf58ca_isNaN_12338_6 : decode cJxf58ca_isNaN_12338 6 = .ok (.iconst 1, 1) := by decide +kernel
theorem dJxf58ca_isNaN_12338_7 : decode cJxf58ca_isNaN_12338 7 = .ok (.goto 4, 3) := by decide +kernel
theorem dJxf58ca_isNaN_12338_10 : decode cJxf58ca_isNaN_12338 10 = .ok (.iconst 0, 1) := by decide +kernel
theorem dJxf58ca_isNaN_12338_11 : decode cJxf58ca_isNaN_12338 11 = .ok (.ireturn, 1) := by decide +kernel
theorem dJxf58ca_floatToIntBits_5c35a_0 : decode cJxf58ca_floatToIntBits_5c35a 0 = .ok (.fload_n 0, 1) := by decide +kernel
theorem dJxf58ca_floatToIntBits_5c35a_1 : decode cJxf58ca_floatToIntBits_5c35a 1 = .ok (.invokestatic 59, 3) := by decide +kernel
theorem dJxf58ca_floatToIntBits_5c35a_4 : decode cJxf58ca_floatToIntBits_5c35a 4 = .ok (.ifCond .ne 8, 3) := by decide +kernel
theorem dJxf58ca_floatToIntBits_5c35a_7 : decode cJxf58ca_floatToIntBits_5c35a 7 = .ok (.fload_n 0, 1) := by decide +kernel
theorem dJxf58ca_floatToIntBits_5c35a_8 : decode cJxf58ca_floatToIntBits_5c35a 8 = .ok (.invokestatic 74, 3) := by decide +kernel
theorem dJxf58ca_floatToIntBits_5c35a_11 : decode cJxf58ca_floatToIntBits_5c35a 11 = .ok (.ireturn, 1) := by decide +kernel
theorem dJxf58ca_floatToIntBits_5c35a_12 : decode cJxf58ca_floatToIntBits_5c35a 12 = .ok (.ldc 77, 2) := by decide +kernel
theorem dJxf58ca_floatToIntBits_5c35a_14 : decode cJxf58ca_floatToIntBits_5c35a 14 = .ok (.ireturn, 1) := by decide +kernel
theorem dJ9_min_7cf53_0 : decode cJ9_min_7cf53 0 = .ok (.iload_n 0, 1) := by decide +kernel
theorem dJ9_min_7cf53_1 : decode cJ9_min_7cf53 1 = .ok (.iload_n 1, 1) := by decide +kernel
theorem dJ9_min_7cf53_2 : decode cJ9_min_7cf53 2 = .ok (.if_icmp .gt 7, 3) := by decide +kernel
theorem dJ9_min_7cf53_5 : decode cJ9_min_7cf53 5 = .ok (.iload_n 0, 1) := by decide +kernel
theorem dJ9_min_7cf53_6 : decode cJ9_min_7cf53 6 = .ok (.goto 4, 3) := by decide +kernel
theorem dJ9_min_7cf53_9 : decode cJ9_min_7cf53 9 = .ok (.iload_n 1, 1) := by decide +kernel
theorem dJ9_min_7cf53_10 : decode cJ9_min_7cf53 10 = .ok (.ireturn, 1) := by decide +kernel
theorem jRes_i {S : jX} {I I1 : jI} {x y : Int32} (h : x = y) (hI : I = I1) : jRes (some (.int y)) S I1 (some (.int x)) S I := ⟨by rw [h], rfl, hI⟩
theorem jRes_v {S : jX} {I I1 : jI} (hI : I = I1) : jRes none S I1 none S I := ⟨rfl, rfl, hI⟩
theorem jRes_o {S : jX} {I I1 : jI} {v : Value} {r : Option Nat} (h : v = va_rf r) (hI : I = I1) : jRes (some (va_rf r)) S I1 (some v) S I := ⟨by rw [h], rfl, hI⟩
theorem jRes_f {S : jX} {I : jI} {x : Int32} {p : Int32 × jI} (h : p = (x, I)) : jRes (some (.int p.1)) S p.2 (some (.int x)) S I := by subst h; exact ⟨rfl, rfl, rfl⟩
section JB
variable {G : jG} {d d' : Nat × Nat × Nat} {dd : Nat} {mt mc : jMt} {pc ix : Nat} {ls rest : List Value} {S : jX} {I I1 : jI} {k n : Nat} {a1 a2 a3 v : Value}

theorem J_cV0 {o ci : Nat} (hk : jKd S o ci 0) (hci : ci < 8) (hcc : (jC ci).1 = mc.1.cls) (hd : decode mt.2.1 pc = .ok (.invokevirtual ix, 3)) (hL : jML mt.1.cls ix mc.1) (hy : jOkV mc 0) (hM : jM (dd, 0, 0) mc (.ref o :: []) S I (jRes none S I1)) (hdd : dd + 1 ≤ d.1) (hk1 : k ≤ d.2.1) (hn1 : n ≤ d.2.2) (hlen : rest.length ≤ 4) (h : J G d mt (pc + 3) ls (rest) S I1 k n) : J G d mt pc ls (.ref o :: rest) S I k n := by
  refine J_callV (As := []) hk hci hcc hd hL hy hM hdd hk1 hn1 hlen rfl ?_
  rintro _ _ _ ⟨rfl, rfl, rfl⟩
  exact h
theorem J_cV0r {o ci : Nat} (hk : jKd S o ci 0) (hci : ci < 8) (hcc : (jC ci).1 = mc.1.cls) (hd : decode mt.2.1 pc = .ok (.invokevirtual ix, 3)) (hL : jML mt.1.cls ix mc.1) (hy : jOkV mc 0) (hM : jM (dd, 0, 0) mc (.ref o :: []) S I (jRes (some v) S I1)) (hdd : dd + 1 ≤ d.1) (hk1 : k ≤ d.2.1) (hn1 : n ≤ d.2.2) (hlen : rest.length ≤ 4) (h : J G d mt (pc + 3) ls (v :: rest) S I1 k n) : J G d mt pc ls (.ref o :: rest) S I k n := by
  refine J_callV (As := []) hk hci hcc hd hL hy hM hdd hk1 hn1 hlen rfl ?_
  rintro _ _ _ ⟨rfl, rfl, rfl⟩
  exact h
theorem J_cV1 {o ci : Nat} (hk : jKd S o ci 0) (hci : ci < 8) (hcc : (jC ci).1 = mc.1.cls) (hd : decode mt.2.1 pc = .ok (.invokevirtual ix, 3)) (hL : jML mt.1.cls ix mc.1) (hy : jOkV mc 1) (hM : jM (dd, 0, 0) mc (.ref o :: [a1]) S I (jRes none S I1)) (hdd : dd + 1 ≤ d.1) (hk1 : k ≤ d.2.1) (hn1 : n ≤ d.2.2) (hlen : rest.length ≤ 4) (h : J G d mt (pc + 3) ls (rest) S I1 k n) : J G d mt pc ls (a1 :: .ref o :: rest) S I k n := by
  refine J_callV (As := [a1]) hk hci hcc hd hL hy hM hdd hk1 hn1 hlen rfl ?_
  rintro _ _ _ ⟨rfl, rfl, rfl⟩
  exact h
theorem J_cV1r {o ci : Nat} (hk : jKd S o ci 0) (hci : ci < 8) (hcc : (jC ci).1 = mc.1.cls) (hd : decode mt.2.1 pc = .ok (.invokevirtual ix, 3)) (hL : jML mt.1.cls ix mc.1) (hy : jOkV mc 1) (hM : jM (dd, 0, 0) mc (.ref o :: [a1]) S I (jRes (some v) S I1)) (hdd : dd + 1 ≤ d.1) (hk1 : k ≤ d.2.1) (hn1 : n ≤ d.2.2) (hlen : rest.length ≤ 4) (h : J G d mt (pc + 3) ls (v :: rest) S I1 k n) : J G d mt pc ls (a1 :: .ref o :: rest) S I k n := by
  refine J_callV (As := [a1]) hk hci hcc hd hL hy hM hdd hk1 hn1 hlen rfl ?_
  rintro _ _ _ ⟨rfl, rfl, rfl⟩
  exact h
theorem J_cV2 {o ci : Nat} (hk : jKd S o ci 0) (hci : ci < 8) (hcc : (jC ci).1 = mc.1.cls) (hd : decode mt.2.1 pc = .ok (.invokevirtual ix, 3)) (hL : jML mt.1.cls ix mc.1) (hy : jOkV mc 2) (hM : jM (dd, 0, 0) mc (.ref o :: [a1, a2]) S I (jRes none S I1)) (hdd : dd + 1 ≤ d.1) (hk1 : k ≤ d.2.1) (hn1 : n ≤ d.2.2) (hlen : rest.length ≤ 4) (h : J G d mt (pc + 3) ls (rest) S I1 k n) : J G d mt pc ls (a2 :: a1 :: .ref o :: rest) S I k n := by
  refine J_callV (As := [a1, a2]) hk hci hcc hd hL hy hM hdd hk1 hn1 hlen rfl ?_
  rintro _ _ _ ⟨rfl, rfl, rfl⟩
  exact h
theorem J_cV2r {o ci : Nat} (hk : jKd S o ci 0) (hci : ci < 8) (hcc : (jC ci).1 = mc.1.cls) (hd : decode mt.2.1 pc = .ok (.invokevirtual ix, 3)) (hL : jML mt.1.cls ix mc.1) (hy : jOkV mc 2) (hM : jM (dd, 0, 0) mc (.ref o :: [a1, a2]) S I (jRes (some v) S I1)) (hdd : dd + 1 ≤ d.1) (hk1 : k ≤ d.2.1) (hn1 : n ≤ d.2.2) (hlen : rest.length ≤ 4) (h : J G d mt (pc + 3) ls (v :: rest) S I1 k n) : J G d mt pc ls (a2 :: a1 :: .ref o :: rest) S I k n := by
  refine J_callV (As := [a1, a2]) hk hci hcc hd hL hy hM hdd hk1 hn1 hlen rfl ?_
  rintro _ _ _ ⟨rfl, rfl, rfl⟩
  exact h
theorem J_cV3 {o ci : Nat} (hk : jKd S o ci 0) (hci : ci < 8) (hcc : (jC ci).1 = mc.1.cls) (hd : decode mt.2.1 pc = .ok (.invokevirtual ix, 3)) (hL : jML mt.1.cls ix mc.1) (hy : jOkV mc 3) (hM : jM (dd, 0, 0) mc (.ref o :: [a1, a2, a3]) S I (jRes none S I1)) (hdd : dd + 1 ≤ d.1) (hk1 : k ≤ d.2.1) (hn1 : n ≤ d.2.2) (hlen : rest.length ≤ 4) (h : J G d mt (pc + 3) ls (rest) S I1 k n) : J G d mt pc ls (a3 :: a2 :: a1 :: .ref o :: rest) S I k n := by
  refine J_callV (As := [a1, a2, a3]) hk hci hcc hd hL hy hM hdd hk1 hn1 hlen rfl ?_
  rintro _ _ _ ⟨rfl, rfl, rfl⟩
  exact h
theorem J_cV3r {o ci : Nat} (hk : jKd S o ci 0) (hci : ci < 8) (hcc : (jC ci).1 = mc.1.cls) (hd : decode mt.2.1 pc = .ok (.invokevirtual ix, 3)) (hL : jML mt.1.cls ix mc.1) (hy : jOkV mc 3) (hM : jM (dd, 0, 0) mc (.ref o :: [a1, a2, a3]) S I (jRes (some v) S I1)) (hdd : dd + 1 ≤ d.1) (hk1 : k ≤ d.2.1) (hn1 : n ≤ d.2.2) (hlen : rest.length ≤ 4) (h : J G d mt (pc + 3) ls (v :: rest) S I1 k n) : J G d mt pc ls (a3 :: a2 :: a1 :: .ref o :: rest) S I k n := by
  refine J_callV (As := [a1, a2, a3]) hk hci hcc hd hL hy hM hdd hk1 hn1 hlen rfl ?_
  rintro _ _ _ ⟨rfl, rfl, rfl⟩
  exact h
theorem J_cS1 (hd : decode mt.2.1 pc = .ok (.invokestatic ix, 3)) (hL : jML mt.1.cls ix mc.1) (hy : jOkS mc 1) (hM : jM (dd, 0, 0) mc ([a1]) S I (jRes none S I1)) (hdd : dd + 1 ≤ d.1) (hk1 : k ≤ d.2.1) (hn1 : n ≤ d.2.2) (hlen : rest.length ≤ 4) (h : J G d mt (pc + 3) ls (rest) S I1 k n) : J G d mt pc ls (a1 :: rest) S I k n := by
  refine J_callS (As := [a1]) hd hL hy hM hdd hk1 hn1 hlen rfl ?_
  rintro _ _ _ ⟨rfl, rfl, rfl⟩
  exact h
theorem J_cS1r (hd : decode mt.2.1 pc = .ok (.invokestatic ix, 3)) (hL : jML mt.1.cls ix mc.1) (hy : jOkS mc 1) (hM : jM (dd, 0, 0) mc ([a1]) S I (jRes (some v) S I1)) (hdd : dd + 1 ≤ d.1) (hk1 : k ≤ d.2.1) (hn1 : n ≤ d.2.2) (hlen : rest.length ≤ 4) (h : J G d mt (pc + 3) ls (v :: rest) S I1 k n) : J G d mt pc ls (a1 :: rest) S I k n := by
  refine J_callS (As := [a1]) hd hL hy hM hdd hk1 hn1 hlen rfl ?_
  rintro _ _ _ ⟨rfl, rfl, rfl⟩
  exact h
theorem J_cS2 (hd : decode mt.2.1 pc = .ok (.invokestatic ix, 3)) (hL : jML mt.1.cls ix mc.1) (hy : jOkS mc 2) (hM : jM (dd, 0, 0) mc ([a1, a2]) S I (jRes none S I1)) (hdd : dd + 1 ≤ d.1) (hk1 : k ≤ d.2.1) (hn1 : n ≤ d.2.2) (hlen : rest.length ≤ 4) (h : J G d mt (pc + 3) ls (rest) S I1 k n) : J G d mt pc ls (a2 :: a1 :: rest) S I k n := by
  refine J_callS (As := [a1, a2]) hd hL hy hM hdd hk1 hn1 hlen rfl ?_
  rintro _ _ _ ⟨rfl, rfl, rfl⟩
  exact h
theorem J_cS2r (hd : decode mt.2.1 pc = .ok (.invokestatic ix, 3)) (hL : jML mt.1.cls ix mc.1) (hy : jOkS mc 2) (hM : jM (dd, 0, 0) mc ([a1, a2]) S I (jRes (some v) S I1)) (hdd : dd + 1 ≤ d.1) (hk1 : k ≤ d.2.1) (hn1 : n ≤ d.2.2) (hlen : rest.length ≤ 4) (h : J G d mt (pc + 3) ls (v :: rest) S I1 k n) : J G d mt pc ls (a2 :: a1 :: rest) S I k n := by
  refine J_callS (As := [a1, a2]) hd hL hy hM hdd hk1 hn1 hlen rfl ?_
  rintro _ _ _ ⟨rfl, rfl, rfl⟩
  exact h
theorem J_cS3 (hd : decode mt.2.1 pc = .ok (.invokestatic ix, 3)) (hL : jML mt.1.cls ix mc.1) (hy : jOkS mc 3) (hM : jM (dd, 0, 0) mc ([a1, a2, a3]) S I (jRes none S I1)) (hdd : dd + 1 ≤ d.1) (hk1 : k ≤ d.2.1) (hn1 : n ≤ d.2.2) (hlen : rest.length ≤ 4) (h : J G d mt (pc + 3) ls (rest) S I1 k n) : J G d mt pc ls (a3 :: a2 :: a1 :: rest) S I k n := by
  refine J_callS (As := [a1, a2, a3]) hd hL hy hM hdd hk1 hn1 hlen rfl ?_
  rintro _ _ _ ⟨rfl, rfl, rfl⟩
  exact h
theorem J_cS3r (hd : decode mt.2.1 pc = .ok (.invokestatic ix, 3)) (hL : jML mt.1.cls ix mc.1) (hy : jOkS mc 3) (hM : jM (dd, 0, 0) mc ([a1, a2, a3]) S I (jRes (some v) S I1)) (hdd : dd + 1 ≤ d.1) (hk1 : k ≤ d.2.1) (hn1 : n ≤ d.2.2) (hlen : rest.length ≤ 4) (h : J G d mt (pc + 3) ls (v :: rest) S I1 k n) : J G d mt pc ls (a3 :: a2 :: a1 :: rest) S I k n := by
  refine J_callS (As := [a1, a2, a3]) hd hL hy hM hdd hk1 hn1 hlen rfl ?_
  rintro _ _ _ ⟨rfl, rfl, rfl⟩
  exact h
theorem J_cI0 {o : Nat} (hd : decode mt.2.1 pc = .ok (.invokespecial ix, 3)) (hL : jML mt.1.cls ix mc.1) (hy : jOkI mc 0) (hM : jM (dd, 0, 0) mc (.ref o :: []) S I (jRes none S I1)) (hdd : dd + 1 ≤ d.1) (hk1 : k ≤ d.2.1) (hn1 : n ≤ d.2.2) (hlen : rest.length ≤ 4) (h : J G d mt (pc + 3) ls (rest) S I1 k n) : J G d mt pc ls (.ref o :: rest) S I k n := by
  refine J_callI (As := []) hd hL hy hM hdd hk1 hn1 hlen rfl ?_
  rintro _ _ _ ⟨rfl, rfl, rfl⟩
  exact h
theorem jmin_code : Cond.code Lib.Math.min.name Lib.Math.min.code 2 (some .int) ∈ jtw := jw_287
theorem jmin_stat : Cond.static Lib.Math.min.name ∈ jtw := jw_286
theorem jmin_init : Cond.initialized "java/lang/Math" ∈ jtw := jw_9
theorem J_min {x y : Int32} (hd : decode mt.2.1 pc = .ok (.invokestatic ix, 3)) (hL : Cond.methodLink mt.1.cls ix Lib.Math.min.name ∈ jtw) (hdd : 1 ≤ d.1) (hk1 : k ≤ d.2.1) (hn1 : n ≤ d.2.2) (hlen : rest.length ≤ 4) (h : J G d mt (pc + 3) ls (.int (if y < x then y else x) :: rest) S I k n) : J G d mt pc ls (.int y :: .int x :: rest) S I k n := by
  obtain ⟨⟨p, l, e, R, s, m⟩, ⟨args, below, meth, c⟩, w, Q⟩ := G
  intro hF H locs la hz hP hS hl
  obtain ⟨⟨hx, hb, hml, hown, hts⟩, hK, hsz, hlk, hnm, hfr, hbud, hrt⟩ := id hF
  have h8 := jroom w (m := m) (pc := pc) (la := la) (st := []) hlen
  exact va_mmin hx hb (hml.trans hl.1.symm) hown (hts _ hL) (hts _ jmin_stat) (hts _ jmin_init) (hts _ jmin_code) (by omega) (by omega) (by omega) (by omega) hd (h hF H locs la hz hP hS hl)

end JB
theorem jvp {x : Int32} {N : Nat} (h1 : ¬ x < 0) (h2 : x < Int32.ofNat N) (hN : N < 2 ^ 31) : vp_in x N := by
  obtain ⟨j, hj, rfl⟩ := nI_of h1
  refine vp_in_nI ?_ hN
  have h3 := Int32.lt_iff_toInt_lt.mp h2
  have e1 : (nI j).toInt = (j : Int) := nI_toInt hj
  have e2 : (Int32.ofNat N).toInt = (N : Int) := nI_toInt hN
  rw [e1, e2] at h3
  omega
theorem jvp2 {x : Int32} {N : Nat} (h1 : 0 ≤ x) (h2 : x < Int32.ofNat N) (hN : N < 2 ^ 31) : vp_in x N := jvp (Int32.not_lt.mpr h1) h2 hN
end
section
def fX0_begin (I : jI) (o : Nat) (x : Int32) : jI :=
  (jset (jset (jset (jset (jset (jset (jset (jset (jset I o 0 x) o 1 x) o 2 0) o 3 0) o 4 1) o 5 0) o 6 0) o 7 0) o 11 0)
set_option maxRecDepth 100000 in
set_option maxHeartbeats 4000000 in
theorem kX0_begin (S : jX) (I : jI) (o : Nat) (x : Int32) (hk : jKd S o 0 0) : jM (0, 0, 0) mX0_begin [.ref o, .int x] S I (jRes none S (fX0_begin I o x)) := by
  refine jM.of (ls := [.ref o, .int x]) (by decide) (Nat.le_of_ble_eq_true rfl) (by intro v hv; simp only [List.mem_cons, List.not_mem_nil, or_false] at hv; rcases hv with rfl | rfl <;> rfl) rfl (fun G hR => ?_)
  refine J_aload_n dX0_begin_0 rfl rfl ?_
  refine J_iload_n dX0_begin_1 rfl ?_
  refine J_putI dX0_begin_2 flX0_9 rfl rfl rfl rfl hk ?_
  refine J_aload_n dX0_begin_5 rfl rfl ?_
  refine J_iload_n dX0_begin_6 rfl ?_
  refine J_putI dX0_begin_7 flX0_15 rfl rfl rfl rfl hk ?_
  refine J_aload_n dX0_begin_10 rfl rfl ?_
  refine J_iconst (0) dX0_begin_11 rfl ?_
  refine J_putI dX0_begin_12 flX0_18 rfl rfl rfl rfl hk ?_
  refine J_aload_n dX0_begin_15 rfl rfl ?_
  refine J_iconst (0) dX0_begin_16 rfl ?_
  refine J_putI dX0_begin_17 flX0_21 rfl rfl rfl rfl hk ?_
  refine J_aload_n dX0_begin_20 rfl rfl ?_
  refine J_iconst (1) dX0_begin_21 rfl ?_
  refine J_putI dX0_begin_22 flX0_24 rfl rfl rfl rfl hk ?_
  refine J_aload_n dX0_begin_25 rfl rfl ?_
  refine J_iconst (0) dX0_begin_26 rfl ?_
  refine J_putI dX0_begin_27 flX0_27 rfl rfl rfl rfl hk ?_
  refine J_aload_n dX0_begin_30 rfl rfl ?_
  refine J_iconst (0) dX0_begin_31 rfl ?_
  refine J_putI dX0_begin_32 flX0_30 rfl rfl rfl rfl hk ?_
  refine J_aload_n dX0_begin_35 rfl rfl ?_
  refine J_iconst (0) dX0_begin_36 rfl ?_
  refine J_putI dX0_begin_37 flX0_34 rfl rfl rfl rfl hk ?_
  refine J_aload_n dX0_begin_40 rfl rfl ?_
  refine J_iconst (0) dX0_begin_41 rfl ?_
  refine J_putI dX0_begin_42 flX0_37 rfl rfl rfl rfl hk ?_
  exact J_vret hR dX0_begin_45 rfl (Nat.le_of_ble_eq_true rfl) (Nat.le_of_ble_eq_true rfl) (jRes_v (by first | rfl | (simp only [fX0_begin]; done) | (simp only [fX0_begin]; rfl)))
def fX0_strength (I : jI) (o : Nat) : Int32 :=
  (((I o 0) * (200 - (I o 2))) / 200)
set_option maxRecDepth 100000 in
set_option maxHeartbeats 4000000 in
theorem kX0_strength (S : jX) (I : jI) (o : Nat) (hk : jKd S o 0 0) : jM (0, 0, 0) mX0_strength [.ref o] S I (jRes (some (.int (fX0_strength I o))) S I) := by
  refine jM.of (ls := [.ref o]) (by decide) (Nat.le_of_ble_eq_true rfl) (by intro v hv; simp only [List.mem_cons, List.not_mem_nil, or_false] at hv; rcases hv with rfl <;> rfl) rfl (fun G hR => ?_)
  refine J_aload_n dX0_strength_0 rfl rfl ?_
  refine J_getI dX0_strength_1 flX0_9 rfl hk ?_
  refine J_sipush (200) dX0_strength_4 rfl ?_
  refine J_aload_n dX0_strength_7 rfl rfl ?_
  refine J_getI dX0_strength_8 flX0_18 rfl hk ?_
  refine J_isub dX0_strength_11 ?_
  refine J_imul dX0_strength_12 ?_
  refine J_sipush (200) dX0_strength_13 rfl ?_
  refine J_idiv dX0_strength_16 (by decide) ?_
  exact J_iret (ty := .int) hR dX0_strength_17 rfl rfl (Nat.le_of_ble_eq_true rfl) (Nat.le_of_ble_eq_true rfl) (jRes_i (by first | rfl | (simp only [fX0_strength]; done) | (simp only [fX0_strength]; rfl)) rfl)
def fX0_isShutIn (I : jI) (o : Nat) (x : Int32) : Int32 :=
  if (I o 11) = 0 then
    0
  else
    if x < (I o 12) then
      0
    else
      if (I o 13) < x then
        0
      else
        1
set_option maxRecDepth 100000 in
set_option maxHeartbeats 4000000 in
theorem kX0_isShutIn (S : jX) (I : jI) (o : Nat) (x : Int32) (hk : jKd S o 0 0) : jM (0, 0, 0) mX0_isShutIn [.ref o, .int x] S I (jRes (some (.int (fX0_isShutIn I o x))) S I) := by
  refine jM.of (ls := [.ref o, .int x]) (by decide) (Nat.le_of_ble_eq_true rfl) (by intro v hv; simp only [List.mem_cons, List.not_mem_nil, or_false] at hv; rcases hv with rfl | rfl <;> rfl) rfl (fun G hR => ?_)
  refine J_aload_n dX0_isShutIn_0 rfl rfl ?_
  refine J_getI dX0_isShutIn_1 flX0_37 rfl hk ?_
  refine J_if_eq (tgt := 27) dX0_isShutIn_4 (by decide) (fun h1 => ?_) (fun h1 => ?_)
  · skip
    refine J_iconst (0) dX0_isShutIn_27 rfl ?_
    exact J_iret (ty := .boolean) hR dX0_isShutIn_28 rfl rfl (Nat.le_of_ble_eq_true rfl) (Nat.le_of_ble_eq_true rfl) (jRes_i (by first | rfl | (simp only [fX0_isShutIn, if_pos h1]; done) | (simp only [fX0_isShutIn, if_pos h1]; rfl)) rfl)
  · skip
    refine J_aload_n dX0_isShutIn_7 rfl rfl ?_
    refine J_getI dX0_isShutIn_8 flX0_49 rfl hk ?_
    refine J_iload_n dX0_isShutIn_11 rfl ?_
    refine J_icmp_gt (tgt := 27) dX0_isShutIn_12 (by decide) (fun h2 => ?_) (fun h2 => ?_)
    · skip
      refine J_iconst (0) dX0_isShutIn_27 rfl ?_
      exact J_iret (ty := .boolean) hR dX0_isShutIn_28 rfl rfl (Nat.le_of_ble_eq_true rfl) (Nat.le_of_ble_eq_true rfl) (jRes_i (by first | rfl | (simp only [fX0_isShutIn, if_neg h1, if_pos h2]; done) | (simp only [fX0_isShutIn, if_neg h1, if_pos h2]; rfl)) rfl)
    · skip
      refine J_iload_n dX0_isShutIn_15 rfl ?_
      refine J_aload_n dX0_isShutIn_16 rfl rfl ?_
      refine J_getI dX0_isShutIn_17 flX0_52 rfl hk ?_
      refine J_icmp_gt (tgt := 27) dX0_isShutIn_20 (by decide) (fun h3 => ?_) (fun h3 => ?_)
      · skip
        refine J_iconst (0) dX0_isShutIn_27 rfl ?_
        exact J_iret (ty := .boolean) hR dX0_isShutIn_28 rfl rfl (Nat.le_of_ble_eq_true rfl) (Nat.le_of_ble_eq_true rfl) (jRes_i (by first | rfl | (simp only [fX0_isShutIn, if_neg h1, if_neg h2, if_pos h3]; done) | (simp only [fX0_isShutIn, if_neg h1, if_neg h2, if_pos h3]; rfl)) rfl)
      · skip
        refine J_iconst (1) dX0_isShutIn_23 rfl ?_
        refine J_goto (tgt := 28) dX0_isShutIn_24 (by decide) ?_
        exact J_iret (ty := .boolean) hR dX0_isShutIn_28 rfl rfl (Nat.le_of_ble_eq_true rfl) (Nat.le_of_ble_eq_true rfl) (jRes_i (by first | rfl | (simp only [fX0_isShutIn, if_neg h1, if_neg h2, if_neg h3]; done) | (simp only [fX0_isShutIn, if_neg h1, if_neg h2, if_neg h3]; rfl)) rfl)
def fX0_whyNotFiredIn (I : jI) (o : Nat) (x : Int32) : Int32 :=
  if (I o 3) = 2 then
    1
  else
    if (I o 3) = 1 then
      2
    else
      if (I o 6) = 0 then
        if (fX0_isShutIn I o x) = 0 then
          if (I o 7) = 0 then
            5
          else
            if (I o 1) ≤ (I o 9) then
              0
            else
              6
        else
          4
      else
        3
set_option maxRecDepth 100000 in
set_option maxHeartbeats 4000000 in
theorem kX0_whyNotFiredIn (S : jX) (I : jI) (o : Nat) (x : Int32) (hk : jKd S o 0 0) : jM (1, 0, 0) mX0_whyNotFiredIn [.ref o, .int x] S I (jRes (some (.int (fX0_whyNotFiredIn I o x))) S I) := by
  refine jM.of (ls := [.ref o, .int x]) (by decide) (Nat.le_of_ble_eq_true rfl) (by intro v hv; simp only [List.mem_cons, List.not_mem_nil, or_false] at hv; rcases hv with rfl | rfl <;> rfl) rfl (fun G hR => ?_)
  refine J_aload_n dX0_whyNotFiredIn_0 rfl rfl ?_
  refine J_getI dX0_whyNotFiredIn_1 flX0_21 rfl hk ?_
  refine J_iconst (2) dX0_whyNotFiredIn_4 rfl ?_
  refine J_icmp_ne (tgt := 10) dX0_whyNotFiredIn_5 (by decide) (fun h1 => ?_) (fun h1 => ?_)
  · skip
    refine J_aload_n dX0_whyNotFiredIn_10 rfl rfl ?_
    refine J_getI dX0_whyNotFiredIn_11 flX0_21 rfl hk ?_
    refine J_iconst (1) dX0_whyNotFiredIn_14 rfl ?_
    refine J_icmp_ne (tgt := 20) dX0_whyNotFiredIn_15 (by decide) (fun h2 => ?_) (fun h2 => ?_)
    · skip
      refine J_aload_n dX0_whyNotFiredIn_20 rfl rfl ?_
      refine J_getI dX0_whyNotFiredIn_21 flX0_30 rfl hk ?_
      refine J_if_eq (tgt := 29) dX0_whyNotFiredIn_24 (by decide) (fun h3 => ?_) (fun h3 => ?_)
      · skip
        refine J_aload_n dX0_whyNotFiredIn_29 rfl rfl ?_
        refine J_iload_n dX0_whyNotFiredIn_30 rfl ?_
        refine J_cV1r (mc := mX0_isShutIn) hk (by decide) rfl dX0_whyNotFiredIn_31 mlX0_55 okX0_isShutIn (kX0_isShutIn S I o x hk) (Nat.le_of_ble_eq_true rfl) (Nat.le_of_ble_eq_true rfl) (Nat.le_of_ble_eq_true rfl) (Nat.le_of_ble_eq_true rfl) ?_
        refine J_if_eq (tgt := 39) dX0_whyNotFiredIn_34 (by decide) (fun h4 => ?_) (fun h4 => ?_)
        · skip
          refine J_aload_n dX0_whyNotFiredIn_39 rfl rfl ?_
          refine J_getI dX0_whyNotFiredIn_40 flX0_34 rfl hk ?_
          refine J_if_ne (tgt := 48) dX0_whyNotFiredIn_43 (by decide) (fun h5 => ?_) (fun h5 => ?_)
          · skip
            refine J_aload_n dX0_whyNotFiredIn_48 rfl rfl ?_
            refine J_getI dX0_whyNotFiredIn_49 flX0_15 rfl hk ?_
            refine J_aload_n dX0_whyNotFiredIn_52 rfl rfl ?_
            refine J_getI dX0_whyNotFiredIn_53 flX0_43 rfl hk ?_
            refine J_icmp_le (tgt := 64) dX0_whyNotFiredIn_56 (by decide) (fun h6 => ?_) (fun h6 => ?_)
            · skip
              refine J_iconst (0) dX0_whyNotFiredIn_64 rfl ?_
              exact J_iret (ty := .int) hR dX0_whyNotFiredIn_65 rfl rfl (Nat.le_of_ble_eq_true rfl) (Nat.le_of_ble_eq_true rfl) (jRes_i (by first | rfl | (simp only [fX0_whyNotFiredIn, if_neg h1, if_neg h2, if_pos h3, if_pos h4, if_neg h5, if_pos h6]; done) | (simp only [fX0_whyNotFiredIn, if_neg h1, if_neg h2, if_pos h3, if_pos h4, if_neg h5, if_pos h6]; rfl)) rfl)
            · skip
              refine J_bipush (6) dX0_whyNotFiredIn_59 rfl ?_
              refine J_goto (tgt := 65) dX0_whyNotFiredIn_61 (by decide) ?_
              exact J_iret (ty := .int) hR dX0_whyNotFiredIn_65 rfl rfl (Nat.le_of_ble_eq_true rfl) (Nat.le_of_ble_eq_true rfl) (jRes_i (by first | rfl | (simp only [fX0_whyNotFiredIn, if_neg h1, if_neg h2, if_pos h3, if_pos h4, if_neg h5, if_neg h6]; done) | (simp only [fX0_whyNotFiredIn, if_neg h1, if_neg h2, if_pos h3, if_pos h4, if_neg h5, if_neg h6]; rfl)) rfl)
          · skip
            refine J_iconst (5) dX0_whyNotFiredIn_46 rfl ?_
            exact J_iret (ty := .int) hR dX0_whyNotFiredIn_47 rfl rfl (Nat.le_of_ble_eq_true rfl) (Nat.le_of_ble_eq_true rfl) (jRes_i (by first | rfl | (simp only [fX0_whyNotFiredIn, if_neg h1, if_neg h2, if_pos h3, if_pos h4, if_pos h5]; done) | (simp only [fX0_whyNotFiredIn, if_neg h1, if_neg h2, if_pos h3, if_pos h4, if_pos h5]; rfl)) rfl)
        · skip
          refine J_iconst (4) dX0_whyNotFiredIn_37 rfl ?_
          exact J_iret (ty := .int) hR dX0_whyNotFiredIn_38 rfl rfl (Nat.le_of_ble_eq_true rfl) (Nat.le_of_ble_eq_true rfl) (jRes_i (by first | rfl | (simp only [fX0_whyNotFiredIn, if_neg h1, if_neg h2, if_pos h3, if_neg h4]; done) | (simp only [fX0_whyNotFiredIn, if_neg h1, if_neg h2, if_pos h3, if_neg h4]; rfl)) rfl)
      · skip
        refine J_iconst (3) dX0_whyNotFiredIn_27 rfl ?_
        exact J_iret (ty := .int) hR dX0_whyNotFiredIn_28 rfl rfl (Nat.le_of_ble_eq_true rfl) (Nat.le_of_ble_eq_true rfl) (jRes_i (by first | rfl | (simp only [fX0_whyNotFiredIn, if_neg h1, if_neg h2, if_neg h3]; done) | (simp only [fX0_whyNotFiredIn, if_neg h1, if_neg h2, if_neg h3]; rfl)) rfl)
    · skip
      refine J_iconst (2) dX0_whyNotFiredIn_18 rfl ?_
      exact J_iret (ty := .int) hR dX0_whyNotFiredIn_19 rfl rfl (Nat.le_of_ble_eq_true rfl) (Nat.le_of_ble_eq_true rfl) (jRes_i (by first | rfl | (simp only [fX0_whyNotFiredIn, if_neg h1, if_pos h2]; done) | (simp only [fX0_whyNotFiredIn, if_neg h1, if_pos h2]; rfl)) rfl)
  · skip
    refine J_iconst (1) dX0_whyNotFiredIn_8 rfl ?_
    exact J_iret (ty := .int) hR dX0_whyNotFiredIn_9 rfl rfl (Nat.le_of_ble_eq_true rfl) (Nat.le_of_ble_eq_true rfl) (jRes_i (by first | rfl | (simp only [fX0_whyNotFiredIn, if_pos h1]; done) | (simp only [fX0_whyNotFiredIn, if_pos h1]; rfl)) rfl)
def fX3_left (I : jI) (o : Nat) : Int32 :=
  ((I o 1) - (I o 2))
set_option maxRecDepth 100000 in
set_option maxHeartbeats 4000000 in
theorem kX3_left (S : jX) (I : jI) (o : Nat) (hk : jKd S o 3 0) : jM (0, 0, 0) mX3_left [.ref o] S I (jRes (some (.int (fX3_left I o))) S I) := by
  refine jM.of (ls := [.ref o]) (by decide) (Nat.le_of_ble_eq_true rfl) (by intro v hv; simp only [List.mem_cons, List.not_mem_nil, or_false] at hv; rcases hv with rfl <;> rfl) rfl (fun G hR => ?_)
  refine J_aload_n dX3_left_0 rfl rfl ?_
  refine J_getI dX3_left_1 flX3_15 rfl hk ?_
  refine J_aload_n dX3_left_4 rfl rfl ?_
  refine J_getI dX3_left_5 flX3_18 rfl hk ?_
  refine J_isub dX3_left_8 ?_
  exact J_iret (ty := .int) hR dX3_left_9 rfl rfl (Nat.le_of_ble_eq_true rfl) (Nat.le_of_ble_eq_true rfl) (jRes_i (by first | rfl | (simp only [fX3_left]; done) | (simp only [fX3_left]; rfl)) rfl)
def fX0_whyNotInspectedBy (I : jI) (o : Nat) (q : Nat) : Int32 :=
  if (I o 3) = 2 then
    1
  else
    if (I o 3) = 1 then
      2
    else
      if (I o 4) = 0 then
        3
      else
        if (I o 6) = 0 then
          if 1 ≤ (fX3_left I q) then
            0
          else
            5
        else
          4
set_option maxRecDepth 100000 in
set_option maxHeartbeats 4000000 in
theorem kX0_whyNotInspectedBy (S : jX) (I : jI) (o : Nat) (q : Nat) (hk : jKd S o 0 0) (hq : jKd S q 3 0) : jM (1, 0, 0) mX0_whyNotInspectedBy [.ref o, .ref q] S I (jRes (some (.int (fX0_whyNotInspectedBy I o q))) S I) := by
  refine jM.of (ls := [.ref o, .ref q]) (by decide) (Nat.le_of_ble_eq_true rfl) (by intro v hv; simp only [List.mem_cons, List.not_mem_nil, or_false] at hv; rcases hv with rfl | rfl <;> rfl) rfl (fun G hR => ?_)
  refine J_aload_n dX0_whyNotInspectedBy_0 rfl rfl ?_
  refine J_getI dX0_whyNotInspectedBy_1 flX0_21 rfl hk ?_
  refine J_iconst (2) dX0_whyNotInspectedBy_4 rfl ?_
  refine J_icmp_ne (tgt := 10) dX0_whyNotInspectedBy_5 (by decide) (fun h1 => ?_) (fun h1 => ?_)
  · skip
    refine J_aload_n dX0_whyNotInspectedBy_10 rfl rfl ?_
    refine J_getI dX0_whyNotInspectedBy_11 flX0_21 rfl hk ?_
    refine J_iconst (1) dX0_whyNotInspectedBy_14 rfl ?_
    refine J_icmp_ne (tgt := 20) dX0_whyNotInspectedBy_15 (by decide) (fun h2 => ?_) (fun h2 => ?_)
    · skip
      refine J_aload_n dX0_whyNotInspectedBy_20 rfl rfl ?_
      refine J_getI dX0_whyNotInspectedBy_21 flX0_24 rfl hk ?_
      refine J_if_ne (tgt := 29) dX0_whyNotInspectedBy_24 (by decide) (fun h3 => ?_) (fun h3 => ?_)
      · skip
        refine J_aload_n dX0_whyNotInspectedBy_29 rfl rfl ?_
        refine J_getI dX0_whyNotInspectedBy_30 flX0_30 rfl hk ?_
        refine J_if_eq (tgt := 38) dX0_whyNotInspectedBy_33 (by decide) (fun h4 => ?_) (fun h4 => ?_)
        · skip
          refine J_aload_n dX0_whyNotInspectedBy_38 rfl rfl ?_
          refine J_cV0r (mc := mX3_left) hq (by decide) rfl dX0_whyNotInspectedBy_39 mlX0_59 okX3_left (kX3_left S I q hq) (Nat.le_of_ble_eq_true rfl) (Nat.le_of_ble_eq_true rfl) (Nat.le_of_ble_eq_true rfl) (Nat.le_of_ble_eq_true rfl) ?_
          refine J_iconst (1) dX0_whyNotInspectedBy_42 rfl ?_
          refine J_icmp_ge (tgt := 50) dX0_whyNotInspectedBy_43 (by decide) (fun h5 => ?_) (fun h5 => ?_)
          · skip
            refine J_iconst (0) dX0_whyNotInspectedBy_50 rfl ?_
            exact J_iret (ty := .int) hR dX0_whyNotInspectedBy_51 rfl rfl (Nat.le_of_ble_eq_true rfl) (Nat.le_of_ble_eq_true rfl) (jRes_i (by first | rfl | (simp only [fX0_whyNotInspectedBy, if_neg h1, if_neg h2, if_neg h3, if_pos h4, if_pos h5]; done) | (simp only [fX0_whyNotInspectedBy, if_neg h1, if_neg h2, if_neg h3, if_pos h4, if_pos h5]; rfl)) rfl)
          · skip
            refine J_iconst (5) dX0_whyNotInspectedBy_46 rfl ?_
            refine J_goto (tgt := 51) dX0_whyNotInspectedBy_47 (by decide) ?_
            exact J_iret (ty := .int) hR dX0_whyNotInspectedBy_51 rfl rfl (Nat.le_of_ble_eq_true rfl) (Nat.le_of_ble_eq_true rfl) (jRes_i (by first | rfl | (simp only [fX0_whyNotInspectedBy, if_neg h1, if_neg h2, if_neg h3, if_pos h4, if_neg h5]; done) | (simp only [fX0_whyNotInspectedBy, if_neg h1, if_neg h2, if_neg h3, if_pos h4, if_neg h5]; rfl)) rfl)
        · skip
          refine J_iconst (4) dX0_whyNotInspectedBy_36 rfl ?_
          exact J_iret (ty := .int) hR dX0_whyNotInspectedBy_37 rfl rfl (Nat.le_of_ble_eq_true rfl) (Nat.le_of_ble_eq_true rfl) (jRes_i (by first | rfl | (simp only [fX0_whyNotInspectedBy, if_neg h1, if_neg h2, if_neg h3, if_neg h4]; done) | (simp only [fX0_whyNotInspectedBy, if_neg h1, if_neg h2, if_neg h3, if_neg h4]; rfl)) rfl)
      · skip
        refine J_iconst (3) dX0_whyNotInspectedBy_27 rfl ?_
        exact J_iret (ty := .int) hR dX0_whyNotInspectedBy_28 rfl rfl (Nat.le_of_ble_eq_true rfl) (Nat.le_of_ble_eq_true rfl) (jRes_i (by first | rfl | (simp only [fX0_whyNotInspectedBy, if_neg h1, if_neg h2, if_pos h3]; done) | (simp only [fX0_whyNotInspectedBy, if_neg h1, if_neg h2, if_pos h3]; rfl)) rfl)
    · skip
      refine J_iconst (2) dX0_whyNotInspectedBy_18 rfl ?_
      exact J_iret (ty := .int) hR dX0_whyNotInspectedBy_19 rfl rfl (Nat.le_of_ble_eq_true rfl) (Nat.le_of_ble_eq_true rfl) (jRes_i (by first | rfl | (simp only [fX0_whyNotInspectedBy, if_neg h1, if_pos h2]; done) | (simp only [fX0_whyNotInspectedBy, if_neg h1, if_pos h2]; rfl)) rfl)
  · skip
    refine J_iconst (1) dX0_whyNotInspectedBy_8 rfl ?_
    exact J_iret (ty := .int) hR dX0_whyNotInspectedBy_9 rfl rfl (Nat.le_of_ble_eq_true rfl) (Nat.le_of_ble_eq_true rfl) (jRes_i (by first | rfl | (simp only [fX0_whyNotInspectedBy, if_pos h1]; done) | (simp only [fX0_whyNotInspectedBy, if_pos h1]; rfl)) rfl)
def fX0_takePaper (I : jI) (o : Nat) (x : Int32) (y : Int32) (z : Int32) : jI :=
  (jset (jset (jset (jset I o 7 1) o 8 x) o 9 y) o 10 z)
set_option maxRecDepth 100000 in
set_option maxHeartbeats 4000000 in
theorem kX0_takePaper (S : jX) (I : jI) (o : Nat) (x : Int32) (y : Int32) (z : Int32) (hk : jKd S o 0 0) : jM (0, 0, 0) mX0_takePaper [.ref o, .int x, .int y, .int z] S I (jRes none S (fX0_takePaper I o x y z)) := by
  refine jM.of (ls := [.ref o, .int x, .int y, .int z]) (by decide) (Nat.le_of_ble_eq_true rfl) (by intro v hv; simp only [List.mem_cons, List.not_mem_nil, or_false] at hv; rcases hv with rfl | rfl | rfl | rfl <;> rfl) rfl (fun G hR => ?_)
  refine J_aload_n dX0_takePaper_0 rfl rfl ?_
  refine J_iconst (1) dX0_takePaper_1 rfl ?_
  refine J_putI dX0_takePaper_2 flX0_34 rfl rfl rfl rfl hk ?_
  refine J_aload_n dX0_takePaper_5 rfl rfl ?_
  refine J_iload_n dX0_takePaper_6 rfl ?_
  refine J_putI dX0_takePaper_7 flX0_40 rfl rfl rfl rfl hk ?_
  refine J_aload_n dX0_takePaper_10 rfl rfl ?_
  refine J_iload_n dX0_takePaper_11 rfl ?_
  refine J_putI dX0_takePaper_12 flX0_43 rfl rfl rfl rfl hk ?_
  refine J_aload_n dX0_takePaper_15 rfl rfl ?_
  refine J_iload_n dX0_takePaper_16 rfl ?_
  refine J_putI dX0_takePaper_17 flX0_46 rfl rfl rfl rfl hk ?_
  exact J_vret hR dX0_takePaper_20 rfl (Nat.le_of_ble_eq_true rfl) (Nat.le_of_ble_eq_true rfl) (jRes_v (by first | rfl | (simp only [fX0_takePaper]; done) | (simp only [fX0_takePaper]; rfl)))
def fX0_refusePaper (I : jI) (o : Nat) : jI :=
  (jset (jset I o 7 0) o 6 1)
set_option maxRecDepth 100000 in
set_option maxHeartbeats 4000000 in
theorem kX0_refusePaper (S : jX) (I : jI) (o : Nat) (hk : jKd S o 0 0) : jM (0, 0, 0) mX0_refusePaper [.ref o] S I (jRes none S (fX0_refusePaper I o)) := by
  refine jM.of (ls := [.ref o]) (by decide) (Nat.le_of_ble_eq_true rfl) (by intro v hv; simp only [List.mem_cons, List.not_mem_nil, or_false] at hv; rcases hv with rfl <;> rfl) rfl (fun G hR => ?_)
  refine J_aload_n dX0_refusePaper_0 rfl rfl ?_
  refine J_iconst (0) dX0_refusePaper_1 rfl ?_
  refine J_putI dX0_refusePaper_2 flX0_34 rfl rfl rfl rfl hk ?_
  refine J_aload_n dX0_refusePaper_5 rfl rfl ?_
  refine J_iconst (1) dX0_refusePaper_6 rfl ?_
  refine J_putI dX0_refusePaper_7 flX0_30 rfl rfl rfl rfl hk ?_
  exact J_vret hR dX0_refusePaper_10 rfl (Nat.le_of_ble_eq_true rfl) (Nat.le_of_ble_eq_true rfl) (jRes_v (by first | rfl | (simp only [fX0_refusePaper]; done) | (simp only [fX0_refusePaper]; rfl)))
def fX0_becomeCold (I : jI) (o : Nat) : jI :=
  (jset (jset I o 3 0) o 4 0)
set_option maxRecDepth 100000 in
set_option maxHeartbeats 4000000 in
theorem kX0_becomeCold (S : jX) (I : jI) (o : Nat) (hk : jKd S o 0 0) : jM (0, 0, 0) mX0_becomeCold [.ref o] S I (jRes none S (fX0_becomeCold I o)) := by
  refine jM.of (ls := [.ref o]) (by decide) (Nat.le_of_ble_eq_true rfl) (by intro v hv; simp only [List.mem_cons, List.not_mem_nil, or_false] at hv; rcases hv with rfl <;> rfl) rfl (fun G hR => ?_)
  refine J_aload_n dX0_becomeCold_0 rfl rfl ?_
  refine J_iconst (0) dX0_becomeCold_1 rfl ?_
  refine J_putI dX0_becomeCold_2 flX0_21 rfl rfl rfl rfl hk ?_
  refine J_aload_n dX0_becomeCold_5 rfl rfl ?_
  refine J_iconst (0) dX0_becomeCold_6 rfl ?_
  refine J_putI dX0_becomeCold_7 flX0_24 rfl rfl rfl rfl hk ?_
  exact J_vret hR dX0_becomeCold_10 rfl (Nat.le_of_ble_eq_true rfl) (Nat.le_of_ble_eq_true rfl) (jRes_v (by first | rfl | (simp only [fX0_becomeCold]; done) | (simp only [fX0_becomeCold]; rfl)))
def fX0_age (I : jI) (o : Nat) : jI :=
  if (I o 3) = 1 then
    (jset I o 2 (if (((I o 2) + 1) + ((I o 1) / 10)) < 200 then (((I o 2) + 1) + ((I o 1) / 10)) else 200))
  else
    if (I o 3) = 0 then
      (jset I o 4 ((I o 4) + 1))
    else
      I
set_option maxRecDepth 100000 in
set_option maxHeartbeats 4000000 in
theorem kX0_age (S : jX) (I : jI) (o : Nat) (hk : jKd S o 0 0) : jM (1, 0, 0) mX0_age [.ref o] S I (jRes none S (fX0_age I o)) := by
  refine jM.of (ls := [.ref o]) (by decide) (Nat.le_of_ble_eq_true rfl) (by intro v hv; simp only [List.mem_cons, List.not_mem_nil, or_false] at hv; rcases hv with rfl <;> rfl) rfl (fun G hR => ?_)
  refine J_aload_n dX0_age_0 rfl rfl ?_
  refine J_getI dX0_age_1 flX0_21 rfl hk ?_
  refine J_iconst (1) dX0_age_4 rfl ?_
  refine J_icmp_ne (tgt := 35) dX0_age_5 (by decide) (fun h1 => ?_) (fun h1 => ?_)
  · skip
    refine J_aload_n dX0_age_35 rfl rfl ?_
    refine J_getI dX0_age_36 flX0_21 rfl hk ?_
    refine J_if_ne (tgt := 52) dX0_age_39 (by decide) (fun h2 => ?_) (fun h2 => ?_)
    · skip
      exact J_vret hR dX0_age_52 rfl (Nat.le_of_ble_eq_true rfl) (Nat.le_of_ble_eq_true rfl) (jRes_v (by first | rfl | (simp only [fX0_age, if_neg h1, if_neg h2]; done) | (simp only [fX0_age, if_neg h1, if_neg h2]; rfl)))
    · skip
      refine J_aload_n dX0_age_42 rfl rfl ?_
      refine J_dup dX0_age_43 rfl ?_
      refine J_getI dX0_age_44 flX0_24 rfl hk ?_
      refine J_iconst (1) dX0_age_47 rfl ?_
      refine J_iadd dX0_age_48 ?_
      refine J_putI dX0_age_49 flX0_24 rfl rfl rfl rfl hk ?_
      exact J_vret hR dX0_age_52 rfl (Nat.le_of_ble_eq_true rfl) (Nat.le_of_ble_eq_true rfl) (jRes_v (by first | rfl | (simp only [fX0_age, if_neg h1, if_pos h2]; done) | (simp only [fX0_age, if_neg h1, if_pos h2]; rfl)))
  · skip
    refine J_aload_n dX0_age_8 rfl rfl ?_
    refine J_sipush (200) dX0_age_9 rfl ?_
    refine J_aload_n dX0_age_12 rfl rfl ?_
    refine J_getI dX0_age_13 flX0_18 rfl hk ?_
    refine J_iconst (1) dX0_age_16 rfl ?_
    refine J_iadd dX0_age_17 ?_
    refine J_aload_n dX0_age_18 rfl rfl ?_
    refine J_getI dX0_age_19 flX0_15 rfl hk ?_
    refine J_bipush (10) dX0_age_22 rfl ?_
    refine J_idiv dX0_age_24 (by decide) ?_
    refine J_iadd dX0_age_25 ?_
    refine J_min dX0_age_26 jw_424 (Nat.le_of_ble_eq_true rfl) (Nat.le_of_ble_eq_true rfl) (Nat.le_of_ble_eq_true rfl) (Nat.le_of_ble_eq_true rfl) ?_
    refine J_putI dX0_age_29 flX0_18 rfl rfl rfl rfl hk ?_
    refine J_goto (tgt := 52) dX0_age_32 (by decide) ?_
    exact J_vret hR dX0_age_52 rfl (Nat.le_of_ble_eq_true rfl) (Nat.le_of_ble_eq_true rfl) (jRes_v (by first | rfl | (simp only [fX0_age, if_pos h1]; done) | (simp only [fX0_age, if_pos h1]; rfl)))
def fX0_endRepairIn (I : jI) (o : Nat) (x : Int32) : jI :=
  if (I o 3) = 2 then
    if (I o 5) ≤ x then
      (jset (jset (jset (fX0_becomeCold I o) o 2 (((fX0_becomeCold I o) o 2) / 4)) o 6 0) o 7 0)
    else
      I
  else
    I
set_option maxRecDepth 100000 in
set_option maxHeartbeats 4000000 in
theorem kX0_endRepairIn (S : jX) (I : jI) (o : Nat) (x : Int32) (hk : jKd S o 0 0) : jM (1, 0, 0) mX0_endRepairIn [.ref o, .int x] S I (jRes none S (fX0_endRepairIn I o x)) := by
  refine jM.of (ls := [.ref o, .int x]) (by decide) (Nat.le_of_ble_eq_true rfl) (by intro v hv; simp only [List.mem_cons, List.not_mem_nil, or_false] at hv; rcases hv with rfl | rfl <;> rfl) rfl (fun G hR => ?_)
  refine J_aload_n dX0_endRepairIn_0 rfl rfl ?_
  refine J_getI dX0_endRepairIn_1 flX0_21 rfl hk ?_
  refine J_iconst (2) dX0_endRepairIn_4 rfl ?_
  refine J_icmp_ne (tgt := 16) dX0_endRepairIn_5 (by decide) (fun h1 => ?_) (fun h1 => ?_)
  · skip
    exact J_vret hR dX0_endRepairIn_16 rfl (Nat.le_of_ble_eq_true rfl) (Nat.le_of_ble_eq_true rfl) (jRes_v (by first | rfl | (simp only [fX0_endRepairIn, if_neg h1]; done) | (simp only [fX0_endRepairIn, if_neg h1]; rfl)))
  · skip
    refine J_aload_n dX0_endRepairIn_8 rfl rfl ?_
    refine J_getI dX0_endRepairIn_9 flX0_27 rfl hk ?_
    refine J_iload_n dX0_endRepairIn_12 rfl ?_
    refine J_icmp_le (tgt := 17) dX0_endRepairIn_13 (by decide) (fun h2 => ?_) (fun h2 => ?_)
    · skip
      refine J_aload_n dX0_endRepairIn_17 rfl rfl ?_
      refine J_cV0 (mc := mX0_becomeCold) hk (by decide) rfl dX0_endRepairIn_18 mlX0_71 okX0_becomeCold (kX0_becomeCold S I o hk) (Nat.le_of_ble_eq_true rfl) (Nat.le_of_ble_eq_true rfl) (Nat.le_of_ble_eq_true rfl) (Nat.le_of_ble_eq_true rfl) ?_
      refine J_aload_n dX0_endRepairIn_21 rfl rfl ?_
      refine J_aload_n dX0_endRepairIn_22 rfl rfl ?_
      refine J_getI dX0_endRepairIn_23 flX0_18 rfl hk ?_
      refine J_iconst (4) dX0_endRepairIn_26 rfl ?_
      refine J_idiv dX0_endRepairIn_27 (by decide) ?_
      refine J_putI dX0_endRepairIn_28 flX0_18 rfl rfl rfl rfl hk ?_
      refine J_aload_n dX0_endRepairIn_31 rfl rfl ?_
      refine J_iconst (0) dX0_endRepairIn_32 rfl ?_
      refine J_putI dX0_endRepairIn_33 flX0_30 rfl rfl rfl rfl hk ?_
      refine J_aload_n dX0_endRepairIn_36 rfl rfl ?_
      refine J_iconst (0) dX0_endRepairIn_37 rfl ?_
      refine J_putI dX0_endRepairIn_38 flX0_34 rfl rfl rfl rfl hk ?_
      exact J_vret hR dX0_endRepairIn_41 rfl (Nat.le_of_ble_eq_true rfl) (Nat.le_of_ble_eq_true rfl) (jRes_v (by first | rfl | (simp only [fX0_endRepairIn, if_pos h1, if_pos h2]; done) | (simp only [fX0_endRepairIn, if_pos h1, if_pos h2]; rfl)))
    · skip
      exact J_vret hR dX0_endRepairIn_16 rfl (Nat.le_of_ble_eq_true rfl) (Nat.le_of_ble_eq_true rfl) (jRes_v (by first | rfl | (simp only [fX0_endRepairIn, if_pos h1, if_neg h2]; done) | (simp only [fX0_endRepairIn, if_pos h1, if_neg h2]; rfl)))
def fX0_dropWhatIsPastIn (I : jI) (o : Nat) (x : Int32) : jI :=
  if (I o 7) = 0 then
    if (I o 11) = 0 then
      I
    else
      if x ≤ (I o 13) then
        I
      else
        (jset I o 11 0)
  else
    if x ≤ (I o 10) then
      if (I o 11) = 0 then
        I
      else
        if x ≤ (I o 13) then
          I
        else
          (jset I o 11 0)
    else
      if ((jset I o 7 0) o 11) = 0 then
        (jset I o 7 0)
      else
        if x ≤ ((jset I o 7 0) o 13) then
          (jset I o 7 0)
        else
          (jset (jset I o 7 0) o 11 0)
set_option maxRecDepth 100000 in
set_option maxHeartbeats 4000000 in
theorem kX0_dropWhatIsPastIn (S : jX) (I : jI) (o : Nat) (x : Int32) (hk : jKd S o 0 0) : jM (0, 0, 0) mX0_dropWhatIsPastIn [.ref o, .int x] S I (jRes none S (fX0_dropWhatIsPastIn I o x)) := by
  refine jM.of (ls := [.ref o, .int x]) (by decide) (Nat.le_of_ble_eq_true rfl) (by intro v hv; simp only [List.mem_cons, List.not_mem_nil, or_false] at hv; rcases hv with rfl | rfl <;> rfl) rfl (fun G hR => ?_)
  refine J_aload_n dX0_dropWhatIsPastIn_0 rfl rfl ?_
  refine J_getI dX0_dropWhatIsPastIn_1 flX0_34 rfl hk ?_
  refine J_if_eq (tgt := 20) dX0_dropWhatIsPastIn_4 (by decide) (fun h1 => ?_) (fun h1 => ?_)
  · skip
    refine J_aload_n dX0_dropWhatIsPastIn_20 rfl rfl ?_
    refine J_getI dX0_dropWhatIsPastIn_21 flX0_37 rfl hk ?_
    refine J_if_eq (tgt := 40) dX0_dropWhatIsPastIn_24 (by decide) (fun h2 => ?_) (fun h2 => ?_)
    · skip
      exact J_vret hR dX0_dropWhatIsPastIn_40 rfl (Nat.le_of_ble_eq_true rfl) (Nat.le_of_ble_eq_true rfl) (jRes_v (by first | rfl | (simp only [fX0_dropWhatIsPastIn, if_pos h1, if_pos h2]; done) | (simp only [fX0_dropWhatIsPastIn, if_pos h1, if_pos h2]; rfl)))
    · skip
      refine J_aload_n dX0_dropWhatIsPastIn_27 rfl rfl ?_
      refine J_getI dX0_dropWhatIsPastIn_28 flX0_52 rfl hk ?_
      refine J_iload_n dX0_dropWhatIsPastIn_31 rfl ?_
      refine J_icmp_ge (tgt := 40) dX0_dropWhatIsPastIn_32 (by decide) (fun h3 => ?_) (fun h3 => ?_)
      · skip
        exact J_vret hR dX0_dropWhatIsPastIn_40 rfl (Nat.le_of_ble_eq_true rfl) (Nat.le_of_ble_eq_true rfl) (jRes_v (by first | rfl | (simp only [fX0_dropWhatIsPastIn, if_pos h1, if_neg h2, if_pos h3]; done) | (simp only [fX0_dropWhatIsPastIn, if_pos h1, if_neg h2, if_pos h3]; rfl)))
      · skip
        refine J_aload_n dX0_dropWhatIsPastIn_35 rfl rfl ?_
        refine J_iconst (0) dX0_dropWhatIsPastIn_36 rfl ?_
        refine J_putI dX0_dropWhatIsPastIn_37 flX0_37 rfl rfl rfl rfl hk ?_
        exact J_vret hR dX0_dropWhatIsPastIn_40 rfl (Nat.le_of_ble_eq_true rfl) (Nat.le_of_ble_eq_true rfl) (jRes_v (by first | rfl | (simp only [fX0_dropWhatIsPastIn, if_pos h1, if_neg h2, if_neg h3]; done) | (simp only [fX0_dropWhatIsPastIn, if_pos h1, if_neg h2, if_neg h3]; rfl)))
  · skip
    refine J_aload_n dX0_dropWhatIsPastIn_7 rfl rfl ?_
    refine J_getI dX0_dropWhatIsPastIn_8 flX0_46 rfl hk ?_
    refine J_iload_n dX0_dropWhatIsPastIn_11 rfl ?_
    refine J_icmp_ge (tgt := 20) dX0_dropWhatIsPastIn_12 (by decide) (fun h4 => ?_) (fun h4 => ?_)
    · skip
      refine J_aload_n dX0_dropWhatIsPastIn_20 rfl rfl ?_
      refine J_getI dX0_dropWhatIsPastIn_21 flX0_37 rfl hk ?_
      refine J_if_eq (tgt := 40) dX0_dropWhatIsPastIn_24 (by decide) (fun h5 => ?_) (fun h5 => ?_)
      · skip
        exact J_vret hR dX0_dropWhatIsPastIn_40 rfl (Nat.le_of_ble_eq_true rfl) (Nat.le_of_ble_eq_true rfl) (jRes_v (by first | rfl | (simp only [fX0_dropWhatIsPastIn, if_neg h1, if_pos h4, if_pos h5]; done) | (simp only [fX0_dropWhatIsPastIn, if_neg h1, if_pos h4, if_pos h5]; rfl)))
      · skip
        refine J_aload_n dX0_dropWhatIsPastIn_27 rfl rfl ?_
        refine J_getI dX0_dropWhatIsPastIn_28 flX0_52 rfl hk ?_
        refine J_iload_n dX0_dropWhatIsPastIn_31 rfl ?_
        refine J_icmp_ge (tgt := 40) dX0_dropWhatIsPastIn_32 (by decide) (fun h6 => ?_) (fun h6 => ?_)
        · skip
          exact J_vret hR dX0_dropWhatIsPastIn_40 rfl (Nat.le_of_ble_eq_true rfl) (Nat.le_of_ble_eq_true rfl) (jRes_v (by first | rfl | (simp only [fX0_dropWhatIsPastIn, if_neg h1, if_pos h4, if_neg h5, if_pos h6]; done) | (simp only [fX0_dropWhatIsPastIn, if_neg h1, if_pos h4, if_neg h5, if_pos h6]; rfl)))
        · skip
          refine J_aload_n dX0_dropWhatIsPastIn_35 rfl rfl ?_
          refine J_iconst (0) dX0_dropWhatIsPastIn_36 rfl ?_
          refine J_putI dX0_dropWhatIsPastIn_37 flX0_37 rfl rfl rfl rfl hk ?_
          exact J_vret hR dX0_dropWhatIsPastIn_40 rfl (Nat.le_of_ble_eq_true rfl) (Nat.le_of_ble_eq_true rfl) (jRes_v (by first | rfl | (simp only [fX0_dropWhatIsPastIn, if_neg h1, if_pos h4, if_neg h5, if_neg h6]; done) | (simp only [fX0_dropWhatIsPastIn, if_neg h1, if_pos h4, if_neg h5, if_neg h6]; rfl)))
    · skip
      refine J_aload_n dX0_dropWhatIsPastIn_15 rfl rfl ?_
      refine J_iconst (0) dX0_dropWhatIsPastIn_16 rfl ?_
      refine J_putI dX0_dropWhatIsPastIn_17 flX0_34 rfl rfl rfl rfl hk ?_
      refine J_aload_n dX0_dropWhatIsPastIn_20 rfl rfl ?_
      refine J_getI dX0_dropWhatIsPastIn_21 flX0_37 rfl hk ?_
      refine J_if_eq (tgt := 40) dX0_dropWhatIsPastIn_24 (by decide) (fun h7 => ?_) (fun h7 => ?_)
      · skip
        exact J_vret hR dX0_dropWhatIsPastIn_40 rfl (Nat.le_of_ble_eq_true rfl) (Nat.le_of_ble_eq_true rfl) (jRes_v (by first | rfl | (simp only [fX0_dropWhatIsPastIn, if_neg h1, if_neg h4, if_pos h7]; done) | (simp only [fX0_dropWhatIsPastIn, if_neg h1, if_neg h4, if_pos h7]; rfl)))
      · skip
        refine J_aload_n dX0_dropWhatIsPastIn_27 rfl rfl ?_
        refine J_getI dX0_dropWhatIsPastIn_28 flX0_52 rfl hk ?_
        refine J_iload_n dX0_dropWhatIsPastIn_31 rfl ?_
        refine J_icmp_ge (tgt := 40) dX0_dropWhatIsPastIn_32 (by decide) (fun h8 => ?_) (fun h8 => ?_)
        · skip
          exact J_vret hR dX0_dropWhatIsPastIn_40 rfl (Nat.le_of_ble_eq_true rfl) (Nat.le_of_ble_eq_true rfl) (jRes_v (by first | rfl | (simp only [fX0_dropWhatIsPastIn, if_neg h1, if_neg h4, if_neg h7, if_pos h8]; done) | (simp only [fX0_dropWhatIsPastIn, if_neg h1, if_neg h4, if_neg h7, if_pos h8]; rfl)))
        · skip
          refine J_aload_n dX0_dropWhatIsPastIn_35 rfl rfl ?_
          refine J_iconst (0) dX0_dropWhatIsPastIn_36 rfl ?_
          refine J_putI dX0_dropWhatIsPastIn_37 flX0_37 rfl rfl rfl rfl hk ?_
          exact J_vret hR dX0_dropWhatIsPastIn_40 rfl (Nat.le_of_ble_eq_true rfl) (Nat.le_of_ble_eq_true rfl) (jRes_v (by first | rfl | (simp only [fX0_dropWhatIsPastIn, if_neg h1, if_neg h4, if_neg h7, if_neg h8]; done) | (simp only [fX0_dropWhatIsPastIn, if_neg h1, if_neg h4, if_neg h7, if_neg h8]; rfl)))
def fX0_mustGoOutIn (I : jI) (o : Nat) (x : Int32) : Int32 :=
  if (I o 3) = 1 then
    if (I o 7) = 0 then
      1
    else
      if (fX0_isShutIn I o x) = 0 then
        0
      else
        1
  else
    0
set_option maxRecDepth 100000 in
set_option maxHeartbeats 4000000 in
theorem kX0_mustGoOutIn (S : jX) (I : jI) (o : Nat) (x : Int32) (hk : jKd S o 0 0) : jM (1, 0, 0) mX0_mustGoOutIn [.ref o, .int x] S I (jRes (some (.int (fX0_mustGoOutIn I o x))) S I) := by
  refine jM.of (ls := [.ref o, .int x]) (by decide) (Nat.le_of_ble_eq_true rfl) (by intro v hv; simp only [List.mem_cons, List.not_mem_nil, or_false] at hv; rcases hv with rfl | rfl <;> rfl) rfl (fun G hR => ?_)
  refine J_aload_n dX0_mustGoOutIn_0 rfl rfl ?_
  refine J_getI dX0_mustGoOutIn_1 flX0_21 rfl hk ?_
  refine J_iconst (1) dX0_mustGoOutIn_4 rfl ?_
  refine J_icmp_ne (tgt := 27) dX0_mustGoOutIn_5 (by decide) (fun h1 => ?_) (fun h1 => ?_)
  · skip
    refine J_iconst (0) dX0_mustGoOutIn_27 rfl ?_
    exact J_iret (ty := .boolean) hR dX0_mustGoOutIn_28 rfl rfl (Nat.le_of_ble_eq_true rfl) (Nat.le_of_ble_eq_true rfl) (jRes_i (by first | rfl | (simp only [fX0_mustGoOutIn, if_neg h1]; done) | (simp only [fX0_mustGoOutIn, if_neg h1]; rfl)) rfl)
  · skip
    refine J_aload_n dX0_mustGoOutIn_8 rfl rfl ?_
    refine J_getI dX0_mustGoOutIn_9 flX0_34 rfl hk ?_
    refine J_if_eq (tgt := 23) dX0_mustGoOutIn_12 (by decide) (fun h2 => ?_) (fun h2 => ?_)
    · skip
      refine J_iconst (1) dX0_mustGoOutIn_23 rfl ?_
      refine J_goto (tgt := 28) dX0_mustGoOutIn_24 (by decide) ?_
      exact J_iret (ty := .boolean) hR dX0_mustGoOutIn_28 rfl rfl (Nat.le_of_ble_eq_true rfl) (Nat.le_of_ble_eq_true rfl) (jRes_i (by first | rfl | (simp only [fX0_mustGoOutIn, if_pos h1, if_pos h2]; done) | (simp only [fX0_mustGoOutIn, if_pos h1, if_pos h2]; rfl)) rfl)
    · skip
      refine J_aload_n dX0_mustGoOutIn_15 rfl rfl ?_
      refine J_iload_n dX0_mustGoOutIn_16 rfl ?_
      refine J_cV1r (mc := mX0_isShutIn) hk (by decide) rfl dX0_mustGoOutIn_17 mlX0_55 okX0_isShutIn (kX0_isShutIn S I o x hk) (Nat.le_of_ble_eq_true rfl) (Nat.le_of_ble_eq_true rfl) (Nat.le_of_ble_eq_true rfl) (Nat.le_of_ble_eq_true rfl) ?_
      refine J_if_eq (tgt := 27) dX0_mustGoOutIn_20 (by decide) (fun h3 => ?_) (fun h3 => ?_)
      · skip
        refine J_iconst (0) dX0_mustGoOutIn_27 rfl ?_
        exact J_iret (ty := .boolean) hR dX0_mustGoOutIn_28 rfl rfl (Nat.le_of_ble_eq_true rfl) (Nat.le_of_ble_eq_true rfl) (jRes_i (by first | rfl | (simp only [fX0_mustGoOutIn, if_pos h1, if_neg h2, if_pos h3]; done) | (simp only [fX0_mustGoOutIn, if_pos h1, if_neg h2, if_pos h3]; rfl)) rfl)
      · skip
        refine J_iconst (1) dX0_mustGoOutIn_23 rfl ?_
        refine J_goto (tgt := 28) dX0_mustGoOutIn_24 (by decide) ?_
        exact J_iret (ty := .boolean) hR dX0_mustGoOutIn_28 rfl rfl (Nat.le_of_ble_eq_true rfl) (Nat.le_of_ble_eq_true rfl) (jRes_i (by first | rfl | (simp only [fX0_mustGoOutIn, if_pos h1, if_neg h2, if_neg h3]; done) | (simp only [fX0_mustGoOutIn, if_pos h1, if_neg h2, if_neg h3]; rfl)) rfl)
def fX0_weeksUntilPutOut (I : jI) (o : Nat) (x : Int32) : Int32 :=
  if (I o 3) = 1 then
    if (I o 11) = 0 then
      (((I o 10) + 1) - x)
    else
      (if ((I o 12) - x) < (((I o 10) + 1) - x) then ((I o 12) - x) else (((I o 10) + 1) - x))
  else
    (-2000000002)
set_option maxRecDepth 100000 in
set_option maxHeartbeats 4000000 in
theorem kX0_weeksUntilPutOut (S : jX) (I : jI) (o : Nat) (x : Int32) (hk : jKd S o 0 0) : jM (1, 0, 0) mX0_weeksUntilPutOut [.ref o, .int x] S I (jRes (some (.int (fX0_weeksUntilPutOut I o x))) S I) := by
  refine jM.of (ls := [.ref o, .int x, .long 0]) (by decide) (Nat.le_of_ble_eq_true rfl) (by intro v hv; simp only [List.mem_cons, List.not_mem_nil, or_false] at hv; rcases hv with rfl | rfl <;> rfl) rfl (fun G hR => ?_)
  refine J_aload_n dX0_weeksUntilPutOut_0 rfl rfl ?_
  refine J_getI dX0_weeksUntilPutOut_1 flX0_21 rfl hk ?_
  refine J_iconst (1) dX0_weeksUntilPutOut_4 rfl ?_
  refine J_icmp_eq (tgt := 11) dX0_weeksUntilPutOut_5 (by decide) (fun h1 => ?_) (fun h1 => ?_)
  · skip
    refine J_aload_n dX0_weeksUntilPutOut_11 rfl rfl ?_
    refine J_getI dX0_weeksUntilPutOut_12 flX0_46 rfl hk ?_
    refine J_iconst (1) dX0_weeksUntilPutOut_15 rfl ?_
    refine J_iadd dX0_weeksUntilPutOut_16 ?_
    refine J_iload_n dX0_weeksUntilPutOut_17 rfl ?_
    refine J_isub dX0_weeksUntilPutOut_18 ?_
    refine J_istore_n dX0_weeksUntilPutOut_19 (Nat.le_of_ble_eq_true rfl) ?_
    refine J_aload_n dX0_weeksUntilPutOut_20 rfl rfl ?_
    refine J_getI dX0_weeksUntilPutOut_21 flX0_37 rfl hk ?_
    refine J_if_eq (tgt := 40) dX0_weeksUntilPutOut_24 (by decide) (fun h2 => ?_) (fun h2 => ?_)
    · skip
      refine J_iload_n dX0_weeksUntilPutOut_40 rfl ?_
      exact J_iret (ty := .int) hR dX0_weeksUntilPutOut_41 rfl rfl (Nat.le_of_ble_eq_true rfl) (Nat.le_of_ble_eq_true rfl) (jRes_i (by first | rfl | (simp only [fX0_weeksUntilPutOut, if_pos h1, if_pos h2]; done) | (simp only [fX0_weeksUntilPutOut, if_pos h1, if_pos h2]; rfl)) rfl)
    · skip
      refine J_iload_n dX0_weeksUntilPutOut_27 rfl ?_
      refine J_aload_n dX0_weeksUntilPutOut_28 rfl rfl ?_
      refine J_getI dX0_weeksUntilPutOut_29 flX0_49 rfl hk ?_
      refine J_iload_n dX0_weeksUntilPutOut_32 rfl ?_
      refine J_isub dX0_weeksUntilPutOut_33 ?_
      refine J_min dX0_weeksUntilPutOut_34 jw_424 (Nat.le_of_ble_eq_true rfl) (Nat.le_of_ble_eq_true rfl) (Nat.le_of_ble_eq_true rfl) (Nat.le_of_ble_eq_true rfl) ?_
      refine J_goto (tgt := 41) dX0_weeksUntilPutOut_37 (by decide) ?_
      exact J_iret (ty := .int) hR dX0_weeksUntilPutOut_41 rfl rfl (Nat.le_of_ble_eq_true rfl) (Nat.le_of_ble_eq_true rfl) (jRes_i (by first | rfl | (simp only [fX0_weeksUntilPutOut, if_pos h1, if_neg h2]; done) | (simp only [fX0_weeksUntilPutOut, if_pos h1, if_neg h2]; rfl)) rfl)
  · skip
    refine J_ldc (-2000000002) dX0_weeksUntilPutOut_8 jw_550 ?_
    exact J_iret (ty := .int) hR dX0_weeksUntilPutOut_10 rfl rfl (Nat.le_of_ble_eq_true rfl) (Nat.le_of_ble_eq_true rfl) (jRes_i (by first | rfl | (simp only [fX0_weeksUntilPutOut, if_neg h1]; done) | (simp only [fX0_weeksUntilPutOut, if_neg h1]; rfl)) rfl)
def fX0_fact (I : jI) (o : Nat) (x : Int32) (y : Int32) : Int32 :=
  if x = 0 then
    (I o 0)
  else
    if x = 1 then
      (I o 1)
    else
      if x = 2 then
        (I o 2)
      else
        if x = 3 then
          (I o 3)
        else
          if x = 4 then
            if (I o 3) = 0 then
              (I o 4)
            else
              (-2000000004)
          else
            if x = 5 then
              if (I o 3) = 2 then
                ((I o 5) - y)
              else
                (-2000000004)
            else
              if x = 6 then
                if (I o 6) = 0 then
                  0
                else
                  1
              else
                if x = 7 then
                  if (I o 11) = 0 then
                    (-2000000004)
                  else
                    (I o 12)
                else
                  if x = 8 then
                    if (I o 11) = 0 then
                      (-2000000004)
                    else
                      (I o 13)
                  else
                    if x = 9 then
                      (fX0_strength I o)
                    else
                      (-2000000001)
set_option maxRecDepth 100000 in
set_option maxHeartbeats 4000000 in
theorem kX0_fact (S : jX) (I : jI) (o : Nat) (x : Int32) (y : Int32) (hk : jKd S o 0 0) : jM (1, 0, 0) mX0_fact [.ref o, .int x, .int y] S I (jRes (some (.int (fX0_fact I o x y))) S I) := by
  refine jM.of (ls := [.ref o, .int x, .int y]) (by decide) (Nat.le_of_ble_eq_true rfl) (by intro v hv; simp only [List.mem_cons, List.not_mem_nil, or_false] at hv; rcases hv with rfl | rfl | rfl <;> rfl) rfl (fun G hR => ?_)
  refine J_iload_n dX0_fact_0 rfl ?_
  by_cases h1 : x = 0
  · skip
    refine J_tabIn (off := 55) (tgt := 56) dX0_fact_1 (by rw [h1]; decide) (by rw [h1]; decide) (by rw [h1]; rfl) (by decide) ?_
    refine J_aload_n dX0_fact_56 rfl rfl ?_
    refine J_getI dX0_fact_57 flX0_9 rfl hk ?_
    exact J_iret (ty := .int) hR dX0_fact_60 rfl rfl (Nat.le_of_ble_eq_true rfl) (Nat.le_of_ble_eq_true rfl) (jRes_i (by first | rfl | (simp only [fX0_fact, if_pos h1]; done) | (simp only [fX0_fact, if_pos h1]; rfl)) rfl)
  by_cases h2 : x = 1
  · skip
    refine J_tabIn (off := 60) (tgt := 61) dX0_fact_1 (by rw [h2]; decide) (by rw [h2]; decide) (by rw [h2]; rfl) (by decide) ?_
    refine J_aload_n dX0_fact_61 rfl rfl ?_
    refine J_getI dX0_fact_62 flX0_15 rfl hk ?_
    exact J_iret (ty := .int) hR dX0_fact_65 rfl rfl (Nat.le_of_ble_eq_true rfl) (Nat.le_of_ble_eq_true rfl) (jRes_i (by first | rfl | (simp only [fX0_fact, if_neg h1, if_pos h2]; done) | (simp only [fX0_fact, if_neg h1, if_pos h2]; rfl)) rfl)
  by_cases h3 : x = 2
  · skip
    refine J_tabIn (off := 65) (tgt := 66) dX0_fact_1 (by rw [h3]; decide) (by rw [h3]; decide) (by rw [h3]; rfl) (by decide) ?_
    refine J_aload_n dX0_fact_66 rfl rfl ?_
    refine J_getI dX0_fact_67 flX0_18 rfl hk ?_
    exact J_iret (ty := .int) hR dX0_fact_70 rfl rfl (Nat.le_of_ble_eq_true rfl) (Nat.le_of_ble_eq_true rfl) (jRes_i (by first | rfl | (simp only [fX0_fact, if_neg h1, if_neg h2, if_pos h3]; done) | (simp only [fX0_fact, if_neg h1, if_neg h2, if_pos h3]; rfl)) rfl)
  by_cases h4 : x = 3
  · skip
    refine J_tabIn (off := 70) (tgt := 71) dX0_fact_1 (by rw [h4]; decide) (by rw [h4]; decide) (by rw [h4]; rfl) (by decide) ?_
    refine J_aload_n dX0_fact_71 rfl rfl ?_
    refine J_getI dX0_fact_72 flX0_21 rfl hk ?_
    exact J_iret (ty := .int) hR dX0_fact_75 rfl rfl (Nat.le_of_ble_eq_true rfl) (Nat.le_of_ble_eq_true rfl) (jRes_i (by first | rfl | (simp only [fX0_fact, if_neg h1, if_neg h2, if_neg h3, if_pos h4]; done) | (simp only [fX0_fact, if_neg h1, if_neg h2, if_neg h3, if_pos h4]; rfl)) rfl)
  by_cases h5 : x = 4
  · skip
    refine J_tabIn (off := 75) (tgt := 76) dX0_fact_1 (by rw [h5]; decide) (by rw [h5]; decide) (by rw [h5]; rfl) (by decide) ?_
    refine J_aload_n dX0_fact_76 rfl rfl ?_
    refine J_getI dX0_fact_77 flX0_21 rfl hk ?_
    refine J_if_ne (tgt := 90) dX0_fact_80 (by decide) (fun h6 => ?_) (fun h6 => ?_)
    · skip
      refine J_ldc (-2000000004) dX0_fact_90 jw_460 ?_
      exact J_iret (ty := .int) hR dX0_fact_92 rfl rfl (Nat.le_of_ble_eq_true rfl) (Nat.le_of_ble_eq_true rfl) (jRes_i (by first | rfl | (simp only [fX0_fact, if_neg h1, if_neg h2, if_neg h3, if_neg h4, if_pos h5, if_neg h6]; done) | (simp only [fX0_fact, if_neg h1, if_neg h2, if_neg h3, if_neg h4, if_pos h5, if_neg h6]; rfl)) rfl)
    · skip
      refine J_aload_n dX0_fact_83 rfl rfl ?_
      refine J_getI dX0_fact_84 flX0_24 rfl hk ?_
      refine J_goto (tgt := 92) dX0_fact_87 (by decide) ?_
      exact J_iret (ty := .int) hR dX0_fact_92 rfl rfl (Nat.le_of_ble_eq_true rfl) (Nat.le_of_ble_eq_true rfl) (jRes_i (by first | rfl | (simp only [fX0_fact, if_neg h1, if_neg h2, if_neg h3, if_neg h4, if_pos h5, if_pos h6]; done) | (simp only [fX0_fact, if_neg h1, if_neg h2, if_neg h3, if_neg h4, if_pos h5, if_pos h6]; rfl)) rfl)
  by_cases h7 : x = 5
  · skip
    refine J_tabIn (off := 92) (tgt := 93) dX0_fact_1 (by rw [h7]; decide) (by rw [h7]; decide) (by rw [h7]; rfl) (by decide) ?_
    refine J_aload_n dX0_fact_93 rfl rfl ?_
    refine J_getI dX0_fact_94 flX0_21 rfl hk ?_
    refine J_iconst (2) dX0_fact_97 rfl ?_
    refine J_icmp_ne (tgt := 110) dX0_fact_98 (by decide) (fun h8 => ?_) (fun h8 => ?_)
    · skip
      refine J_ldc (-2000000004) dX0_fact_110 jw_460 ?_
      exact J_iret (ty := .int) hR dX0_fact_112 rfl rfl (Nat.le_of_ble_eq_true rfl) (Nat.le_of_ble_eq_true rfl) (jRes_i (by first | rfl | (simp only [fX0_fact, if_neg h1, if_neg h2, if_neg h3, if_neg h4, if_neg h5, if_pos h7, if_neg h8]; done) | (simp only [fX0_fact, if_neg h1, if_neg h2, if_neg h3, if_neg h4, if_neg h5, if_pos h7, if_neg h8]; rfl)) rfl)
    · skip
      refine J_aload_n dX0_fact_101 rfl rfl ?_
      refine J_getI dX0_fact_102 flX0_27 rfl hk ?_
      refine J_iload_n dX0_fact_105 rfl ?_
      refine J_isub dX0_fact_106 ?_
      refine J_goto (tgt := 112) dX0_fact_107 (by decide) ?_
      exact J_iret (ty := .int) hR dX0_fact_112 rfl rfl (Nat.le_of_ble_eq_true rfl) (Nat.le_of_ble_eq_true rfl) (jRes_i (by first | rfl | (simp only [fX0_fact, if_neg h1, if_neg h2, if_neg h3, if_neg h4, if_neg h5, if_pos h7, if_pos h8]; done) | (simp only [fX0_fact, if_neg h1, if_neg h2, if_neg h3, if_neg h4, if_neg h5, if_pos h7, if_pos h8]; rfl)) rfl)
  by_cases h9 : x = 6
  · skip
    refine J_tabIn (off := 112) (tgt := 113) dX0_fact_1 (by rw [h9]; decide) (by rw [h9]; decide) (by rw [h9]; rfl) (by decide) ?_
    refine J_aload_n dX0_fact_113 rfl rfl ?_
    refine J_getI dX0_fact_114 flX0_30 rfl hk ?_
    refine J_if_eq (tgt := 124) dX0_fact_117 (by decide) (fun h10 => ?_) (fun h10 => ?_)
    · skip
      refine J_iconst (0) dX0_fact_124 rfl ?_
      exact J_iret (ty := .int) hR dX0_fact_125 rfl rfl (Nat.le_of_ble_eq_true rfl) (Nat.le_of_ble_eq_true rfl) (jRes_i (by first | rfl | (simp only [fX0_fact, if_neg h1, if_neg h2, if_neg h3, if_neg h4, if_neg h5, if_neg h7, if_pos h9, if_pos h10]; done) | (simp only [fX0_fact, if_neg h1, if_neg h2, if_neg h3, if_neg h4, if_neg h5, if_neg h7, if_pos h9, if_pos h10]; rfl)) rfl)
    · skip
      refine J_iconst (1) dX0_fact_120 rfl ?_
      refine J_goto (tgt := 125) dX0_fact_121 (by decide) ?_
      exact J_iret (ty := .int) hR dX0_fact_125 rfl rfl (Nat.le_of_ble_eq_true rfl) (Nat.le_of_ble_eq_true rfl) (jRes_i (by first | rfl | (simp only [fX0_fact, if_neg h1, if_neg h2, if_neg h3, if_neg h4, if_neg h5, if_neg h7, if_pos h9, if_neg h10]; done) | (simp only [fX0_fact, if_neg h1, if_neg h2, if_neg h3, if_neg h4, if_neg h5, if_neg h7, if_pos h9, if_neg h10]; rfl)) rfl)
  by_cases h11 : x = 7
  · skip
    refine J_tabIn (off := 125) (tgt := 126) dX0_fact_1 (by rw [h11]; decide) (by rw [h11]; decide) (by rw [h11]; rfl) (by decide) ?_
    refine J_aload_n dX0_fact_126 rfl rfl ?_
    refine J_getI dX0_fact_127 flX0_37 rfl hk ?_
    refine J_if_eq (tgt := 140) dX0_fact_130 (by decide) (fun h12 => ?_) (fun h12 => ?_)
    · skip
      refine J_ldc (-2000000004) dX0_fact_140 jw_460 ?_
      exact J_iret (ty := .int) hR dX0_fact_142 rfl rfl (Nat.le_of_ble_eq_true rfl) (Nat.le_of_ble_eq_true rfl) (jRes_i (by first | rfl | (simp only [fX0_fact, if_neg h1, if_neg h2, if_neg h3, if_neg h4, if_neg h5, if_neg h7, if_neg h9, if_pos h11, if_pos h12]; done) | (simp only [fX0_fact, if_neg h1, if_neg h2, if_neg h3, if_neg h4, if_neg h5, if_neg h7, if_neg h9, if_pos h11, if_pos h12]; rfl)) rfl)
    · skip
      refine J_aload_n dX0_fact_133 rfl rfl ?_
      refine J_getI dX0_fact_134 flX0_49 rfl hk ?_
      refine J_goto (tgt := 142) dX0_fact_137 (by decide) ?_
      exact J_iret (ty := .int) hR dX0_fact_142 rfl rfl (Nat.le_of_ble_eq_true rfl) (Nat.le_of_ble_eq_true rfl) (jRes_i (by first | rfl | (simp only [fX0_fact, if_neg h1, if_neg h2, if_neg h3, if_neg h4, if_neg h5, if_neg h7, if_neg h9, if_pos h11, if_neg h12]; done) | (simp only [fX0_fact, if_neg h1, if_neg h2, if_neg h3, if_neg h4, if_neg h5, if_neg h7, if_neg h9, if_pos h11, if_neg h12]; rfl)) rfl)
  by_cases h13 : x = 8
  · skip
    refine J_tabIn (off := 142) (tgt := 143) dX0_fact_1 (by rw [h13]; decide) (by rw [h13]; decide) (by rw [h13]; rfl) (by decide) ?_
    refine J_aload_n dX0_fact_143 rfl rfl ?_
    refine J_getI dX0_fact_144 flX0_37 rfl hk ?_
    refine J_if_eq (tgt := 157) dX0_fact_147 (by decide) (fun h14 => ?_) (fun h14 => ?_)
    · skip
      refine J_ldc (-2000000004) dX0_fact_157 jw_460 ?_
      exact J_iret (ty := .int) hR dX0_fact_159 rfl rfl (Nat.le_of_ble_eq_true rfl) (Nat.le_of_ble_eq_true rfl) (jRes_i (by first | rfl | (simp only [fX0_fact, if_neg h1, if_neg h2, if_neg h3, if_neg h4, if_neg h5, if_neg h7, if_neg h9, if_neg h11, if_pos h13, if_pos h14]; done) | (simp only [fX0_fact, if_neg h1, if_neg h2, if_neg h3, if_neg h4, if_neg h5, if_neg h7, if_neg h9, if_neg h11, if_pos h13, if_pos h14]; rfl)) rfl)
    · skip
      refine J_aload_n dX0_fact_150 rfl rfl ?_
      refine J_getI dX0_fact_151 flX0_52 rfl hk ?_
      refine J_goto (tgt := 159) dX0_fact_154 (by decide) ?_
      exact J_iret (ty := .int) hR dX0_fact_159 rfl rfl (Nat.le_of_ble_eq_true rfl) (Nat.le_of_ble_eq_true rfl) (jRes_i (by first | rfl | (simp only [fX0_fact, if_neg h1, if_neg h2, if_neg h3, if_neg h4, if_neg h5, if_neg h7, if_neg h9, if_neg h11, if_pos h13, if_neg h14]; done) | (simp only [fX0_fact, if_neg h1, if_neg h2, if_neg h3, if_neg h4, if_neg h5, if_neg h7, if_neg h9, if_neg h11, if_pos h13, if_neg h14]; rfl)) rfl)
  by_cases h15 : x = 9
  · skip
    refine J_tabIn (off := 159) (tgt := 160) dX0_fact_1 (by rw [h15]; decide) (by rw [h15]; decide) (by rw [h15]; rfl) (by decide) ?_
    refine J_aload_n dX0_fact_160 rfl rfl ?_
    refine J_cV0r (mc := mX0_strength) hk (by decide) rfl dX0_fact_161 mlX0_76 okX0_strength (kX0_strength S I o hk) (Nat.le_of_ble_eq_true rfl) (Nat.le_of_ble_eq_true rfl) (Nat.le_of_ble_eq_true rfl) (Nat.le_of_ble_eq_true rfl) ?_
    exact J_iret (ty := .int) hR dX0_fact_164 rfl rfl (Nat.le_of_ble_eq_true rfl) (Nat.le_of_ble_eq_true rfl) (jRes_i (by first | rfl | (simp only [fX0_fact, if_neg h1, if_neg h2, if_neg h3, if_neg h4, if_neg h5, if_neg h7, if_neg h9, if_neg h11, if_neg h13, if_pos h15]; done) | (simp only [fX0_fact, if_neg h1, if_neg h2, if_neg h3, if_neg h4, if_neg h5, if_neg h7, if_neg h9, if_neg h11, if_neg h13, if_pos h15]; rfl)) rfl)
  refine J_tabOut (tgt := 165) dX0_fact_1 (by have e0 := lv_neT h1 (a := 0) rfl; have e1 := lv_neT h2 (a := 1) rfl; have e2 := lv_neT h3 (a := 2) rfl; have e3 := lv_neT h4 (a := 3) rfl; have e4 := lv_neT h5 (a := 4) rfl; have e5 := lv_neT h7 (a := 5) rfl; have e6 := lv_neT h9 (a := 6) rfl; have e7 := lv_neT h11 (a := 7) rfl; have e8 := lv_neT h13 (a := 8) rfl; have e9 := lv_neT h15 (a := 9) rfl; omega) (by decide) ?_
  refine J_ldc (-2000000001) dX0_fact_165 jw_462 ?_
  exact J_iret (ty := .int) hR dX0_fact_167 rfl rfl (Nat.le_of_ble_eq_true rfl) (Nat.le_of_ble_eq_true rfl) (jRes_i (by first | rfl | (simp only [fX0_fact, if_neg h1, if_neg h2, if_neg h3, if_neg h4, if_neg h5, if_neg h7, if_neg h9, if_neg h11, if_neg h13, if_neg h15]; done) | (simp only [fX0_fact, if_neg h1, if_neg h2, if_neg h3, if_neg h4, if_neg h5, if_neg h7, if_neg h9, if_neg h11, if_neg h13, if_neg h15]; rfl)) rfl)
def fX0_factOfPaper (I : jI) (o : Nat) (x : Int32) : Int32 :=
  if x < 0 then
    (-2000000001)
  else
    if x ≤ 2 then
      if (I o 7) = 0 then
        (-2000000004)
      else
        if x = 0 then
          (I o 8)
        else
          if x = 1 then
            (I o 9)
          else
            (I o 10)
    else
      (-2000000001)
set_option maxRecDepth 100000 in
set_option maxHeartbeats 4000000 in
theorem kX0_factOfPaper (S : jX) (I : jI) (o : Nat) (x : Int32) (hk : jKd S o 0 0) : jM (0, 0, 0) mX0_factOfPaper [.ref o, .int x] S I (jRes (some (.int (fX0_factOfPaper I o x))) S I) := by
  refine jM.of (ls := [.ref o, .int x]) (by decide) (Nat.le_of_ble_eq_true rfl) (by intro v hv; simp only [List.mem_cons, List.not_mem_nil, or_false] at hv; rcases hv with rfl | rfl <;> rfl) rfl (fun G hR => ?_)
  refine J_iload_n dX0_factOfPaper_0 rfl ?_
  refine J_if_lt (tgt := 9) dX0_factOfPaper_1 (by decide) (fun h1 => ?_) (fun h1 => ?_)
  · skip
    refine J_ldc (-2000000001) dX0_factOfPaper_9 jw_462 ?_
    exact J_iret (ty := .int) hR dX0_factOfPaper_11 rfl rfl (Nat.le_of_ble_eq_true rfl) (Nat.le_of_ble_eq_true rfl) (jRes_i (by first | rfl | (simp only [fX0_factOfPaper, if_pos h1]; done) | (simp only [fX0_factOfPaper, if_pos h1]; rfl)) rfl)
  · skip
    refine J_iload_n dX0_factOfPaper_4 rfl ?_
    refine J_iconst (2) dX0_factOfPaper_5 rfl ?_
    refine J_icmp_le (tgt := 12) dX0_factOfPaper_6 (by decide) (fun h2 => ?_) (fun h2 => ?_)
    · skip
      refine J_aload_n dX0_factOfPaper_12 rfl rfl ?_
      refine J_getI dX0_factOfPaper_13 flX0_34 rfl hk ?_
      refine J_if_ne (tgt := 22) dX0_factOfPaper_16 (by decide) (fun h3 => ?_) (fun h3 => ?_)
      · skip
        refine J_iload_n dX0_factOfPaper_22 rfl ?_
        refine J_if_ne (tgt := 31) dX0_factOfPaper_23 (by decide) (fun h4 => ?_) (fun h4 => ?_)
        · skip
          refine J_iload_n dX0_factOfPaper_31 rfl ?_
          refine J_iconst (1) dX0_factOfPaper_32 rfl ?_
          refine J_icmp_ne (tgt := 43) dX0_factOfPaper_33 (by decide) (fun h5 => ?_) (fun h5 => ?_)
          · skip
            refine J_aload_n dX0_factOfPaper_43 rfl rfl ?_
            refine J_getI dX0_factOfPaper_44 flX0_46 rfl hk ?_
            exact J_iret (ty := .int) hR dX0_factOfPaper_47 rfl rfl (Nat.le_of_ble_eq_true rfl) (Nat.le_of_ble_eq_true rfl) (jRes_i (by first | rfl | (simp only [fX0_factOfPaper, if_neg h1, if_pos h2, if_neg h3, if_neg h4, if_neg h5]; done) | (simp only [fX0_factOfPaper, if_neg h1, if_pos h2, if_neg h3, if_neg h4, if_neg h5]; rfl)) rfl)
          · skip
            refine J_aload_n dX0_factOfPaper_36 rfl rfl ?_
            refine J_getI dX0_factOfPaper_37 flX0_43 rfl hk ?_
            refine J_goto (tgt := 47) dX0_factOfPaper_40 (by decide) ?_
            exact J_iret (ty := .int) hR dX0_factOfPaper_47 rfl rfl (Nat.le_of_ble_eq_true rfl) (Nat.le_of_ble_eq_true rfl) (jRes_i (by first | rfl | (simp only [fX0_factOfPaper, if_neg h1, if_pos h2, if_neg h3, if_neg h4, if_pos h5]; done) | (simp only [fX0_factOfPaper, if_neg h1, if_pos h2, if_neg h3, if_neg h4, if_pos h5]; rfl)) rfl)
        · skip
          refine J_aload_n dX0_factOfPaper_26 rfl rfl ?_
          refine J_getI dX0_factOfPaper_27 flX0_40 rfl hk ?_
          exact J_iret (ty := .int) hR dX0_factOfPaper_30 rfl rfl (Nat.le_of_ble_eq_true rfl) (Nat.le_of_ble_eq_true rfl) (jRes_i (by first | rfl | (simp only [fX0_factOfPaper, if_neg h1, if_pos h2, if_neg h3, if_pos h4]; done) | (simp only [fX0_factOfPaper, if_neg h1, if_pos h2, if_neg h3, if_pos h4]; rfl)) rfl)
      · skip
        refine J_ldc (-2000000004) dX0_factOfPaper_19 jw_460 ?_
        exact J_iret (ty := .int) hR dX0_factOfPaper_21 rfl rfl (Nat.le_of_ble_eq_true rfl) (Nat.le_of_ble_eq_true rfl) (jRes_i (by first | rfl | (simp only [fX0_factOfPaper, if_neg h1, if_pos h2, if_pos h3]; done) | (simp only [fX0_factOfPaper, if_neg h1, if_pos h2, if_pos h3]; rfl)) rfl)
    · skip
      refine J_ldc (-2000000001) dX0_factOfPaper_9 jw_462 ?_
      exact J_iret (ty := .int) hR dX0_factOfPaper_11 rfl rfl (Nat.le_of_ble_eq_true rfl) (Nat.le_of_ble_eq_true rfl) (jRes_i (by first | rfl | (simp only [fX0_factOfPaper, if_neg h1, if_neg h2]; done) | (simp only [fX0_factOfPaper, if_neg h1, if_neg h2]; rfl)) rfl)
def fX3_begin (I : jI) (o : Nat) (x : Int32) (y : Int32) : jI :=
  (jset (jset (jset (jset (jset I o 0 x) o 1 y) o 2 0) o 3 0) o 4 0)
set_option maxRecDepth 100000 in
set_option maxHeartbeats 4000000 in
theorem kX3_begin (S : jX) (I : jI) (o : Nat) (x : Int32) (y : Int32) (hk : jKd S o 3 0) : jM (0, 0, 0) mX3_begin [.ref o, .int x, .int y] S I (jRes none S (fX3_begin I o x y)) := by
  refine jM.of (ls := [.ref o, .int x, .int y]) (by decide) (Nat.le_of_ble_eq_true rfl) (by intro v hv; simp only [List.mem_cons, List.not_mem_nil, or_false] at hv; rcases hv with rfl | rfl | rfl <;> rfl) rfl (fun G hR => ?_)
  refine J_aload_n dX3_begin_0 rfl rfl ?_
  refine J_iload_n dX3_begin_1 rfl ?_
  refine J_putI dX3_begin_2 flX3_9 rfl rfl rfl rfl hk ?_
  refine J_aload_n dX3_begin_5 rfl rfl ?_
  refine J_iload_n dX3_begin_6 rfl ?_
  refine J_putI dX3_begin_7 flX3_15 rfl rfl rfl rfl hk ?_
  refine J_aload_n dX3_begin_10 rfl rfl ?_
  refine J_iconst (0) dX3_begin_11 rfl ?_
  refine J_putI dX3_begin_12 flX3_18 rfl rfl rfl rfl hk ?_
  refine J_aload_n dX3_begin_15 rfl rfl ?_
  refine J_iconst (0) dX3_begin_16 rfl ?_
  refine J_putI dX3_begin_17 flX3_21 rfl rfl rfl rfl hk ?_
  refine J_aload_n dX3_begin_20 rfl rfl ?_
  refine J_iconst (0) dX3_begin_21 rfl ?_
  refine J_putI dX3_begin_22 flX3_24 rfl rfl rfl rfl hk ?_
  exact J_vret hR dX3_begin_25 rfl (Nat.le_of_ble_eq_true rfl) (Nat.le_of_ble_eq_true rfl) (jRes_v (by first | rfl | (simp only [fX3_begin]; done) | (simp only [fX3_begin]; rfl)))
def fX3_noteInspection (I : jI) (o : Nat) (x : Int32) : jI :=
  if x = 0 then
    (jset (jset I o 2 ((I o 2) + 1)) o 3 (((jset I o 2 ((I o 2) + 1)) o 3) + 1))
  else
    (jset (jset (jset I o 2 ((I o 2) + 1)) o 3 (((jset I o 2 ((I o 2) + 1)) o 3) + 1)) o 4 (((jset (jset I o 2 ((I o 2) + 1)) o 3 (((jset I o 2 ((I o 2) + 1)) o 3) + 1)) o 4) + 1))
set_option maxRecDepth 100000 in
set_option maxHeartbeats 4000000 in
theorem kX3_noteInspection (S : jX) (I : jI) (o : Nat) (x : Int32) (hk : jKd S o 3 0) : jM (0, 0, 0) mX3_noteInspection [.ref o, .int x] S I (jRes none S (fX3_noteInspection I o x)) := by
  refine jM.of (ls := [.ref o, .int x]) (by decide) (Nat.le_of_ble_eq_true rfl) (by intro v hv; simp only [List.mem_cons, List.not_mem_nil, or_false] at hv; rcases hv with rfl | rfl <;> rfl) rfl (fun G hR => ?_)
  refine J_aload_n dX3_noteInspection_0 rfl rfl ?_
  refine J_dup dX3_noteInspection_1 rfl ?_
  refine J_getI dX3_noteInspection_2 flX3_18 rfl hk ?_
  refine J_iconst (1) dX3_noteInspection_5 rfl ?_
  refine J_iadd dX3_noteInspection_6 ?_
  refine J_putI dX3_noteInspection_7 flX3_18 rfl rfl rfl rfl hk ?_
  refine J_aload_n dX3_noteInspection_10 rfl rfl ?_
  refine J_dup dX3_noteInspection_11 rfl ?_
  refine J_getI dX3_noteInspection_12 flX3_21 rfl hk ?_
  refine J_iconst (1) dX3_noteInspection_15 rfl ?_
  refine J_iadd dX3_noteInspection_16 ?_
  refine J_putI dX3_noteInspection_17 flX3_21 rfl rfl rfl rfl hk ?_
  refine J_iload_n dX3_noteInspection_20 rfl ?_
  refine J_if_eq (tgt := 34) dX3_noteInspection_21 (by decide) (fun h1 => ?_) (fun h1 => ?_)
  · skip
    exact J_vret hR dX3_noteInspection_34 rfl (Nat.le_of_ble_eq_true rfl) (Nat.le_of_ble_eq_true rfl) (jRes_v (by first | rfl | (simp only [fX3_noteInspection, if_pos h1]; done) | (simp only [fX3_noteInspection, if_pos h1]; rfl)))
  · skip
    refine J_aload_n dX3_noteInspection_24 rfl rfl ?_
    refine J_dup dX3_noteInspection_25 rfl ?_
    refine J_getI dX3_noteInspection_26 flX3_24 rfl hk ?_
    refine J_iconst (1) dX3_noteInspection_29 rfl ?_
    refine J_iadd dX3_noteInspection_30 ?_
    refine J_putI dX3_noteInspection_31 flX3_24 rfl rfl rfl rfl hk ?_
    exact J_vret hR dX3_noteInspection_34 rfl (Nat.le_of_ble_eq_true rfl) (Nat.le_of_ble_eq_true rfl) (jRes_v (by first | rfl | (simp only [fX3_noteInspection, if_neg h1]; done) | (simp only [fX3_noteInspection, if_neg h1]; rfl)))
def fX3_beginWeek (I : jI) (o : Nat) : jI :=
  (jset I o 2 0)
set_option maxRecDepth 100000 in
set_option maxHeartbeats 4000000 in
theorem kX3_beginWeek (S : jX) (I : jI) (o : Nat) (hk : jKd S o 3 0) : jM (0, 0, 0) mX3_beginWeek [.ref o] S I (jRes none S (fX3_beginWeek I o)) := by
  refine jM.of (ls := [.ref o]) (by decide) (Nat.le_of_ble_eq_true rfl) (by intro v hv; simp only [List.mem_cons, List.not_mem_nil, or_false] at hv; rcases hv with rfl <;> rfl) rfl (fun G hR => ?_)
  refine J_aload_n dX3_beginWeek_0 rfl rfl ?_
  refine J_iconst (0) dX3_beginWeek_1 rfl ?_
  refine J_putI dX3_beginWeek_2 flX3_18 rfl rfl rfl rfl hk ?_
  exact J_vret hR dX3_beginWeek_5 rfl (Nat.le_of_ble_eq_true rfl) (Nat.le_of_ble_eq_true rfl) (jRes_v (by first | rfl | (simp only [fX3_beginWeek]; done) | (simp only [fX3_beginWeek]; rfl)))
def fX3_fact (I : jI) (o : Nat) (x : Int32) : Int32 :=
  if x = 0 then
    (I o 0)
  else
    if x = 1 then
      (I o 1)
    else
      if x = 2 then
        (fX3_left I o)
      else
        if x = 3 then
          (I o 3)
        else
          if x = 4 then
            (I o 4)
          else
            (-2000000001)
set_option maxRecDepth 100000 in
set_option maxHeartbeats 4000000 in
theorem kX3_fact (S : jX) (I : jI) (o : Nat) (x : Int32) (hk : jKd S o 3 0) : jM (1, 0, 0) mX3_fact [.ref o, .int x] S I (jRes (some (.int (fX3_fact I o x))) S I) := by
  refine jM.of (ls := [.ref o, .int x]) (by decide) (Nat.le_of_ble_eq_true rfl) (by intro v hv; simp only [List.mem_cons, List.not_mem_nil, or_false] at hv; rcases hv with rfl | rfl <;> rfl) rfl (fun G hR => ?_)
  refine J_iload_n dX3_fact_0 rfl ?_
  by_cases h1 : x = 0
  · skip
    refine J_tabIn (off := 35) (tgt := 36) dX3_fact_1 (by rw [h1]; decide) (by rw [h1]; decide) (by rw [h1]; rfl) (by decide) ?_
    refine J_aload_n dX3_fact_36 rfl rfl ?_
    refine J_getI dX3_fact_37 flX3_9 rfl hk ?_
    exact J_iret (ty := .int) hR dX3_fact_40 rfl rfl (Nat.le_of_ble_eq_true rfl) (Nat.le_of_ble_eq_true rfl) (jRes_i (by first | rfl | (simp only [fX3_fact, if_pos h1]; done) | (simp only [fX3_fact, if_pos h1]; rfl)) rfl)
  by_cases h2 : x = 1
  · skip
    refine J_tabIn (off := 40) (tgt := 41) dX3_fact_1 (by rw [h2]; decide) (by rw [h2]; decide) (by rw [h2]; rfl) (by decide) ?_
    refine J_aload_n dX3_fact_41 rfl rfl ?_
    refine J_getI dX3_fact_42 flX3_15 rfl hk ?_
    exact J_iret (ty := .int) hR dX3_fact_45 rfl rfl (Nat.le_of_ble_eq_true rfl) (Nat.le_of_ble_eq_true rfl) (jRes_i (by first | rfl | (simp only [fX3_fact, if_neg h1, if_pos h2]; done) | (simp only [fX3_fact, if_neg h1, if_pos h2]; rfl)) rfl)
  by_cases h3 : x = 2
  · skip
    refine J_tabIn (off := 45) (tgt := 46) dX3_fact_1 (by rw [h3]; decide) (by rw [h3]; decide) (by rw [h3]; rfl) (by decide) ?_
    refine J_aload_n dX3_fact_46 rfl rfl ?_
    refine J_cV0r (mc := mX3_left) hk (by decide) rfl dX3_fact_47 mlX3_27 okX3_left (kX3_left S I o hk) (Nat.le_of_ble_eq_true rfl) (Nat.le_of_ble_eq_true rfl) (Nat.le_of_ble_eq_true rfl) (Nat.le_of_ble_eq_true rfl) ?_
    exact J_iret (ty := .int) hR dX3_fact_50 rfl rfl (Nat.le_of_ble_eq_true rfl) (Nat.le_of_ble_eq_true rfl) (jRes_i (by first | rfl | (simp only [fX3_fact, if_neg h1, if_neg h2, if_pos h3]; done) | (simp only [fX3_fact, if_neg h1, if_neg h2, if_pos h3]; rfl)) rfl)
  by_cases h4 : x = 3
  · skip
    refine J_tabIn (off := 50) (tgt := 51) dX3_fact_1 (by rw [h4]; decide) (by rw [h4]; decide) (by rw [h4]; rfl) (by decide) ?_
    refine J_aload_n dX3_fact_51 rfl rfl ?_
    refine J_getI dX3_fact_52 flX3_21 rfl hk ?_
    exact J_iret (ty := .int) hR dX3_fact_55 rfl rfl (Nat.le_of_ble_eq_true rfl) (Nat.le_of_ble_eq_true rfl) (jRes_i (by first | rfl | (simp only [fX3_fact, if_neg h1, if_neg h2, if_neg h3, if_pos h4]; done) | (simp only [fX3_fact, if_neg h1, if_neg h2, if_neg h3, if_pos h4]; rfl)) rfl)
  by_cases h5 : x = 4
  · skip
    refine J_tabIn (off := 55) (tgt := 56) dX3_fact_1 (by rw [h5]; decide) (by rw [h5]; decide) (by rw [h5]; rfl) (by decide) ?_
    refine J_aload_n dX3_fact_56 rfl rfl ?_
    refine J_getI dX3_fact_57 flX3_24 rfl hk ?_
    exact J_iret (ty := .int) hR dX3_fact_60 rfl rfl (Nat.le_of_ble_eq_true rfl) (Nat.le_of_ble_eq_true rfl) (jRes_i (by first | rfl | (simp only [fX3_fact, if_neg h1, if_neg h2, if_neg h3, if_neg h4, if_pos h5]; done) | (simp only [fX3_fact, if_neg h1, if_neg h2, if_neg h3, if_neg h4, if_pos h5]; rfl)) rfl)
  refine J_tabOut (tgt := 61) dX3_fact_1 (by have e0 := lv_neT h1 (a := 0) rfl; have e1 := lv_neT h2 (a := 1) rfl; have e2 := lv_neT h3 (a := 2) rfl; have e3 := lv_neT h4 (a := 3) rfl; have e4 := lv_neT h5 (a := 4) rfl; omega) (by decide) ?_
  refine J_ldc (-2000000001) dX3_fact_61 jw_488 ?_
  exact J_iret (ty := .int) hR dX3_fact_63 rfl rfl (Nat.le_of_ble_eq_true rfl) (Nat.le_of_ble_eq_true rfl) (jRes_i (by first | rfl | (simp only [fX3_fact, if_neg h1, if_neg h2, if_neg h3, if_neg h4, if_neg h5]; done) | (simp only [fX3_fact, if_neg h1, if_neg h2, if_neg h3, if_neg h4, if_neg h5]; rfl)) rfl)
end
section
/-- a house: its rows, its boilers and inspectors, cell by cell -/
def jHouse (S : jX) (o : Nat) : Prop := jKd S o 2 0 ∧ (S.2.2 o 0 = some (o + 1) ∧ S.2.2 o 1 = some (o + 2) ∧ S.2.2 o 2 = some (o + 3) ∧ S.2.2 o 3 = some (o + 4)) ∧ (jKd S (o + 1) 10 8 ∧ jKd S (o + 2) 11 6 ∧ jKd S (o + 3) 8 4 ∧ jKd S (o + 4) 8 4) ∧ (∀ i, i < 8 → jKd S (o + 5 + i) 0 0 ∧ S.2.2 (o + 1) i = some (o + 5 + i)) ∧ (∀ i, i < 6 → jKd S (o + 13 + i) 3 0 ∧ S.2.2 (o + 2) i = some (o + 13 + i))
theorem jHouse.r0 {S : jX} {o : Nat} (h : jHouse S o) : S.2.2 o 0 = some (o + 1) := h.2.1.1
theorem jHouse.r1 {S : jX} {o : Nat} (h : jHouse S o) : S.2.2 o 1 = some (o + 2) := h.2.1.2.1
theorem jHouse.r2 {S : jX} {o : Nat} (h : jHouse S o) : S.2.2 o 2 = some (o + 3) := h.2.1.2.2.1
theorem jHouse.r3 {S : jX} {o : Nat} (h : jHouse S o) : S.2.2 o 3 = some (o + 4) := h.2.1.2.2.2
theorem jHouse.a0 {S : jX} {o : Nat} (h : jHouse S o) : jKd S (o + 1) 10 8 := h.2.2.1.1
theorem jHouse.a1 {S : jX} {o : Nat} (h : jHouse S o) : jKd S (o + 2) 11 6 := h.2.2.1.2.1
theorem jHouse.a2 {S : jX} {o : Nat} (h : jHouse S o) : jKd S (o + 3) 8 4 := h.2.2.1.2.2.1
theorem jHouse.a3 {S : jX} {o : Nat} (h : jHouse S o) : jKd S (o + 4) 8 4 := h.2.2.1.2.2.2
theorem jHouse.b {S : jX} {o i : Nat} (h : jHouse S o) (hi : i < 8) : jKd S (o + 5 + i) 0 0 ∧ S.2.2 (o + 1) i = some (o + 5 + i) := h.2.2.2.1 i hi
theorem jHouse.c {S : jX} {o i : Nat} (h : jHouse S o) (hi : i < 6) : jKd S (o + 13 + i) 3 0 ∧ S.2.2 (o + 2) i = some (o + 13 + i) := h.2.2.2.2 i hi
theorem jtn {x : Int32} {N : Nat} (h : vp_in x N) : x.toNatClampNeg < N := Nat.not_le.mp fun q => h (Or.inr q)
theorem jBn {x : Int32} (h : x = 0 ∨ x = 1) : narrow .boolean (.int x) = .int x := by rcases h with rfl | rfl <;> rfl
theorem jvp_4 {x : Int32} (h1 : ¬ x < 0) (h2 : ¬ (4 : Int32) ≤ x) : vp_in x 4 := jvp h1 (Int32.not_le.mp h2) (by decide)
theorem jvp_8 {x : Int32} (h1 : ¬ x < 0) (h2 : ¬ (8 : Int32) ≤ x) : vp_in x 8 := jvp h1 (Int32.not_le.mp h2) (by decide)
theorem jvp_6 {x : Int32} (h1 : ¬ x < 0) (h2 : ¬ (6 : Int32) ≤ x) : vp_in x 6 := jvp h1 (Int32.not_le.mp h2) (by decide)
theorem jvp_60 {x : Int32} (h1 : ¬ x < 0) (h2 : ¬ (60 : Int32) ≤ x) : vp_in x 60 := jvp h1 (Int32.not_le.mp h2) (by decide)
end
section
def fX2_boilerAt (I : jI) (o : Nat) (x : Int32) : Option Nat :=
  if x < 0 then
    none
  else
    if (I o 4) ≤ x then
      none
    else
      if 8 ≤ x then
        none
      else
        some (o + 5 + x.toNatClampNeg)
set_option maxRecDepth 100000 in
set_option maxHeartbeats 4000000 in
theorem kX2_boilerAt (S : jX) (I : jI) (o : Nat) (x : Int32) (hH : jHouse S o) : jM (0, 0, 0) mX2_boilerAt [.ref o, .int x] S I (jRes (some (va_rf (fX2_boilerAt I o x))) S I) := by
  refine jM.of (ls := [.ref o, .int x, .long 0]) (by decide) (Nat.le_of_ble_eq_true rfl) (by intro v hv; simp only [List.mem_cons, List.not_mem_nil, or_false] at hv; rcases hv with rfl | rfl <;> rfl) rfl (fun G hR => ?_)
  refine J_iload_n dX2_boilerAt_0 rfl ?_
  refine J_if_lt (tgt := 25) dX2_boilerAt_1 (by decide) (fun h1 => ?_) (fun h1 => ?_)
  · skip
    refine J_iconst (0) dX2_boilerAt_25 rfl ?_
    refine J_istore_n dX2_boilerAt_26 (Nat.le_of_ble_eq_true rfl) ?_
    refine J_iload_n dX2_boilerAt_27 rfl ?_
    refine J_if_eq (tgt := 40) dX2_boilerAt_28 (by decide) (fun h2 => ?_) (fun h2 => ?_)
    · skip
      refine J_null dX2_boilerAt_40 ?_
      exact J_aret (C := "BoilerPapers$Boiler") hR dX2_boilerAt_41 rfl rfl (Nat.le_of_ble_eq_true rfl) (Nat.le_of_ble_eq_true rfl) (jRes_o (by first | rfl | (simp only [fX2_boilerAt, if_pos h1]; done) | (simp only [fX2_boilerAt, if_pos h1]; rfl)) rfl)
    · skip
      exact absurd h2 (by decide)
  · skip
    refine J_iload_n dX2_boilerAt_4 rfl ?_
    refine J_aload_n dX2_boilerAt_5 rfl rfl ?_
    refine J_getI dX2_boilerAt_6 flX2_32 rfl hH.1 ?_
    refine J_icmp_ge (tgt := 25) dX2_boilerAt_9 (by decide) (fun h3 => ?_) (fun h3 => ?_)
    · skip
      refine J_iconst (0) dX2_boilerAt_25 rfl ?_
      refine J_istore_n dX2_boilerAt_26 (Nat.le_of_ble_eq_true rfl) ?_
      refine J_iload_n dX2_boilerAt_27 rfl ?_
      refine J_if_eq (tgt := 40) dX2_boilerAt_28 (by decide) (fun h4 => ?_) (fun h4 => ?_)
      · skip
        refine J_null dX2_boilerAt_40 ?_
        exact J_aret (C := "BoilerPapers$Boiler") hR dX2_boilerAt_41 rfl rfl (Nat.le_of_ble_eq_true rfl) (Nat.le_of_ble_eq_true rfl) (jRes_o (by first | rfl | (simp only [fX2_boilerAt, if_neg h1, if_pos h3]; done) | (simp only [fX2_boilerAt, if_neg h1, if_pos h3]; rfl)) rfl)
      · skip
        exact absurd h4 (by decide)
    · skip
      refine J_iload_n dX2_boilerAt_12 rfl ?_
      refine J_aload_n dX2_boilerAt_13 rfl rfl ?_
      refine J_getR dX2_boilerAt_14 flX2_11 rfl hH.1 hH.r0 ?_
      refine J_alen (x := 8) dX2_boilerAt_17 hH.a0 ⟨by decide, by decide⟩ rfl ?_
      refine J_icmp_ge (tgt := 25) dX2_boilerAt_18 (by decide) (fun h5 => ?_) (fun h5 => ?_)
      · skip
        refine J_iconst (0) dX2_boilerAt_25 rfl ?_
        refine J_istore_n dX2_boilerAt_26 (Nat.le_of_ble_eq_true rfl) ?_
        refine J_iload_n dX2_boilerAt_27 rfl ?_
        refine J_if_eq (tgt := 40) dX2_boilerAt_28 (by decide) (fun h6 => ?_) (fun h6 => ?_)
        · skip
          refine J_null dX2_boilerAt_40 ?_
          exact J_aret (C := "BoilerPapers$Boiler") hR dX2_boilerAt_41 rfl rfl (Nat.le_of_ble_eq_true rfl) (Nat.le_of_ble_eq_true rfl) (jRes_o (by first | rfl | (simp only [fX2_boilerAt, if_neg h1, if_neg h3, if_pos h5]; done) | (simp only [fX2_boilerAt, if_neg h1, if_neg h3, if_pos h5]; rfl)) rfl)
        · skip
          exact absurd h6 (by decide)
      · skip
        refine J_iconst (1) dX2_boilerAt_21 rfl ?_
        refine J_goto (tgt := 26) dX2_boilerAt_22 (by decide) ?_
        refine J_istore_n dX2_boilerAt_26 (Nat.le_of_ble_eq_true rfl) ?_
        refine J_iload_n dX2_boilerAt_27 rfl ?_
        refine J_if_eq (tgt := 40) dX2_boilerAt_28 (by decide) (fun h7 => ?_) (fun h7 => ?_)
        · skip
          exact absurd h7 (by decide)
        · skip
          refine J_aload_n dX2_boilerAt_31 rfl rfl ?_
          refine J_getR dX2_boilerAt_32 flX2_11 rfl hH.1 hH.r0 ?_
          refine J_iload_n dX2_boilerAt_35 rfl ?_
          refine J_aaload dX2_boilerAt_36 hH.a0 ⟨by decide, by decide⟩ (jvp_8 (by assumption) (by assumption)) (hH.b (jtn (jvp_8 (by assumption) (by assumption)))).2 ?_
          refine J_goto (tgt := 41) dX2_boilerAt_37 (by decide) ?_
          exact J_aret (C := "BoilerPapers$Boiler") hR dX2_boilerAt_41 rfl rfl (Nat.le_of_ble_eq_true rfl) (Nat.le_of_ble_eq_true rfl) (jRes_o (by first | rfl | (simp only [fX2_boilerAt, if_neg h1, if_neg h3, if_neg h5]; done) | (simp only [fX2_boilerAt, if_neg h1, if_neg h3, if_neg h5]; rfl)) rfl)
theorem kdBoilerAt {S : jX} {I : jI} {o b : Nat} {x : Int32} (hH : jHouse S o) (h : fX2_boilerAt I o x = some b) : jKd S b 0 0 := by
  unfold fX2_boilerAt at h
  by_cases h1 : x < 0
  · rw [if_pos h1] at h; cases h
  · rw [if_neg h1] at h
    by_cases h2 : I o 4 ≤ x
    · rw [if_pos h2] at h; cases h
    · rw [if_neg h2] at h
      by_cases h3 : (8 : Int32) ≤ x
      · rw [if_pos h3] at h; cases h
      · rw [if_neg h3] at h
        cases h
        exact (hH.b (jtn (jvp_8 h1 h3))).1
def fX2_inspectorAt (I : jI) (o : Nat) (x : Int32) : Option Nat :=
  if x < 0 then
    none
  else
    if (I o 5) ≤ x then
      none
    else
      if 6 ≤ x then
        none
      else
        some (o + 13 + x.toNatClampNeg)
set_option maxRecDepth 100000 in
set_option maxHeartbeats 4000000 in
theorem kX2_inspectorAt (S : jX) (I : jI) (o : Nat) (x : Int32) (hH : jHouse S o) : jM (0, 0, 0) mX2_inspectorAt [.ref o, .int x] S I (jRes (some (va_rf (fX2_inspectorAt I o x))) S I) := by
  refine jM.of (ls := [.ref o, .int x, .long 0]) (by decide) (Nat.le_of_ble_eq_true rfl) (by intro v hv; simp only [List.mem_cons, List.not_mem_nil, or_false] at hv; rcases hv with rfl | rfl <;> rfl) rfl (fun G hR => ?_)
  refine J_iload_n dX2_inspectorAt_0 rfl ?_
  refine J_if_lt (tgt := 25) dX2_inspectorAt_1 (by decide) (fun h1 => ?_) (fun h1 => ?_)
  · skip
    refine J_iconst (0) dX2_inspectorAt_25 rfl ?_
    refine J_istore_n dX2_inspectorAt_26 (Nat.le_of_ble_eq_true rfl) ?_
    refine J_iload_n dX2_inspectorAt_27 rfl ?_
    refine J_if_eq (tgt := 40) dX2_inspectorAt_28 (by decide) (fun h2 => ?_) (fun h2 => ?_)
    · skip
      refine J_null dX2_inspectorAt_40 ?_
      exact J_aret (C := "BoilerPapers$Inspector") hR dX2_inspectorAt_41 rfl rfl (Nat.le_of_ble_eq_true rfl) (Nat.le_of_ble_eq_true rfl) (jRes_o (by first | rfl | (simp only [fX2_inspectorAt, if_pos h1]; done) | (simp only [fX2_inspectorAt, if_pos h1]; rfl)) rfl)
    · skip
      exact absurd h2 (by decide)
  · skip
    refine J_iload_n dX2_inspectorAt_4 rfl ?_
    refine J_aload_n dX2_inspectorAt_5 rfl rfl ?_
    refine J_getI dX2_inspectorAt_6 flX2_36 rfl hH.1 ?_
    refine J_icmp_ge (tgt := 25) dX2_inspectorAt_9 (by decide) (fun h3 => ?_) (fun h3 => ?_)
    · skip
      refine J_iconst (0) dX2_inspectorAt_25 rfl ?_
      refine J_istore_n dX2_inspectorAt_26 (Nat.le_of_ble_eq_true rfl) ?_
      refine J_iload_n dX2_inspectorAt_27 rfl ?_
      refine J_if_eq (tgt := 40) dX2_inspectorAt_28 (by decide) (fun h4 => ?_) (fun h4 => ?_)
      · skip
        refine J_null dX2_inspectorAt_40 ?_
        exact J_aret (C := "BoilerPapers$Inspector") hR dX2_inspectorAt_41 rfl rfl (Nat.le_of_ble_eq_true rfl) (Nat.le_of_ble_eq_true rfl) (jRes_o (by first | rfl | (simp only [fX2_inspectorAt, if_neg h1, if_pos h3]; done) | (simp only [fX2_inspectorAt, if_neg h1, if_pos h3]; rfl)) rfl)
      · skip
        exact absurd h4 (by decide)
    · skip
      refine J_iload_n dX2_inspectorAt_12 rfl ?_
      refine J_aload_n dX2_inspectorAt_13 rfl rfl ?_
      refine J_getR dX2_inspectorAt_14 flX2_19 rfl hH.1 hH.r1 ?_
      refine J_alen (x := 6) dX2_inspectorAt_17 hH.a1 ⟨by decide, by decide⟩ rfl ?_
      refine J_icmp_ge (tgt := 25) dX2_inspectorAt_18 (by decide) (fun h5 => ?_) (fun h5 => ?_)
      · skip
        refine J_iconst (0) dX2_inspectorAt_25 rfl ?_
        refine J_istore_n dX2_inspectorAt_26 (Nat.le_of_ble_eq_true rfl) ?_
        refine J_iload_n dX2_inspectorAt_27 rfl ?_
        refine J_if_eq (tgt := 40) dX2_inspectorAt_28 (by decide) (fun h6 => ?_) (fun h6 => ?_)
        · skip
          refine J_null dX2_inspectorAt_40 ?_
          exact J_aret (C := "BoilerPapers$Inspector") hR dX2_inspectorAt_41 rfl rfl (Nat.le_of_ble_eq_true rfl) (Nat.le_of_ble_eq_true rfl) (jRes_o (by first | rfl | (simp only [fX2_inspectorAt, if_neg h1, if_neg h3, if_pos h5]; done) | (simp only [fX2_inspectorAt, if_neg h1, if_neg h3, if_pos h5]; rfl)) rfl)
        · skip
          exact absurd h6 (by decide)
      · skip
        refine J_iconst (1) dX2_inspectorAt_21 rfl ?_
        refine J_goto (tgt := 26) dX2_inspectorAt_22 (by decide) ?_
        refine J_istore_n dX2_inspectorAt_26 (Nat.le_of_ble_eq_true rfl) ?_
        refine J_iload_n dX2_inspectorAt_27 rfl ?_
        refine J_if_eq (tgt := 40) dX2_inspectorAt_28 (by decide) (fun h7 => ?_) (fun h7 => ?_)
        · skip
          exact absurd h7 (by decide)
        · skip
          refine J_aload_n dX2_inspectorAt_31 rfl rfl ?_
          refine J_getR dX2_inspectorAt_32 flX2_19 rfl hH.1 hH.r1 ?_
          refine J_iload_n dX2_inspectorAt_35 rfl ?_
          refine J_aaload dX2_inspectorAt_36 hH.a1 ⟨by decide, by decide⟩ (jvp_6 (by assumption) (by assumption)) (hH.c (jtn (jvp_6 (by assumption) (by assumption)))).2 ?_
          refine J_goto (tgt := 41) dX2_inspectorAt_37 (by decide) ?_
          exact J_aret (C := "BoilerPapers$Inspector") hR dX2_inspectorAt_41 rfl rfl (Nat.le_of_ble_eq_true rfl) (Nat.le_of_ble_eq_true rfl) (jRes_o (by first | rfl | (simp only [fX2_inspectorAt, if_neg h1, if_neg h3, if_neg h5]; done) | (simp only [fX2_inspectorAt, if_neg h1, if_neg h3, if_neg h5]; rfl)) rfl)
theorem kdInspectorAt {S : jX} {I : jI} {o b : Nat} {x : Int32} (hH : jHouse S o) (h : fX2_inspectorAt I o x = some b) : jKd S b 3 0 := by
  unfold fX2_inspectorAt at h
  by_cases h1 : x < 0
  · rw [if_pos h1] at h; cases h
  · rw [if_neg h1] at h
    by_cases h2 : I o 5 ≤ x
    · rw [if_pos h2] at h; cases h
    · rw [if_neg h2] at h
      by_cases h3 : (6 : Int32) ≤ x
      · rw [if_pos h3] at h; cases h
      · rw [if_neg h3] at h
        cases h
        exact (hH.c (jtn (jvp_6 h1 h3))).1
def fX2_settingAt (I : jI) (o : Nat) (x : Int32) : Int32 :=
  if x < 0 then
    (-2000000001)
  else
    if 4 ≤ x then
      (-2000000001)
    else
      (I (o + 3) (x).toNatClampNeg)
set_option maxRecDepth 100000 in
set_option maxHeartbeats 4000000 in
theorem kX2_settingAt (S : jX) (I : jI) (o : Nat) (x : Int32) (hH : jHouse S o) : jM (0, 0, 0) mX2_settingAt [.ref o, .int x] S I (jRes (some (.int (fX2_settingAt I o x))) S I) := by
  refine jM.of (ls := [.ref o, .int x, .long 0]) (by decide) (Nat.le_of_ble_eq_true rfl) (by intro v hv; simp only [List.mem_cons, List.not_mem_nil, or_false] at hv; rcases hv with rfl | rfl <;> rfl) rfl (fun G hR => ?_)
  refine J_iload_n dX2_settingAt_0 rfl ?_
  refine J_if_lt (tgt := 17) dX2_settingAt_1 (by decide) (fun h1 => ?_) (fun h1 => ?_)
  · skip
    refine J_iconst (0) dX2_settingAt_17 rfl ?_
    refine J_istore_n dX2_settingAt_18 (Nat.le_of_ble_eq_true rfl) ?_
    refine J_iload_n dX2_settingAt_19 rfl ?_
    refine J_if_eq (tgt := 32) dX2_settingAt_20 (by decide) (fun h2 => ?_) (fun h2 => ?_)
    · skip
      refine J_ldc (-2000000001) dX2_settingAt_32 jw_262 ?_
      exact J_iret (ty := .int) hR dX2_settingAt_34 rfl rfl (Nat.le_of_ble_eq_true rfl) (Nat.le_of_ble_eq_true rfl) (jRes_i (by first | rfl | (simp only [fX2_settingAt, if_pos h1]; done) | (simp only [fX2_settingAt, if_pos h1]; rfl)) rfl)
    · skip
      exact absurd h2 (by decide)
  · skip
    refine J_iload_n dX2_settingAt_4 rfl ?_
    refine J_aload_n dX2_settingAt_5 rfl rfl ?_
    refine J_getR dX2_settingAt_6 flX2_23 rfl hH.1 hH.r2 ?_
    refine J_alen (x := 4) dX2_settingAt_9 hH.a2 ⟨by decide, by decide⟩ rfl ?_
    refine J_icmp_ge (tgt := 17) dX2_settingAt_10 (by decide) (fun h3 => ?_) (fun h3 => ?_)
    · skip
      refine J_iconst (0) dX2_settingAt_17 rfl ?_
      refine J_istore_n dX2_settingAt_18 (Nat.le_of_ble_eq_true rfl) ?_
      refine J_iload_n dX2_settingAt_19 rfl ?_
      refine J_if_eq (tgt := 32) dX2_settingAt_20 (by decide) (fun h4 => ?_) (fun h4 => ?_)
      · skip
        refine J_ldc (-2000000001) dX2_settingAt_32 jw_262 ?_
        exact J_iret (ty := .int) hR dX2_settingAt_34 rfl rfl (Nat.le_of_ble_eq_true rfl) (Nat.le_of_ble_eq_true rfl) (jRes_i (by first | rfl | (simp only [fX2_settingAt, if_neg h1, if_pos h3]; done) | (simp only [fX2_settingAt, if_neg h1, if_pos h3]; rfl)) rfl)
      · skip
        exact absurd h4 (by decide)
    · skip
      refine J_iconst (1) dX2_settingAt_13 rfl ?_
      refine J_goto (tgt := 18) dX2_settingAt_14 (by decide) ?_
      refine J_istore_n dX2_settingAt_18 (Nat.le_of_ble_eq_true rfl) ?_
      refine J_iload_n dX2_settingAt_19 rfl ?_
      refine J_if_eq (tgt := 32) dX2_settingAt_20 (by decide) (fun h5 => ?_) (fun h5 => ?_)
      · skip
        exact absurd h5 (by decide)
      · skip
        refine J_aload_n dX2_settingAt_23 rfl rfl ?_
        refine J_getR dX2_settingAt_24 flX2_23 rfl hH.1 hH.r2 ?_
        refine J_iload_n dX2_settingAt_27 rfl ?_
        refine J_iaload dX2_settingAt_28 hH.a2 (jvp_4 (by assumption) (by assumption)) ?_
        refine J_goto (tgt := 34) dX2_settingAt_29 (by decide) ?_
        exact J_iret (ty := .int) hR dX2_settingAt_34 rfl rfl (Nat.le_of_ble_eq_true rfl) (Nat.le_of_ble_eq_true rfl) (jRes_i (by first | rfl | (simp only [fX2_settingAt, if_neg h1, if_neg h3]; done) | (simp only [fX2_settingAt, if_neg h1, if_neg h3]; rfl)) rfl)
def fX2_balanceOf (I : jI) (o : Nat) (x : Int32) : Int32 :=
  if x < 0 then
    (-2000000001)
  else
    if 4 ≤ x then
      (-2000000001)
    else
      (I (o + 4) (x).toNatClampNeg)
set_option maxRecDepth 100000 in
set_option maxHeartbeats 4000000 in
theorem kX2_balanceOf (S : jX) (I : jI) (o : Nat) (x : Int32) (hH : jHouse S o) : jM (0, 0, 0) mX2_balanceOf [.ref o, .int x] S I (jRes (some (.int (fX2_balanceOf I o x))) S I) := by
  refine jM.of (ls := [.ref o, .int x, .long 0]) (by decide) (Nat.le_of_ble_eq_true rfl) (by intro v hv; simp only [List.mem_cons, List.not_mem_nil, or_false] at hv; rcases hv with rfl | rfl <;> rfl) rfl (fun G hR => ?_)
  refine J_iload_n dX2_balanceOf_0 rfl ?_
  refine J_if_lt (tgt := 17) dX2_balanceOf_1 (by decide) (fun h1 => ?_) (fun h1 => ?_)
  · skip
    refine J_iconst (0) dX2_balanceOf_17 rfl ?_
    refine J_istore_n dX2_balanceOf_18 (Nat.le_of_ble_eq_true rfl) ?_
    refine J_iload_n dX2_balanceOf_19 rfl ?_
    refine J_if_eq (tgt := 32) dX2_balanceOf_20 (by decide) (fun h2 => ?_) (fun h2 => ?_)
    · skip
      refine J_ldc (-2000000001) dX2_balanceOf_32 jw_262 ?_
      exact J_iret (ty := .int) hR dX2_balanceOf_34 rfl rfl (Nat.le_of_ble_eq_true rfl) (Nat.le_of_ble_eq_true rfl) (jRes_i (by first | rfl | (simp only [fX2_balanceOf, if_pos h1]; done) | (simp only [fX2_balanceOf, if_pos h1]; rfl)) rfl)
    · skip
      exact absurd h2 (by decide)
  · skip
    refine J_iload_n dX2_balanceOf_4 rfl ?_
    refine J_aload_n dX2_balanceOf_5 rfl rfl ?_
    refine J_getR dX2_balanceOf_6 flX2_27 rfl hH.1 hH.r3 ?_
    refine J_alen (x := 4) dX2_balanceOf_9 hH.a3 ⟨by decide, by decide⟩ rfl ?_
    refine J_icmp_ge (tgt := 17) dX2_balanceOf_10 (by decide) (fun h3 => ?_) (fun h3 => ?_)
    · skip
      refine J_iconst (0) dX2_balanceOf_17 rfl ?_
      refine J_istore_n dX2_balanceOf_18 (Nat.le_of_ble_eq_true rfl) ?_
      refine J_iload_n dX2_balanceOf_19 rfl ?_
      refine J_if_eq (tgt := 32) dX2_balanceOf_20 (by decide) (fun h4 => ?_) (fun h4 => ?_)
      · skip
        refine J_ldc (-2000000001) dX2_balanceOf_32 jw_262 ?_
        exact J_iret (ty := .int) hR dX2_balanceOf_34 rfl rfl (Nat.le_of_ble_eq_true rfl) (Nat.le_of_ble_eq_true rfl) (jRes_i (by first | rfl | (simp only [fX2_balanceOf, if_neg h1, if_pos h3]; done) | (simp only [fX2_balanceOf, if_neg h1, if_pos h3]; rfl)) rfl)
      · skip
        exact absurd h4 (by decide)
    · skip
      refine J_iconst (1) dX2_balanceOf_13 rfl ?_
      refine J_goto (tgt := 18) dX2_balanceOf_14 (by decide) ?_
      refine J_istore_n dX2_balanceOf_18 (Nat.le_of_ble_eq_true rfl) ?_
      refine J_iload_n dX2_balanceOf_19 rfl ?_
      refine J_if_eq (tgt := 32) dX2_balanceOf_20 (by decide) (fun h5 => ?_) (fun h5 => ?_)
      · skip
        exact absurd h5 (by decide)
      · skip
        refine J_aload_n dX2_balanceOf_23 rfl rfl ?_
        refine J_getR dX2_balanceOf_24 flX2_27 rfl hH.1 hH.r3 ?_
        refine J_iload_n dX2_balanceOf_27 rfl ?_
        refine J_iaload dX2_balanceOf_28 hH.a3 (jvp_4 (by assumption) (by assumption)) ?_
        refine J_goto (tgt := 34) dX2_balanceOf_29 (by decide) ?_
        exact J_iret (ty := .int) hR dX2_balanceOf_34 rfl rfl (Nat.le_of_ble_eq_true rfl) (Nat.le_of_ble_eq_true rfl) (jRes_i (by first | rfl | (simp only [fX2_balanceOf, if_neg h1, if_neg h3]; done) | (simp only [fX2_balanceOf, if_neg h1, if_neg h3]; rfl)) rfl)
def fX2_ownerPays (I : jI) (o : Nat) (x : Int32) (y : Int32) : jI :=
  if x < 0 then
    I
  else
    if 4 ≤ x then
      I
    else
      (jset (jset I (o + 4) ((3 : Int32).toNatClampNeg) ((I (o + 4) ((3 : Int32).toNatClampNeg)) - y)) (o + 4) (x).toNatClampNeg (((jset I (o + 4) ((3 : Int32).toNatClampNeg) ((I (o + 4) ((3 : Int32).toNatClampNeg)) - y)) (o + 4) (x).toNatClampNeg) + y))
set_option maxRecDepth 100000 in
set_option maxHeartbeats 4000000 in
theorem kX2_ownerPays (S : jX) (I : jI) (o : Nat) (x : Int32) (y : Int32) (hH : jHouse S o) : jM (0, 0, 0) mX2_ownerPays [.ref o, .int x, .int y] S I (jRes none S (fX2_ownerPays I o x y)) := by
  refine jM.of (ls := [.ref o, .int x, .int y]) (by decide) (Nat.le_of_ble_eq_true rfl) (by intro v hv; simp only [List.mem_cons, List.not_mem_nil, or_false] at hv; rcases hv with rfl | rfl | rfl <;> rfl) rfl (fun G hR => ?_)
  refine J_iload_n dX2_ownerPays_0 rfl ?_
  refine J_if_lt (tgt := 22) dX2_ownerPays_1 (by decide) (fun h1 => ?_) (fun h1 => ?_)
  · skip
    exact J_vret hR dX2_ownerPays_22 rfl (Nat.le_of_ble_eq_true rfl) (Nat.le_of_ble_eq_true rfl) (jRes_v (by first | rfl | (simp only [fX2_ownerPays, if_pos h1]; done) | (simp only [fX2_ownerPays, if_pos h1]; rfl)))
  · skip
    refine J_iload_n dX2_ownerPays_4 rfl ?_
    refine J_aload_n dX2_ownerPays_5 rfl rfl ?_
    refine J_getR dX2_ownerPays_6 flX2_27 rfl hH.1 hH.r3 ?_
    refine J_alen (x := 4) dX2_ownerPays_9 hH.a3 ⟨by decide, by decide⟩ rfl ?_
    refine J_icmp_ge (tgt := 22) dX2_ownerPays_10 (by decide) (fun h2 => ?_) (fun h2 => ?_)
    · skip
      exact J_vret hR dX2_ownerPays_22 rfl (Nat.le_of_ble_eq_true rfl) (Nat.le_of_ble_eq_true rfl) (jRes_v (by first | rfl | (simp only [fX2_ownerPays, if_neg h1, if_pos h2]; done) | (simp only [fX2_ownerPays, if_neg h1, if_pos h2]; rfl)))
    · skip
      refine J_iconst (3) dX2_ownerPays_13 rfl ?_
      refine J_aload_n dX2_ownerPays_14 rfl rfl ?_
      refine J_getR dX2_ownerPays_15 flX2_27 rfl hH.1 hH.r3 ?_
      refine J_alen (x := 4) dX2_ownerPays_18 hH.a3 ⟨by decide, by decide⟩ rfl ?_
      refine J_icmp_lt (tgt := 23) dX2_ownerPays_19 (by decide) (fun h3 => ?_) (fun h3 => ?_)
      · skip
        refine J_aload_n dX2_ownerPays_23 rfl rfl ?_
        refine J_getR dX2_ownerPays_24 flX2_27 rfl hH.1 hH.r3 ?_
        refine J_iconst (3) dX2_ownerPays_27 rfl ?_
        refine J_dup2 dX2_ownerPays_28 rfl rfl ?_
        refine J_iaload dX2_ownerPays_29 hH.a3 (by first | exact jvp_4 (by assumption) (by assumption) | (unfold vp_in; decide)) ?_
        refine J_iload_n dX2_ownerPays_30 rfl ?_
        refine J_isub dX2_ownerPays_31 ?_
        refine J_iastore dX2_ownerPays_32 hH.a3 (by first | exact jvp_4 (by assumption) (by assumption) | (unfold vp_in; decide)) ?_
        refine J_aload_n dX2_ownerPays_33 rfl rfl ?_
        refine J_getR dX2_ownerPays_34 flX2_27 rfl hH.1 hH.r3 ?_
        refine J_iload_n dX2_ownerPays_37 rfl ?_
        refine J_dup2 dX2_ownerPays_38 rfl rfl ?_
        refine J_iaload dX2_ownerPays_39 hH.a3 (by first | exact jvp_4 (by assumption) (by assumption) | (unfold vp_in; decide)) ?_
        refine J_iload_n dX2_ownerPays_40 rfl ?_
        refine J_iadd dX2_ownerPays_41 ?_
        refine J_iastore dX2_ownerPays_42 hH.a3 (by first | exact jvp_4 (by assumption) (by assumption) | (unfold vp_in; decide)) ?_
        exact J_vret hR dX2_ownerPays_43 rfl (Nat.le_of_ble_eq_true rfl) (Nat.le_of_ble_eq_true rfl) (jRes_v (by first | rfl | (simp only [fX2_ownerPays, if_neg h1, if_neg h2]; done) | (simp only [fX2_ownerPays, if_neg h1, if_neg h2]; rfl)))
      · skip
        exact absurd h3 (by decide)
def fX6_isInsurer (I : jI) (x : Int32) : Int32 :=
  if x = 0 then
    1
  else
    if x = 1 then
      1
    else
      0
set_option maxRecDepth 100000 in
set_option maxHeartbeats 4000000 in
theorem kX6_isInsurer (S : jX) (I : jI) (x : Int32)  : jM (0, 0, 0) mX6_isInsurer [.int x] S I (jRes (some (.int (fX6_isInsurer I x))) S I) := by
  refine jM.of (ls := [.int x]) (by decide) (Nat.le_of_ble_eq_true rfl) (by intro v hv; simp only [List.mem_cons, List.not_mem_nil, or_false] at hv; rcases hv with rfl <;> rfl) rfl (fun G hR => ?_)
  refine J_iload_n dX6_isInsurer_0 rfl ?_
  refine J_if_eq (tgt := 9) dX6_isInsurer_1 (by decide) (fun h1 => ?_) (fun h1 => ?_)
  · skip
    refine J_iconst (1) dX6_isInsurer_9 rfl ?_
    refine J_goto (tgt := 14) dX6_isInsurer_10 (by decide) ?_
    exact J_iret (ty := .boolean) hR dX6_isInsurer_14 rfl rfl (Nat.le_of_ble_eq_true rfl) (Nat.le_of_ble_eq_true rfl) (jRes_i (by first | rfl | (simp only [fX6_isInsurer, if_pos h1]; done) | (simp only [fX6_isInsurer, if_pos h1]; rfl)) rfl)
  · skip
    refine J_iload_n dX6_isInsurer_4 rfl ?_
    refine J_iconst (1) dX6_isInsurer_5 rfl ?_
    refine J_icmp_ne (tgt := 13) dX6_isInsurer_6 (by decide) (fun h2 => ?_) (fun h2 => ?_)
    · skip
      refine J_iconst (0) dX6_isInsurer_13 rfl ?_
      exact J_iret (ty := .boolean) hR dX6_isInsurer_14 rfl rfl (Nat.le_of_ble_eq_true rfl) (Nat.le_of_ble_eq_true rfl) (jRes_i (by first | rfl | (simp only [fX6_isInsurer, if_neg h1, if_neg h2]; done) | (simp only [fX6_isInsurer, if_neg h1, if_neg h2]; rfl)) rfl)
    · skip
      refine J_iconst (1) dX6_isInsurer_9 rfl ?_
      refine J_goto (tgt := 14) dX6_isInsurer_10 (by decide) ?_
      exact J_iret (ty := .boolean) hR dX6_isInsurer_14 rfl rfl (Nat.le_of_ble_eq_true rfl) (Nat.le_of_ble_eq_true rfl) (jRes_i (by first | rfl | (simp only [fX6_isInsurer, if_neg h1, if_pos h2]; done) | (simp only [fX6_isInsurer, if_neg h1, if_pos h2]; rfl)) rfl)
def fX6_isError (I : jI) (x : Int32) : Int32 :=
  if (-2000000001) < x then
    0
  else
    1
set_option maxRecDepth 100000 in
set_option maxHeartbeats 4000000 in
theorem kX6_isError (S : jX) (I : jI) (x : Int32)  : jM (0, 0, 0) mX6_isError [.int x] S I (jRes (some (.int (fX6_isError I x))) S I) := by
  refine jM.of (ls := [.int x]) (by decide) (Nat.le_of_ble_eq_true rfl) (by intro v hv; simp only [List.mem_cons, List.not_mem_nil, or_false] at hv; rcases hv with rfl <;> rfl) rfl (fun G hR => ?_)
  refine J_iload_n dX6_isError_0 rfl ?_
  refine J_ldc (-2000000001) dX6_isError_1 jw_275 ?_
  refine J_icmp_gt (tgt := 10) dX6_isError_3 (by decide) (fun h1 => ?_) (fun h1 => ?_)
  · skip
    refine J_iconst (0) dX6_isError_10 rfl ?_
    exact J_iret (ty := .boolean) hR dX6_isError_11 rfl rfl (Nat.le_of_ble_eq_true rfl) (Nat.le_of_ble_eq_true rfl) (jRes_i (by first | rfl | (simp only [fX6_isError, if_pos h1]; done) | (simp only [fX6_isError, if_pos h1]; rfl)) rfl)
  · skip
    refine J_iconst (1) dX6_isError_6 rfl ?_
    refine J_goto (tgt := 11) dX6_isError_7 (by decide) ?_
    exact J_iret (ty := .boolean) hR dX6_isError_11 rfl rfl (Nat.le_of_ble_eq_true rfl) (Nat.le_of_ble_eq_true rfl) (jRes_i (by first | rfl | (simp only [fX6_isError, if_neg h1]; done) | (simp only [fX6_isError, if_neg h1]; rfl)) rfl)
def fX2_pressureOffered (I : jI) (o : Nat) (q : Nat) (x : Int32) : Int32 :=
  if (I q 2) ≤ (fX2_settingAt I o x) then
    if x = 0 then
      (fX0_strength I q)
    else
      (((fX0_strength I q) * 9) / 10)
  else
    0
set_option maxRecDepth 100000 in
set_option maxHeartbeats 4000000 in
theorem kX2_pressureOffered (S : jX) (I : jI) (o : Nat) (q : Nat) (x : Int32) (hH : jHouse S o) (hq : jKd S q 0 0) : jM (1, 0, 0) mX2_pressureOffered [.ref o, .ref q, .int x] S I (jRes (some (.int (fX2_pressureOffered I o q x))) S I) := by
  refine jM.of (ls := [.ref o, .ref q, .int x, .long 0]) (by decide) (Nat.le_of_ble_eq_true rfl) (by intro v hv; simp only [List.mem_cons, List.not_mem_nil, or_false] at hv; rcases hv with rfl | rfl | rfl <;> rfl) rfl (fun G hR => ?_)
  refine J_aload_n dX2_pressureOffered_0 rfl rfl ?_
  refine J_getI dX2_pressureOffered_1 flX2_134 rfl hq ?_
  refine J_aload_n dX2_pressureOffered_4 rfl rfl ?_
  refine J_iload_n dX2_pressureOffered_5 rfl ?_
  refine J_cV1r (mc := mX2_settingAt) hH.1 (by decide) rfl dX2_pressureOffered_6 mlX2_118 okX2_settingAt (kX2_settingAt S I o x hH) (Nat.le_of_ble_eq_true rfl) (Nat.le_of_ble_eq_true rfl) (Nat.le_of_ble_eq_true rfl) (Nat.le_of_ble_eq_true rfl) ?_
  refine J_icmp_le (tgt := 14) dX2_pressureOffered_9 (by decide) (fun h1 => ?_) (fun h1 => ?_)
  · skip
    refine J_aload_n dX2_pressureOffered_14 rfl rfl ?_
    refine J_cV0r (mc := mX0_strength) hq (by decide) rfl dX2_pressureOffered_15 mlX2_199 okX0_strength (kX0_strength S I q hq) (Nat.le_of_ble_eq_true rfl) (Nat.le_of_ble_eq_true rfl) (Nat.le_of_ble_eq_true rfl) (Nat.le_of_ble_eq_true rfl) ?_
    refine J_istore_n dX2_pressureOffered_18 (Nat.le_of_ble_eq_true rfl) ?_
    refine J_iload_n dX2_pressureOffered_19 rfl ?_
    refine J_if_ne (tgt := 27) dX2_pressureOffered_20 (by decide) (fun h2 => ?_) (fun h2 => ?_)
    · skip
      refine J_iload_n dX2_pressureOffered_27 rfl ?_
      refine J_bipush (9) dX2_pressureOffered_28 rfl ?_
      refine J_imul dX2_pressureOffered_30 ?_
      refine J_bipush (10) dX2_pressureOffered_31 rfl ?_
      refine J_idiv dX2_pressureOffered_33 (by decide) ?_
      exact J_iret (ty := .int) hR dX2_pressureOffered_34 rfl rfl (Nat.le_of_ble_eq_true rfl) (Nat.le_of_ble_eq_true rfl) (jRes_i (by first | rfl | (simp only [fX2_pressureOffered, if_pos h1, if_neg h2]; done) | (simp only [fX2_pressureOffered, if_pos h1, if_neg h2]; rfl)) rfl)
    · skip
      refine J_iload_n dX2_pressureOffered_23 rfl ?_
      refine J_goto (tgt := 34) dX2_pressureOffered_24 (by decide) ?_
      exact J_iret (ty := .int) hR dX2_pressureOffered_34 rfl rfl (Nat.le_of_ble_eq_true rfl) (Nat.le_of_ble_eq_true rfl) (jRes_i (by first | rfl | (simp only [fX2_pressureOffered, if_pos h1, if_pos h2]; done) | (simp only [fX2_pressureOffered, if_pos h1, if_pos h2]; rfl)) rfl)
  · skip
    refine J_iconst (0) dX2_pressureOffered_12 rfl ?_
    exact J_iret (ty := .int) hR dX2_pressureOffered_13 rfl rfl (Nat.le_of_ble_eq_true rfl) (Nat.le_of_ble_eq_true rfl) (jRes_i (by first | rfl | (simp only [fX2_pressureOffered, if_neg h1]; done) | (simp only [fX2_pressureOffered, if_neg h1]; rfl)) rfl)
def fX2_lastWeekOffered (I : jI) (o : Nat) (q : Nat) (x : Int32) : Int32 :=
  if x = 0 then
    ((I o 6) + (52 - ((I q 2) / 5)))
  else
    ((I o 6) + 40)
set_option maxRecDepth 100000 in
set_option maxHeartbeats 4000000 in
theorem kX2_lastWeekOffered (S : jX) (I : jI) (o : Nat) (q : Nat) (x : Int32) (hH : jHouse S o) (hq : jKd S q 0 0) : jM (0, 0, 0) mX2_lastWeekOffered [.ref o, .ref q, .int x] S I (jRes (some (.int (fX2_lastWeekOffered I o q x))) S I) := by
  refine jM.of (ls := [.ref o, .ref q, .int x]) (by decide) (Nat.le_of_ble_eq_true rfl) (by intro v hv; simp only [List.mem_cons, List.not_mem_nil, or_false] at hv; rcases hv with rfl | rfl | rfl <;> rfl) rfl (fun G hR => ?_)
  refine J_aload_n dX2_lastWeekOffered_0 rfl rfl ?_
  refine J_getI dX2_lastWeekOffered_1 flX2_39 rfl hH.1 ?_
  refine J_iload_n dX2_lastWeekOffered_4 rfl ?_
  refine J_if_ne (tgt := 20) dX2_lastWeekOffered_5 (by decide) (fun h1 => ?_) (fun h1 => ?_)
  · skip
    refine J_bipush (40) dX2_lastWeekOffered_20 rfl ?_
    refine J_iadd dX2_lastWeekOffered_22 ?_
    exact J_iret (ty := .int) hR dX2_lastWeekOffered_23 rfl rfl (Nat.le_of_ble_eq_true rfl) (Nat.le_of_ble_eq_true rfl) (jRes_i (by first | rfl | (simp only [fX2_lastWeekOffered, if_neg h1]; done) | (simp only [fX2_lastWeekOffered, if_neg h1]; rfl)) rfl)
  · skip
    refine J_bipush (52) dX2_lastWeekOffered_8 rfl ?_
    refine J_aload_n dX2_lastWeekOffered_10 rfl rfl ?_
    refine J_getI dX2_lastWeekOffered_11 flX2_134 rfl hq ?_
    refine J_iconst (5) dX2_lastWeekOffered_14 rfl ?_
    refine J_idiv dX2_lastWeekOffered_15 (by decide) ?_
    refine J_isub dX2_lastWeekOffered_16 ?_
    refine J_goto (tgt := 22) dX2_lastWeekOffered_17 (by decide) ?_
    refine J_iadd dX2_lastWeekOffered_22 ?_
    exact J_iret (ty := .int) hR dX2_lastWeekOffered_23 rfl rfl (Nat.le_of_ble_eq_true rfl) (Nat.le_of_ble_eq_true rfl) (jRes_i (by first | rfl | (simp only [fX2_lastWeekOffered, if_pos h1]; done) | (simp only [fX2_lastWeekOffered, if_pos h1]; rfl)) rfl)
def fX2_isOneBetter (I : jI) (o : Nat) (q : Nat) : Int32 :=
  if (fX2_lastWeekOffered I o q 0) = (fX2_lastWeekOffered I o q 1) then
    if (fX2_pressureOffered I o q 1) ≤ (fX2_pressureOffered I o q 0) then
      0
    else
      1
  else
    if (fX2_lastWeekOffered I o q 1) ≤ (fX2_lastWeekOffered I o q 0) then
      0
    else
      1
set_option maxRecDepth 100000 in
set_option maxHeartbeats 4000000 in
theorem kX2_isOneBetter (S : jX) (I : jI) (o : Nat) (q : Nat) (hH : jHouse S o) (hq : jKd S q 0 0) : jM (2, 0, 0) mX2_isOneBetter [.ref o, .ref q] S I (jRes (some (.int (fX2_isOneBetter I o q))) S I) := by
  refine jM.of (ls := [.ref o, .ref q, .long 0, .long 0]) (by decide) (Nat.le_of_ble_eq_true rfl) (by intro v hv; simp only [List.mem_cons, List.not_mem_nil, or_false] at hv; rcases hv with rfl | rfl <;> rfl) rfl (fun G hR => ?_)
  refine J_aload_n dX2_isOneBetter_0 rfl rfl ?_
  refine J_aload_n dX2_isOneBetter_1 rfl rfl ?_
  refine J_iconst (0) dX2_isOneBetter_2 rfl ?_
  refine J_cV2r (mc := mX2_lastWeekOffered) hH.1 (by decide) rfl dX2_isOneBetter_3 mlX2_104 okX2_lastWeekOffered (kX2_lastWeekOffered S I o q 0 hH hq) (Nat.le_of_ble_eq_true rfl) (Nat.le_of_ble_eq_true rfl) (Nat.le_of_ble_eq_true rfl) (Nat.le_of_ble_eq_true rfl) ?_
  refine J_istore_n dX2_isOneBetter_6 (Nat.le_of_ble_eq_true rfl) ?_
  refine J_aload_n dX2_isOneBetter_7 rfl rfl ?_
  refine J_aload_n dX2_isOneBetter_8 rfl rfl ?_
  refine J_iconst (1) dX2_isOneBetter_9 rfl ?_
  refine J_cV2r (mc := mX2_lastWeekOffered) hH.1 (by decide) rfl dX2_isOneBetter_10 mlX2_104 okX2_lastWeekOffered (kX2_lastWeekOffered S I o q 1 hH hq) (Nat.le_of_ble_eq_true rfl) (Nat.le_of_ble_eq_true rfl) (Nat.le_of_ble_eq_true rfl) (Nat.le_of_ble_eq_true rfl) ?_
  refine J_istore_n dX2_isOneBetter_13 (Nat.le_of_ble_eq_true rfl) ?_
  refine J_iload_n dX2_isOneBetter_14 rfl ?_
  refine J_iload_n dX2_isOneBetter_15 rfl ?_
  refine J_icmp_eq (tgt := 30) dX2_isOneBetter_16 (by decide) (fun h1 => ?_) (fun h1 => ?_)
  · skip
    refine J_aload_n dX2_isOneBetter_30 rfl rfl ?_
    refine J_aload_n dX2_isOneBetter_31 rfl rfl ?_
    refine J_iconst (1) dX2_isOneBetter_32 rfl ?_
    refine J_cV2r (mc := mX2_pressureOffered) hH.1 (by decide) rfl dX2_isOneBetter_33 mlX2_100 okX2_pressureOffered (kX2_pressureOffered S I o q 1 hH hq) (Nat.le_of_ble_eq_true rfl) (Nat.le_of_ble_eq_true rfl) (Nat.le_of_ble_eq_true rfl) (Nat.le_of_ble_eq_true rfl) ?_
    refine J_aload_n dX2_isOneBetter_36 rfl rfl ?_
    refine J_aload_n dX2_isOneBetter_37 rfl rfl ?_
    refine J_iconst (0) dX2_isOneBetter_38 rfl ?_
    refine J_cV2r (mc := mX2_pressureOffered) hH.1 (by decide) rfl dX2_isOneBetter_39 mlX2_100 okX2_pressureOffered (kX2_pressureOffered S I o q 0 hH hq) (Nat.le_of_ble_eq_true rfl) (Nat.le_of_ble_eq_true rfl) (Nat.le_of_ble_eq_true rfl) (Nat.le_of_ble_eq_true rfl) ?_
    refine J_icmp_le (tgt := 49) dX2_isOneBetter_42 (by decide) (fun h2 => ?_) (fun h2 => ?_)
    · skip
      refine J_iconst (0) dX2_isOneBetter_49 rfl ?_
      exact J_iret (ty := .boolean) hR dX2_isOneBetter_50 rfl rfl (Nat.le_of_ble_eq_true rfl) (Nat.le_of_ble_eq_true rfl) (jRes_i (by first | rfl | (simp only [fX2_isOneBetter, if_pos h1, if_pos h2]; done) | (simp only [fX2_isOneBetter, if_pos h1, if_pos h2]; rfl)) rfl)
    · skip
      refine J_iconst (1) dX2_isOneBetter_45 rfl ?_
      refine J_goto (tgt := 50) dX2_isOneBetter_46 (by decide) ?_
      exact J_iret (ty := .boolean) hR dX2_isOneBetter_50 rfl rfl (Nat.le_of_ble_eq_true rfl) (Nat.le_of_ble_eq_true rfl) (jRes_i (by first | rfl | (simp only [fX2_isOneBetter, if_pos h1, if_neg h2]; done) | (simp only [fX2_isOneBetter, if_pos h1, if_neg h2]; rfl)) rfl)
  · skip
    refine J_iload_n dX2_isOneBetter_19 rfl ?_
    refine J_iload_n dX2_isOneBetter_20 rfl ?_
    refine J_icmp_le (tgt := 28) dX2_isOneBetter_21 (by decide) (fun h3 => ?_) (fun h3 => ?_)
    · skip
      refine J_iconst (0) dX2_isOneBetter_28 rfl ?_
      exact J_iret (ty := .boolean) hR dX2_isOneBetter_29 rfl rfl (Nat.le_of_ble_eq_true rfl) (Nat.le_of_ble_eq_true rfl) (jRes_i (by first | rfl | (simp only [fX2_isOneBetter, if_neg h1, if_pos h3]; done) | (simp only [fX2_isOneBetter, if_neg h1, if_pos h3]; rfl)) rfl)
    · skip
      refine J_iconst (1) dX2_isOneBetter_24 rfl ?_
      refine J_goto (tgt := 29) dX2_isOneBetter_25 (by decide) ?_
      exact J_iret (ty := .boolean) hR dX2_isOneBetter_29 rfl rfl (Nat.le_of_ble_eq_true rfl) (Nat.le_of_ble_eq_true rfl) (jRes_i (by first | rfl | (simp only [fX2_isOneBetter, if_neg h1, if_neg h3]; done) | (simp only [fX2_isOneBetter, if_neg h1, if_neg h3]; rfl)) rfl)
def fX2_isInSet (I : jI) (o : Nat) (q : Nat) (x : Int32) : Int32 :=
  if x = 3 then
    if (I q 3) = 1 then
      1
    else
      0
  else
    if x = 4 then
      if (I q 3) = 2 then
        1
      else
        0
    else
      if x = 5 then
        (I q 6)
      else
        if x = 6 then
          (I q 7)
        else
          if (fX0_whyNotFiredIn I q (I o 6)) = 0 then
            1
          else
            0
set_option maxRecDepth 100000 in
set_option maxHeartbeats 4000000 in
theorem kX2_isInSet (S : jX) (I : jI) (o : Nat) (q : Nat) (x : Int32) (hH : jHouse S o) (hq : jKd S q 0 0) (hz6 : I q 6 = 0 ∨ I q 6 = 1) (hz7 : I q 7 = 0 ∨ I q 7 = 1) : jM (2, 0, 0) mX2_isInSet [.ref o, .ref q, .int x] S I (jRes (some (.int (fX2_isInSet I o q x))) S I) := by
  refine jM.of (ls := [.ref o, .ref q, .int x]) (by decide) (Nat.le_of_ble_eq_true rfl) (by intro v hv; simp only [List.mem_cons, List.not_mem_nil, or_false] at hv; rcases hv with rfl | rfl | rfl <;> rfl) rfl (fun G hR => ?_)
  refine J_iload_n dX2_isInSet_0 rfl ?_
  by_cases h1 : x = 3
  · skip
    refine J_tabIn (off := 31) (tgt := 32) dX2_isInSet_1 (by rw [h1]; decide) (by rw [h1]; decide) (by rw [h1]; rfl) (by decide) ?_
    refine J_aload_n dX2_isInSet_32 rfl rfl ?_
    refine J_getI dX2_isInSet_33 flX2_83 rfl hq ?_
    refine J_iconst (1) dX2_isInSet_36 rfl ?_
    refine J_icmp_ne (tgt := 44) dX2_isInSet_37 (by decide) (fun h2 => ?_) (fun h2 => ?_)
    · skip
      refine J_iconst (0) dX2_isInSet_44 rfl ?_
      exact J_iret (ty := .boolean) hR dX2_isInSet_45 rfl rfl (Nat.le_of_ble_eq_true rfl) (Nat.le_of_ble_eq_true rfl) (jRes_i (by first | rfl | (simp only [fX2_isInSet, if_pos h1, if_neg h2]; done) | (simp only [fX2_isInSet, if_pos h1, if_neg h2]; rfl)) rfl)
    · skip
      refine J_iconst (1) dX2_isInSet_40 rfl ?_
      refine J_goto (tgt := 45) dX2_isInSet_41 (by decide) ?_
      exact J_iret (ty := .boolean) hR dX2_isInSet_45 rfl rfl (Nat.le_of_ble_eq_true rfl) (Nat.le_of_ble_eq_true rfl) (jRes_i (by first | rfl | (simp only [fX2_isInSet, if_pos h1, if_pos h2]; done) | (simp only [fX2_isInSet, if_pos h1, if_pos h2]; rfl)) rfl)
  by_cases h3 : x = 4
  · skip
    refine J_tabIn (off := 45) (tgt := 46) dX2_isInSet_1 (by rw [h3]; decide) (by rw [h3]; decide) (by rw [h3]; rfl) (by decide) ?_
    refine J_aload_n dX2_isInSet_46 rfl rfl ?_
    refine J_getI dX2_isInSet_47 flX2_83 rfl hq ?_
    refine J_iconst (2) dX2_isInSet_50 rfl ?_
    refine J_icmp_ne (tgt := 58) dX2_isInSet_51 (by decide) (fun h4 => ?_) (fun h4 => ?_)
    · skip
      refine J_iconst (0) dX2_isInSet_58 rfl ?_
      exact J_iret (ty := .boolean) hR dX2_isInSet_59 rfl rfl (Nat.le_of_ble_eq_true rfl) (Nat.le_of_ble_eq_true rfl) (jRes_i (by first | rfl | (simp only [fX2_isInSet, if_neg h1, if_pos h3, if_neg h4]; done) | (simp only [fX2_isInSet, if_neg h1, if_pos h3, if_neg h4]; rfl)) rfl)
    · skip
      refine J_iconst (1) dX2_isInSet_54 rfl ?_
      refine J_goto (tgt := 59) dX2_isInSet_55 (by decide) ?_
      exact J_iret (ty := .boolean) hR dX2_isInSet_59 rfl rfl (Nat.le_of_ble_eq_true rfl) (Nat.le_of_ble_eq_true rfl) (jRes_i (by first | rfl | (simp only [fX2_isInSet, if_neg h1, if_pos h3, if_pos h4]; done) | (simp only [fX2_isInSet, if_neg h1, if_pos h3, if_pos h4]; rfl)) rfl)
  by_cases h5 : x = 5
  · skip
    refine J_tabIn (off := 59) (tgt := 60) dX2_isInSet_1 (by rw [h5]; decide) (by rw [h5]; decide) (by rw [h5]; rfl) (by decide) ?_
    refine J_aload_n dX2_isInSet_60 rfl rfl ?_
    refine J_getI dX2_isInSet_61 flX2_228 rfl hq ?_
    exact J_iret (ty := .boolean) hR dX2_isInSet_64 rfl (jBn hz6) (Nat.le_of_ble_eq_true rfl) (Nat.le_of_ble_eq_true rfl) (jRes_i (by first | rfl | (simp only [fX2_isInSet, if_neg h1, if_neg h3, if_pos h5]; done) | (simp only [fX2_isInSet, if_neg h1, if_neg h3, if_pos h5]; rfl)) rfl)
  by_cases h6 : x = 6
  · skip
    refine J_tabIn (off := 64) (tgt := 65) dX2_isInSet_1 (by rw [h6]; decide) (by rw [h6]; decide) (by rw [h6]; rfl) (by decide) ?_
    refine J_aload_n dX2_isInSet_65 rfl rfl ?_
    refine J_getI dX2_isInSet_66 flX2_231 rfl hq ?_
    exact J_iret (ty := .boolean) hR dX2_isInSet_69 rfl (jBn hz7) (Nat.le_of_ble_eq_true rfl) (Nat.le_of_ble_eq_true rfl) (jRes_i (by first | rfl | (simp only [fX2_isInSet, if_neg h1, if_neg h3, if_neg h5, if_pos h6]; done) | (simp only [fX2_isInSet, if_neg h1, if_neg h3, if_neg h5, if_pos h6]; rfl)) rfl)
  refine J_tabOut (tgt := 70) dX2_isInSet_1 (by have e0 := lv_neT h1 (a := 3) rfl; have e1 := lv_neT h3 (a := 4) rfl; have e2 := lv_neT h5 (a := 5) rfl; have e3 := lv_neT h6 (a := 6) rfl; omega) (by decide) ?_
  refine J_aload_n dX2_isInSet_70 rfl rfl ?_
  refine J_aload_n dX2_isInSet_71 rfl rfl ?_
  refine J_getI dX2_isInSet_72 flX2_39 rfl hH.1 ?_
  refine J_cV1r (mc := mX0_whyNotFiredIn) hq (by decide) rfl dX2_isInSet_75 mlX2_125 okX0_whyNotFiredIn (kX0_whyNotFiredIn S I q (I o 6) hq) (Nat.le_of_ble_eq_true rfl) (Nat.le_of_ble_eq_true rfl) (Nat.le_of_ble_eq_true rfl) (Nat.le_of_ble_eq_true rfl) ?_
  refine J_if_ne (tgt := 85) dX2_isInSet_78 (by decide) (fun h7 => ?_) (fun h7 => ?_)
  · skip
    refine J_iconst (0) dX2_isInSet_85 rfl ?_
    exact J_iret (ty := .boolean) hR dX2_isInSet_86 rfl rfl (Nat.le_of_ble_eq_true rfl) (Nat.le_of_ble_eq_true rfl) (jRes_i (by first | rfl | (simp only [fX2_isInSet, if_neg h1, if_neg h3, if_neg h5, if_neg h6, if_neg h7]; done) | (simp only [fX2_isInSet, if_neg h1, if_neg h3, if_neg h5, if_neg h6, if_neg h7]; rfl)) rfl)
  · skip
    refine J_iconst (1) dX2_isInSet_81 rfl ?_
    refine J_goto (tgt := 86) dX2_isInSet_82 (by decide) ?_
    exact J_iret (ty := .boolean) hR dX2_isInSet_86 rfl rfl (Nat.le_of_ble_eq_true rfl) (Nat.le_of_ble_eq_true rfl) (jRes_i (by first | rfl | (simp only [fX2_isInSet, if_neg h1, if_neg h3, if_neg h5, if_neg h6, if_pos h7]; done) | (simp only [fX2_isInSet, if_neg h1, if_neg h3, if_neg h5, if_neg h6, if_pos h7]; rfl)) rfl)
def fX2_addBoiler (I : jI) (o : Nat) (x : Int32) : Int32 × jI :=
  if x < 2 then
    ((-2000000001), I)
  else
    if x ≤ 40 then
      if (I o 4) < 8 then
        match (fX2_boilerAt (jset I o 4 ((I o 4) + 1)) o (I o 4)) with
        | none =>
          ((I o 4), (jset I o 4 ((I o 4) + 1)))
        | some b5 =>
          ((I o 4), (fX0_begin (jset I o 4 ((I o 4) + 1)) b5 x))
      else
        ((-2000000003), I)
    else
      ((-2000000001), I)
set_option maxRecDepth 100000 in
set_option maxHeartbeats 4000000 in
theorem kX2_addBoiler (S : jX) (I : jI) (o : Nat) (x : Int32) (hH : jHouse S o) : jM (1, 0, 0) mX2_addBoiler [.ref o, .int x] S I (jRes (some (.int (fX2_addBoiler I o x).1)) S (fX2_addBoiler I o x).2) := by
  refine jM.of (ls := [.ref o, .int x, .long 0, .long 0]) (by decide) (Nat.le_of_ble_eq_true rfl) (by intro v hv; simp only [List.mem_cons, List.not_mem_nil, or_false] at hv; rcases hv with rfl | rfl <;> rfl) rfl (fun G hR => ?_)
  refine J_iload_n dX2_addBoiler_0 rfl ?_
  refine J_iconst (2) dX2_addBoiler_1 rfl ?_
  refine J_icmp_lt (tgt := 11) dX2_addBoiler_2 (by decide) (fun h1 => ?_) (fun h1 => ?_)
  · skip
    refine J_ldc (-2000000001) dX2_addBoiler_11 jw_262 ?_
    exact J_iret (ty := .int) hR dX2_addBoiler_13 rfl rfl (Nat.le_of_ble_eq_true rfl) (Nat.le_of_ble_eq_true rfl) (jRes_f (by first | rfl | (simp only [fX2_addBoiler, if_pos h1]; done) | (simp only [fX2_addBoiler, if_pos h1]; rfl)))
  · skip
    refine J_iload_n dX2_addBoiler_5 rfl ?_
    refine J_bipush (40) dX2_addBoiler_6 rfl ?_
    refine J_icmp_le (tgt := 14) dX2_addBoiler_8 (by decide) (fun h2 => ?_) (fun h2 => ?_)
    · skip
      refine J_aload_n dX2_addBoiler_14 rfl rfl ?_
      refine J_getI dX2_addBoiler_15 flX2_32 rfl hH.1 ?_
      refine J_bipush (8) dX2_addBoiler_18 rfl ?_
      refine J_icmp_lt (tgt := 26) dX2_addBoiler_20 (by decide) (fun h3 => ?_) (fun h3 => ?_)
      · skip
        refine J_aload_n dX2_addBoiler_26 rfl rfl ?_
        refine J_getI dX2_addBoiler_27 flX2_32 rfl hH.1 ?_
        refine J_istore_n dX2_addBoiler_30 (Nat.le_of_ble_eq_true rfl) ?_
        refine J_aload_n dX2_addBoiler_31 rfl rfl ?_
        refine J_dup dX2_addBoiler_32 rfl ?_
        refine J_getI dX2_addBoiler_33 flX2_32 rfl hH.1 ?_
        refine J_iconst (1) dX2_addBoiler_36 rfl ?_
        refine J_iadd dX2_addBoiler_37 ?_
        refine J_putI dX2_addBoiler_38 flX2_32 rfl rfl rfl rfl hH.1 ?_
        refine J_aload_n dX2_addBoiler_41 rfl rfl ?_
        refine J_iload_n dX2_addBoiler_42 rfl ?_
        refine J_cV1r (mc := mX2_boilerAt) hH.1 (by decide) rfl dX2_addBoiler_43 mlX2_52 okX2_boilerAt (kX2_boilerAt S (jset I o 4 ((I o 4) + 1)) o (I o 4) hH) (Nat.le_of_ble_eq_true rfl) (Nat.le_of_ble_eq_true rfl) (Nat.le_of_ble_eq_true rfl) (Nat.le_of_ble_eq_true rfl) ?_
        rcases h4 : (fX2_boilerAt (jset I o 4 ((I o 4) + 1)) o (I o 4)) with _ | b5
        · skip
          refine J_astore_n dX2_addBoiler_46 (Nat.le_of_ble_eq_true rfl) rfl ?_
          refine J_aload_n dX2_addBoiler_47 rfl rfl ?_
          refine J_ifnull_n (tgt := 56) dX2_addBoiler_48 (by decide) ?_
          refine J_iload_n dX2_addBoiler_56 rfl ?_
          exact J_iret (ty := .int) hR dX2_addBoiler_57 rfl rfl (Nat.le_of_ble_eq_true rfl) (Nat.le_of_ble_eq_true rfl) (jRes_f (by first | rfl | (simp only [fX2_addBoiler, if_neg h1, if_pos h2, if_pos h3, h4]; done) | (simp only [fX2_addBoiler, if_neg h1, if_pos h2, if_pos h3, h4]; rfl)))
        · skip
          refine J_astore_n dX2_addBoiler_46 (Nat.le_of_ble_eq_true rfl) rfl ?_
          refine J_aload_n dX2_addBoiler_47 rfl rfl ?_
          refine J_ifnull_r dX2_addBoiler_48 ?_
          refine J_aload_n dX2_addBoiler_51 rfl rfl ?_
          refine J_iload_n dX2_addBoiler_52 rfl ?_
          refine J_cV1 (mc := mX0_begin) (kdBoilerAt hH h4) (by decide) rfl dX2_addBoiler_53 mlX2_69 okX0_begin (kX0_begin S (jset I o 4 ((I o 4) + 1)) b5 x (kdBoilerAt hH h4)) (Nat.le_of_ble_eq_true rfl) (Nat.le_of_ble_eq_true rfl) (Nat.le_of_ble_eq_true rfl) (Nat.le_of_ble_eq_true rfl) ?_
          refine J_iload_n dX2_addBoiler_56 rfl ?_
          exact J_iret (ty := .int) hR dX2_addBoiler_57 rfl rfl (Nat.le_of_ble_eq_true rfl) (Nat.le_of_ble_eq_true rfl) (jRes_f (by first | rfl | (simp only [fX2_addBoiler, if_neg h1, if_pos h2, if_pos h3, h4]; done) | (simp only [fX2_addBoiler, if_neg h1, if_pos h2, if_pos h3, h4]; rfl)))
      · skip
        refine J_ldc (-2000000003) dX2_addBoiler_23 jw_263 ?_
        exact J_iret (ty := .int) hR dX2_addBoiler_25 rfl rfl (Nat.le_of_ble_eq_true rfl) (Nat.le_of_ble_eq_true rfl) (jRes_f (by first | rfl | (simp only [fX2_addBoiler, if_neg h1, if_pos h2, if_neg h3]; done) | (simp only [fX2_addBoiler, if_neg h1, if_pos h2, if_neg h3]; rfl)))
    · skip
      refine J_ldc (-2000000001) dX2_addBoiler_11 jw_262 ?_
      exact J_iret (ty := .int) hR dX2_addBoiler_13 rfl rfl (Nat.le_of_ble_eq_true rfl) (Nat.le_of_ble_eq_true rfl) (jRes_f (by first | rfl | (simp only [fX2_addBoiler, if_neg h1, if_neg h2]; done) | (simp only [fX2_addBoiler, if_neg h1, if_neg h2]; rfl)))
def fX2_addInspector (I : jI) (o : Nat) (x : Int32) (y : Int32) : Int32 × jI :=
  if (fX6_isInsurer I x) = 0 then
    ((-2000000001), I)
  else
    if y < 1 then
      ((-2000000001), I)
    else
      if y ≤ 3 then
        if (I o 5) < 6 then
          match (fX2_inspectorAt (jset I o 5 ((I o 5) + 1)) o (I o 5)) with
          | none =>
            ((I o 5), (jset I o 5 ((I o 5) + 1)))
          | some b6 =>
            ((I o 5), (fX3_begin (jset I o 5 ((I o 5) + 1)) b6 x y))
        else
          ((-2000000003), I)
      else
        ((-2000000001), I)
set_option maxRecDepth 100000 in
set_option maxHeartbeats 4000000 in
theorem kX2_addInspector (S : jX) (I : jI) (o : Nat) (x : Int32) (y : Int32) (hH : jHouse S o) : jM (1, 0, 0) mX2_addInspector [.ref o, .int x, .int y] S I (jRes (some (.int (fX2_addInspector I o x y).1)) S (fX2_addInspector I o x y).2) := by
  refine jM.of (ls := [.ref o, .int x, .int y, .long 0, .long 0]) (by decide) (Nat.le_of_ble_eq_true rfl) (by intro v hv; simp only [List.mem_cons, List.not_mem_nil, or_false] at hv; rcases hv with rfl | rfl | rfl <;> rfl) rfl (fun G hR => ?_)
  refine J_iload_n dX2_addInspector_0 rfl ?_
  refine J_cS1r (mc := mX6_isInsurer) dX2_addInspector_1 mlX2_73 okX6_isInsurer (kX6_isInsurer S I x ) (Nat.le_of_ble_eq_true rfl) (Nat.le_of_ble_eq_true rfl) (Nat.le_of_ble_eq_true rfl) (Nat.le_of_ble_eq_true rfl) ?_
  refine J_if_eq (tgt := 17) dX2_addInspector_4 (by decide) (fun h1 => ?_) (fun h1 => ?_)
  · skip
    refine J_ldc (-2000000001) dX2_addInspector_17 jw_262 ?_
    exact J_iret (ty := .int) hR dX2_addInspector_19 rfl rfl (Nat.le_of_ble_eq_true rfl) (Nat.le_of_ble_eq_true rfl) (jRes_f (by first | rfl | (simp only [fX2_addInspector, if_pos h1]; done) | (simp only [fX2_addInspector, if_pos h1]; rfl)))
  · skip
    refine J_iload_n dX2_addInspector_7 rfl ?_
    refine J_iconst (1) dX2_addInspector_8 rfl ?_
    refine J_icmp_lt (tgt := 17) dX2_addInspector_9 (by decide) (fun h2 => ?_) (fun h2 => ?_)
    · skip
      refine J_ldc (-2000000001) dX2_addInspector_17 jw_262 ?_
      exact J_iret (ty := .int) hR dX2_addInspector_19 rfl rfl (Nat.le_of_ble_eq_true rfl) (Nat.le_of_ble_eq_true rfl) (jRes_f (by first | rfl | (simp only [fX2_addInspector, if_neg h1, if_pos h2]; done) | (simp only [fX2_addInspector, if_neg h1, if_pos h2]; rfl)))
    · skip
      refine J_iload_n dX2_addInspector_12 rfl ?_
      refine J_iconst (3) dX2_addInspector_13 rfl ?_
      refine J_icmp_le (tgt := 20) dX2_addInspector_14 (by decide) (fun h3 => ?_) (fun h3 => ?_)
      · skip
        refine J_aload_n dX2_addInspector_20 rfl rfl ?_
        refine J_getI dX2_addInspector_21 flX2_36 rfl hH.1 ?_
        refine J_bipush (6) dX2_addInspector_24 rfl ?_
        refine J_icmp_lt (tgt := 32) dX2_addInspector_26 (by decide) (fun h4 => ?_) (fun h4 => ?_)
        · skip
          refine J_aload_n dX2_addInspector_32 rfl rfl ?_
          refine J_getI dX2_addInspector_33 flX2_36 rfl hH.1 ?_
          refine J_istore_n dX2_addInspector_36 (Nat.le_of_ble_eq_true rfl) ?_
          refine J_aload_n dX2_addInspector_37 rfl rfl ?_
          refine J_dup dX2_addInspector_38 rfl ?_
          refine J_getI dX2_addInspector_39 flX2_36 rfl hH.1 ?_
          refine J_iconst (1) dX2_addInspector_42 rfl ?_
          refine J_iadd dX2_addInspector_43 ?_
          refine J_putI dX2_addInspector_44 flX2_36 rfl rfl rfl rfl hH.1 ?_
          refine J_aload_n dX2_addInspector_47 rfl rfl ?_
          refine J_iload_n dX2_addInspector_48 rfl ?_
          refine J_cV1r (mc := mX2_inspectorAt) hH.1 (by decide) rfl dX2_addInspector_49 mlX2_60 okX2_inspectorAt (kX2_inspectorAt S (jset I o 5 ((I o 5) + 1)) o (I o 5) hH) (Nat.le_of_ble_eq_true rfl) (Nat.le_of_ble_eq_true rfl) (Nat.le_of_ble_eq_true rfl) (Nat.le_of_ble_eq_true rfl) ?_
          rcases h5 : (fX2_inspectorAt (jset I o 5 ((I o 5) + 1)) o (I o 5)) with _ | b6
          · skip
            refine J_astore dX2_addInspector_52 (Nat.le_of_ble_eq_true rfl) rfl ?_
            refine J_aload dX2_addInspector_54 rfl rfl ?_
            refine J_ifnull_n (tgt := 66) dX2_addInspector_56 (by decide) ?_
            refine J_iload_n dX2_addInspector_66 rfl ?_
            exact J_iret (ty := .int) hR dX2_addInspector_67 rfl rfl (Nat.le_of_ble_eq_true rfl) (Nat.le_of_ble_eq_true rfl) (jRes_f (by first | rfl | (simp only [fX2_addInspector, if_neg h1, if_neg h2, if_pos h3, if_pos h4, h5]; done) | (simp only [fX2_addInspector, if_neg h1, if_neg h2, if_pos h3, if_pos h4, h5]; rfl)))
          · skip
            refine J_astore dX2_addInspector_52 (Nat.le_of_ble_eq_true rfl) rfl ?_
            refine J_aload dX2_addInspector_54 rfl rfl ?_
            refine J_ifnull_r dX2_addInspector_56 ?_
            refine J_aload dX2_addInspector_59 rfl rfl ?_
            refine J_iload_n dX2_addInspector_61 rfl ?_
            refine J_iload_n dX2_addInspector_62 rfl ?_
            refine J_cV2 (mc := mX3_begin) (kdInspectorAt hH h5) (by decide) rfl dX2_addInspector_63 mlX2_77 okX3_begin (kX3_begin S (jset I o 5 ((I o 5) + 1)) b6 x y (kdInspectorAt hH h5)) (Nat.le_of_ble_eq_true rfl) (Nat.le_of_ble_eq_true rfl) (Nat.le_of_ble_eq_true rfl) (Nat.le_of_ble_eq_true rfl) ?_
            refine J_iload_n dX2_addInspector_66 rfl ?_
            exact J_iret (ty := .int) hR dX2_addInspector_67 rfl rfl (Nat.le_of_ble_eq_true rfl) (Nat.le_of_ble_eq_true rfl) (jRes_f (by first | rfl | (simp only [fX2_addInspector, if_neg h1, if_neg h2, if_pos h3, if_pos h4, h5]; done) | (simp only [fX2_addInspector, if_neg h1, if_neg h2, if_pos h3, if_pos h4, h5]; rfl)))
        · skip
          refine J_ldc (-2000000003) dX2_addInspector_29 jw_263 ?_
          exact J_iret (ty := .int) hR dX2_addInspector_31 rfl rfl (Nat.le_of_ble_eq_true rfl) (Nat.le_of_ble_eq_true rfl) (jRes_f (by first | rfl | (simp only [fX2_addInspector, if_neg h1, if_neg h2, if_pos h3, if_neg h4]; done) | (simp only [fX2_addInspector, if_neg h1, if_neg h2, if_pos h3, if_neg h4]; rfl)))
      · skip
        refine J_ldc (-2000000001) dX2_addInspector_17 jw_262 ?_
        exact J_iret (ty := .int) hR dX2_addInspector_19 rfl rfl (Nat.le_of_ble_eq_true rfl) (Nat.le_of_ble_eq_true rfl) (jRes_f (by first | rfl | (simp only [fX2_addInspector, if_neg h1, if_neg h2, if_neg h3]; done) | (simp only [fX2_addInspector, if_neg h1, if_neg h2, if_neg h3]; rfl)))
def fX2_changePressure (I : jI) (o : Nat) (x : Int32) (y : Int32) : Int32 × jI :=
  match (fX2_boilerAt I o x) with
  | none =>
    ((-2000000001), I)
  | some b2 =>
    if y < 1 then
      ((-2000000001), I)
    else
      if y ≤ (I b2 0) then
        if (I b2 3) = 1 then
          if y ≤ (I b2 9) then
            ((I b2 1), (jset I b2 1 y))
          else
            ((-2000000002), I)
        else
          ((I b2 1), (jset I b2 1 y))
      else
        ((-2000000001), I)
set_option maxRecDepth 100000 in
set_option maxHeartbeats 4000000 in
theorem kX2_changePressure (S : jX) (I : jI) (o : Nat) (x : Int32) (y : Int32) (hH : jHouse S o) : jM (1, 0, 0) mX2_changePressure [.ref o, .int x, .int y] S I (jRes (some (.int (fX2_changePressure I o x y).1)) S (fX2_changePressure I o x y).2) := by
  refine jM.of (ls := [.ref o, .int x, .int y, .long 0, .long 0]) (by decide) (Nat.le_of_ble_eq_true rfl) (by intro v hv; simp only [List.mem_cons, List.not_mem_nil, or_false] at hv; rcases hv with rfl | rfl | rfl <;> rfl) rfl (fun G hR => ?_)
  refine J_aload_n dX2_changePressure_0 rfl rfl ?_
  refine J_iload_n dX2_changePressure_1 rfl ?_
  refine J_cV1r (mc := mX2_boilerAt) hH.1 (by decide) rfl dX2_changePressure_2 mlX2_52 okX2_boilerAt (kX2_boilerAt S I o x hH) (Nat.le_of_ble_eq_true rfl) (Nat.le_of_ble_eq_true rfl) (Nat.le_of_ble_eq_true rfl) (Nat.le_of_ble_eq_true rfl) ?_
  rcases h1 : (fX2_boilerAt I o x) with _ | b2
  · skip
    refine J_astore_n dX2_changePressure_5 (Nat.le_of_ble_eq_true rfl) rfl ?_
    refine J_aload_n dX2_changePressure_6 rfl rfl ?_
    refine J_ifnull_n (tgt := 23) dX2_changePressure_7 (by decide) ?_
    refine J_ldc (-2000000001) dX2_changePressure_23 jw_262 ?_
    exact J_iret (ty := .int) hR dX2_changePressure_25 rfl rfl (Nat.le_of_ble_eq_true rfl) (Nat.le_of_ble_eq_true rfl) (jRes_f (by first | rfl | (simp only [fX2_changePressure, h1]; done) | (simp only [fX2_changePressure, h1]; rfl)))
  · skip
    refine J_astore_n dX2_changePressure_5 (Nat.le_of_ble_eq_true rfl) rfl ?_
    refine J_aload_n dX2_changePressure_6 rfl rfl ?_
    refine J_ifnull_r dX2_changePressure_7 ?_
    refine J_iload_n dX2_changePressure_10 rfl ?_
    refine J_iconst (1) dX2_changePressure_11 rfl ?_
    refine J_icmp_lt (tgt := 23) dX2_changePressure_12 (by decide) (fun h3 => ?_) (fun h3 => ?_)
    · skip
      refine J_ldc (-2000000001) dX2_changePressure_23 jw_262 ?_
      exact J_iret (ty := .int) hR dX2_changePressure_25 rfl rfl (Nat.le_of_ble_eq_true rfl) (Nat.le_of_ble_eq_true rfl) (jRes_f (by first | rfl | (simp only [fX2_changePressure, h1, if_pos h3]; done) | (simp only [fX2_changePressure, h1, if_pos h3]; rfl)))
    · skip
      refine J_iload_n dX2_changePressure_15 rfl ?_
      refine J_aload_n dX2_changePressure_16 rfl rfl ?_
      refine J_getI dX2_changePressure_17 flX2_80 rfl (kdBoilerAt hH h1) ?_
      refine J_icmp_le (tgt := 26) dX2_changePressure_20 (by decide) (fun h4 => ?_) (fun h4 => ?_)
      · skip
        refine J_aload_n dX2_changePressure_26 rfl rfl ?_
        refine J_getI dX2_changePressure_27 flX2_83 rfl (kdBoilerAt hH h1) ?_
        refine J_iconst (1) dX2_changePressure_30 rfl ?_
        refine J_icmp_ne (tgt := 45) dX2_changePressure_31 (by decide) (fun h5 => ?_) (fun h5 => ?_)
        · skip
          refine J_aload_n dX2_changePressure_45 rfl rfl ?_
          refine J_getI dX2_changePressure_46 flX2_90 rfl (kdBoilerAt hH h1) ?_
          refine J_istore dX2_changePressure_49 (Nat.le_of_ble_eq_true rfl) ?_
          refine J_aload_n dX2_changePressure_51 rfl rfl ?_
          refine J_iload_n dX2_changePressure_52 rfl ?_
          refine J_putI dX2_changePressure_53 flX2_90 rfl rfl rfl rfl (kdBoilerAt hH h1) ?_
          refine J_iload dX2_changePressure_56 rfl ?_
          exact J_iret (ty := .int) hR dX2_changePressure_58 rfl rfl (Nat.le_of_ble_eq_true rfl) (Nat.le_of_ble_eq_true rfl) (jRes_f (by first | rfl | (simp only [fX2_changePressure, h1, if_neg h3, if_pos h4, if_neg h5]; done) | (simp only [fX2_changePressure, h1, if_neg h3, if_pos h4, if_neg h5]; rfl)))
        · skip
          refine J_iload_n dX2_changePressure_34 rfl ?_
          refine J_aload_n dX2_changePressure_35 rfl rfl ?_
          refine J_getI dX2_changePressure_36 flX2_86 rfl (kdBoilerAt hH h1) ?_
          refine J_icmp_le (tgt := 45) dX2_changePressure_39 (by decide) (fun h6 => ?_) (fun h6 => ?_)
          · skip
            refine J_aload_n dX2_changePressure_45 rfl rfl ?_
            refine J_getI dX2_changePressure_46 flX2_90 rfl (kdBoilerAt hH h1) ?_
            refine J_istore dX2_changePressure_49 (Nat.le_of_ble_eq_true rfl) ?_
            refine J_aload_n dX2_changePressure_51 rfl rfl ?_
            refine J_iload_n dX2_changePressure_52 rfl ?_
            refine J_putI dX2_changePressure_53 flX2_90 rfl rfl rfl rfl (kdBoilerAt hH h1) ?_
            refine J_iload dX2_changePressure_56 rfl ?_
            exact J_iret (ty := .int) hR dX2_changePressure_58 rfl rfl (Nat.le_of_ble_eq_true rfl) (Nat.le_of_ble_eq_true rfl) (jRes_f (by first | rfl | (simp only [fX2_changePressure, h1, if_neg h3, if_pos h4, if_pos h5, if_pos h6]; done) | (simp only [fX2_changePressure, h1, if_neg h3, if_pos h4, if_pos h5, if_pos h6]; rfl)))
          · skip
            refine J_ldc (-2000000002) dX2_changePressure_42 jw_311 ?_
            exact J_iret (ty := .int) hR dX2_changePressure_44 rfl rfl (Nat.le_of_ble_eq_true rfl) (Nat.le_of_ble_eq_true rfl) (jRes_f (by first | rfl | (simp only [fX2_changePressure, h1, if_neg h3, if_pos h4, if_pos h5, if_neg h6]; done) | (simp only [fX2_changePressure, h1, if_neg h3, if_pos h4, if_pos h5, if_neg h6]; rfl)))
      · skip
        refine J_ldc (-2000000001) dX2_changePressure_23 jw_262 ?_
        exact J_iret (ty := .int) hR dX2_changePressure_25 rfl rfl (Nat.le_of_ble_eq_true rfl) (Nat.le_of_ble_eq_true rfl) (jRes_f (by first | rfl | (simp only [fX2_changePressure, h1, if_neg h3, if_neg h4]; done) | (simp only [fX2_changePressure, h1, if_neg h3, if_neg h4]; rfl)))
def fX2_examine (I : jI) (o : Nat) (x : Int32) (y : Int32) : Int32 × jI :=
  match (fX2_boilerAt I o x) with
  | none =>
    match (fX2_inspectorAt I o y) with
    | none =>
      ((-2000000001), I)
    | some b4 =>
      ((-2000000001), I)
  | some b2 =>
    match (fX2_inspectorAt I o y) with
    | none =>
      ((-2000000001), I)
    | some b6 =>
      if (fX0_whyNotInspectedBy I b2 b6) = 0 then
        if (fX2_pressureOffered I o b2 (I b6 0)) ≤ 0 then
          ((fX2_pressureOffered I o b2 (I b6 0)), (fX2_ownerPays (fX3_noteInspection (fX0_refusePaper I b2) b6 0) o ((fX3_noteInspection (fX0_refusePaper I b2) b6 0) b6 0) (fX2_settingAt (fX3_noteInspection (fX0_refusePaper I b2) b6 0) o 2)))
        else
          ((fX2_pressureOffered I o b2 (I b6 0)), (fX2_ownerPays (fX3_noteInspection (fX0_takePaper I b2 (I b6 0) (fX2_pressureOffered I o b2 (I b6 0)) (fX2_lastWeekOffered I o b2 (I b6 0))) b6 1) o ((fX3_noteInspection (fX0_takePaper I b2 (I b6 0) (fX2_pressureOffered I o b2 (I b6 0)) (fX2_lastWeekOffered I o b2 (I b6 0))) b6 1) b6 0) (fX2_settingAt (fX3_noteInspection (fX0_takePaper I b2 (I b6 0) (fX2_pressureOffered I o b2 (I b6 0)) (fX2_lastWeekOffered I o b2 (I b6 0))) b6 1) o 2)))
      else
        ((-2000000002), I)
set_option maxRecDepth 100000 in
set_option maxHeartbeats 4000000 in
theorem kX2_examine (S : jX) (I : jI) (o : Nat) (x : Int32) (y : Int32) (hH : jHouse S o) : jM (2, 0, 0) mX2_examine [.ref o, .int x, .int y] S I (jRes (some (.int (fX2_examine I o x y).1)) S (fX2_examine I o x y).2) := by
  refine jM.of (ls := [.ref o, .int x, .int y, .long 0, .long 0, .long 0, .long 0]) (by decide) (Nat.le_of_ble_eq_true rfl) (by intro v hv; simp only [List.mem_cons, List.not_mem_nil, or_false] at hv; rcases hv with rfl | rfl | rfl <;> rfl) rfl (fun G hR => ?_)
  refine J_aload_n dX2_examine_0 rfl rfl ?_
  refine J_iload_n dX2_examine_1 rfl ?_
  refine J_cV1r (mc := mX2_boilerAt) hH.1 (by decide) rfl dX2_examine_2 mlX2_52 okX2_boilerAt (kX2_boilerAt S I o x hH) (Nat.le_of_ble_eq_true rfl) (Nat.le_of_ble_eq_true rfl) (Nat.le_of_ble_eq_true rfl) (Nat.le_of_ble_eq_true rfl) ?_
  rcases h1 : (fX2_boilerAt I o x) with _ | b2
  · skip
    refine J_astore_n dX2_examine_5 (Nat.le_of_ble_eq_true rfl) rfl ?_
    refine J_aload_n dX2_examine_6 rfl rfl ?_
    refine J_iload_n dX2_examine_7 rfl ?_
    refine J_cV1r (mc := mX2_inspectorAt) hH.1 (by decide) rfl dX2_examine_8 mlX2_60 okX2_inspectorAt (kX2_inspectorAt S I o y hH) (Nat.le_of_ble_eq_true rfl) (Nat.le_of_ble_eq_true rfl) (Nat.le_of_ble_eq_true rfl) (Nat.le_of_ble_eq_true rfl) ?_
    rcases h3 : (fX2_inspectorAt I o y) with _ | b4
    · skip
      refine J_astore dX2_examine_11 (Nat.le_of_ble_eq_true rfl) rfl ?_
      refine J_aload_n dX2_examine_13 rfl rfl ?_
      refine J_ifnull_n (tgt := 22) dX2_examine_14 (by decide) ?_
      refine J_ldc (-2000000001) dX2_examine_22 jw_262 ?_
      exact J_iret (ty := .int) hR dX2_examine_24 rfl rfl (Nat.le_of_ble_eq_true rfl) (Nat.le_of_ble_eq_true rfl) (jRes_f (by first | rfl | (simp only [fX2_examine, h1, h3]; done) | (simp only [fX2_examine, h1, h3]; rfl)))
    · skip
      refine J_astore dX2_examine_11 (Nat.le_of_ble_eq_true rfl) rfl ?_
      refine J_aload_n dX2_examine_13 rfl rfl ?_
      refine J_ifnull_n (tgt := 22) dX2_examine_14 (by decide) ?_
      refine J_ldc (-2000000001) dX2_examine_22 jw_262 ?_
      exact J_iret (ty := .int) hR dX2_examine_24 rfl rfl (Nat.le_of_ble_eq_true rfl) (Nat.le_of_ble_eq_true rfl) (jRes_f (by first | rfl | (simp only [fX2_examine, h1, h3]; done) | (simp only [fX2_examine, h1, h3]; rfl)))
  · skip
    refine J_astore_n dX2_examine_5 (Nat.le_of_ble_eq_true rfl) rfl ?_
    refine J_aload_n dX2_examine_6 rfl rfl ?_
    refine J_iload_n dX2_examine_7 rfl ?_
    refine J_cV1r (mc := mX2_inspectorAt) hH.1 (by decide) rfl dX2_examine_8 mlX2_60 okX2_inspectorAt (kX2_inspectorAt S I o y hH) (Nat.le_of_ble_eq_true rfl) (Nat.le_of_ble_eq_true rfl) (Nat.le_of_ble_eq_true rfl) (Nat.le_of_ble_eq_true rfl) ?_
    rcases h5 : (fX2_inspectorAt I o y) with _ | b6
    · skip
      refine J_astore dX2_examine_11 (Nat.le_of_ble_eq_true rfl) rfl ?_
      refine J_aload_n dX2_examine_13 rfl rfl ?_
      refine J_ifnull_r dX2_examine_14 ?_
      refine J_aload dX2_examine_17 rfl rfl ?_
      refine J_ifnonnull_n dX2_examine_19 ?_
      refine J_ldc (-2000000001) dX2_examine_22 jw_262 ?_
      exact J_iret (ty := .int) hR dX2_examine_24 rfl rfl (Nat.le_of_ble_eq_true rfl) (Nat.le_of_ble_eq_true rfl) (jRes_f (by first | rfl | (simp only [fX2_examine, h1, h5]; done) | (simp only [fX2_examine, h1, h5]; rfl)))
    · skip
      refine J_astore dX2_examine_11 (Nat.le_of_ble_eq_true rfl) rfl ?_
      refine J_aload_n dX2_examine_13 rfl rfl ?_
      refine J_ifnull_r dX2_examine_14 ?_
      refine J_aload dX2_examine_17 rfl rfl ?_
      refine J_ifnonnull_r (tgt := 25) dX2_examine_19 (by decide) ?_
      refine J_aload_n dX2_examine_25 rfl rfl ?_
      refine J_aload dX2_examine_26 rfl rfl ?_
      refine J_cV1r (mc := mX0_whyNotInspectedBy) (kdBoilerAt hH h1) (by decide) rfl dX2_examine_28 mlX2_93 okX0_whyNotInspectedBy (kX0_whyNotInspectedBy S I b2 b6 (kdBoilerAt hH h1) (kdInspectorAt hH h5)) (Nat.le_of_ble_eq_true rfl) (Nat.le_of_ble_eq_true rfl) (Nat.le_of_ble_eq_true rfl) (Nat.le_of_ble_eq_true rfl) ?_
      refine J_if_eq (tgt := 37) dX2_examine_31 (by decide) (fun h7 => ?_) (fun h7 => ?_)
      · skip
        refine J_aload_n dX2_examine_37 rfl rfl ?_
        refine J_aload_n dX2_examine_38 rfl rfl ?_
        refine J_aload dX2_examine_39 rfl rfl ?_
        refine J_getI dX2_examine_41 flX2_97 rfl (kdInspectorAt hH h5) ?_
        refine J_cV2r (mc := mX2_pressureOffered) hH.1 (by decide) rfl dX2_examine_44 mlX2_100 okX2_pressureOffered (kX2_pressureOffered S I o b2 (I b6 0) hH (kdBoilerAt hH h1)) (Nat.le_of_ble_eq_true rfl) (Nat.le_of_ble_eq_true rfl) (Nat.le_of_ble_eq_true rfl) (Nat.le_of_ble_eq_true rfl) ?_
        refine J_istore dX2_examine_47 (Nat.le_of_ble_eq_true rfl) ?_
        refine J_iload dX2_examine_49 rfl ?_
        refine J_if_le (tgt := 82) dX2_examine_51 (by decide) (fun h8 => ?_) (fun h8 => ?_)
        · skip
          refine J_aload_n dX2_examine_82 rfl rfl ?_
          refine J_cV0 (mc := mX0_refusePaper) (kdBoilerAt hH h1) (by decide) rfl dX2_examine_83 mlX2_111 okX0_refusePaper (kX0_refusePaper S I b2 (kdBoilerAt hH h1)) (Nat.le_of_ble_eq_true rfl) (Nat.le_of_ble_eq_true rfl) (Nat.le_of_ble_eq_true rfl) (Nat.le_of_ble_eq_true rfl) ?_
          refine J_aload dX2_examine_86 rfl rfl ?_
          refine J_iload dX2_examine_88 rfl ?_
          refine J_if_le (tgt := 97) dX2_examine_90 (by decide) (fun h9 => ?_) (fun h9 => ?_)
          · skip
            refine J_iconst (0) dX2_examine_97 rfl ?_
            refine J_cV1 (mc := mX3_noteInspection) (kdInspectorAt hH h5) (by decide) rfl dX2_examine_98 mlX2_114 okX3_noteInspection (kX3_noteInspection S (fX0_refusePaper I b2) b6 0 (kdInspectorAt hH h5)) (Nat.le_of_ble_eq_true rfl) (Nat.le_of_ble_eq_true rfl) (Nat.le_of_ble_eq_true rfl) (Nat.le_of_ble_eq_true rfl) ?_
            refine J_aload_n dX2_examine_101 rfl rfl ?_
            refine J_aload dX2_examine_102 rfl rfl ?_
            refine J_getI dX2_examine_104 flX2_97 rfl (kdInspectorAt hH h5) ?_
            refine J_aload_n dX2_examine_107 rfl rfl ?_
            refine J_iconst (2) dX2_examine_108 rfl ?_
            refine J_cV1r (mc := mX2_settingAt) hH.1 (by decide) rfl dX2_examine_109 mlX2_118 okX2_settingAt (kX2_settingAt S (fX3_noteInspection (fX0_refusePaper I b2) b6 0) o 2 hH) (Nat.le_of_ble_eq_true rfl) (Nat.le_of_ble_eq_true rfl) (Nat.le_of_ble_eq_true rfl) (Nat.le_of_ble_eq_true rfl) ?_
            refine J_cV2 (mc := mX2_ownerPays) hH.1 (by decide) rfl dX2_examine_112 mlX2_122 okX2_ownerPays (kX2_ownerPays S (fX3_noteInspection (fX0_refusePaper I b2) b6 0) o ((fX3_noteInspection (fX0_refusePaper I b2) b6 0) b6 0) (fX2_settingAt (fX3_noteInspection (fX0_refusePaper I b2) b6 0) o 2) hH) (Nat.le_of_ble_eq_true rfl) (Nat.le_of_ble_eq_true rfl) (Nat.le_of_ble_eq_true rfl) (Nat.le_of_ble_eq_true rfl) ?_
            refine J_iload dX2_examine_115 rfl ?_
            exact J_iret (ty := .int) hR dX2_examine_117 rfl rfl (Nat.le_of_ble_eq_true rfl) (Nat.le_of_ble_eq_true rfl) (jRes_f (by first | rfl | (simp only [fX2_examine, h1, h5, if_pos h7, if_pos h8]; done) | (simp only [fX2_examine, h1, h5, if_pos h7, if_pos h8]; rfl)))
          · skip
            exact absurd h8 h9
        · skip
          refine J_aload_n dX2_examine_54 rfl rfl ?_
          refine J_aload_n dX2_examine_55 rfl rfl ?_
          refine J_aload dX2_examine_56 rfl rfl ?_
          refine J_getI dX2_examine_58 flX2_97 rfl (kdInspectorAt hH h5) ?_
          refine J_cV2r (mc := mX2_lastWeekOffered) hH.1 (by decide) rfl dX2_examine_61 mlX2_104 okX2_lastWeekOffered (kX2_lastWeekOffered S I o b2 (I b6 0) hH (kdBoilerAt hH h1)) (Nat.le_of_ble_eq_true rfl) (Nat.le_of_ble_eq_true rfl) (Nat.le_of_ble_eq_true rfl) (Nat.le_of_ble_eq_true rfl) ?_
          refine J_istore dX2_examine_64 (Nat.le_of_ble_eq_true rfl) ?_
          refine J_aload_n dX2_examine_66 rfl rfl ?_
          refine J_aload dX2_examine_67 rfl rfl ?_
          refine J_getI dX2_examine_69 flX2_97 rfl (kdInspectorAt hH h5) ?_
          refine J_iload dX2_examine_72 rfl ?_
          refine J_iload dX2_examine_74 rfl ?_
          refine J_cV3 (mc := mX0_takePaper) (kdBoilerAt hH h1) (by decide) rfl dX2_examine_76 mlX2_107 okX0_takePaper (kX0_takePaper S I b2 (I b6 0) (fX2_pressureOffered I o b2 (I b6 0)) (fX2_lastWeekOffered I o b2 (I b6 0)) (kdBoilerAt hH h1)) (Nat.le_of_ble_eq_true rfl) (Nat.le_of_ble_eq_true rfl) (Nat.le_of_ble_eq_true rfl) (Nat.le_of_ble_eq_true rfl) ?_
          refine J_goto (tgt := 86) dX2_examine_79 (by decide) ?_
          refine J_aload dX2_examine_86 rfl rfl ?_
          refine J_iload dX2_examine_88 rfl ?_
          refine J_if_le (tgt := 97) dX2_examine_90 (by decide) (fun h10 => ?_) (fun h10 => ?_)
          · skip
            exact absurd h10 h8
          · skip
            refine J_iconst (1) dX2_examine_93 rfl ?_
            refine J_goto (tgt := 98) dX2_examine_94 (by decide) ?_
            refine J_cV1 (mc := mX3_noteInspection) (kdInspectorAt hH h5) (by decide) rfl dX2_examine_98 mlX2_114 okX3_noteInspection (kX3_noteInspection S (fX0_takePaper I b2 (I b6 0) (fX2_pressureOffered I o b2 (I b6 0)) (fX2_lastWeekOffered I o b2 (I b6 0))) b6 1 (kdInspectorAt hH h5)) (Nat.le_of_ble_eq_true rfl) (Nat.le_of_ble_eq_true rfl) (Nat.le_of_ble_eq_true rfl) (Nat.le_of_ble_eq_true rfl) ?_
            refine J_aload_n dX2_examine_101 rfl rfl ?_
            refine J_aload dX2_examine_102 rfl rfl ?_
            refine J_getI dX2_examine_104 flX2_97 rfl (kdInspectorAt hH h5) ?_
            refine J_aload_n dX2_examine_107 rfl rfl ?_
            refine J_iconst (2) dX2_examine_108 rfl ?_
            refine J_cV1r (mc := mX2_settingAt) hH.1 (by decide) rfl dX2_examine_109 mlX2_118 okX2_settingAt (kX2_settingAt S (fX3_noteInspection (fX0_takePaper I b2 (I b6 0) (fX2_pressureOffered I o b2 (I b6 0)) (fX2_lastWeekOffered I o b2 (I b6 0))) b6 1) o 2 hH) (Nat.le_of_ble_eq_true rfl) (Nat.le_of_ble_eq_true rfl) (Nat.le_of_ble_eq_true rfl) (Nat.le_of_ble_eq_true rfl) ?_
            refine J_cV2 (mc := mX2_ownerPays) hH.1 (by decide) rfl dX2_examine_112 mlX2_122 okX2_ownerPays (kX2_ownerPays S (fX3_noteInspection (fX0_takePaper I b2 (I b6 0) (fX2_pressureOffered I o b2 (I b6 0)) (fX2_lastWeekOffered I o b2 (I b6 0))) b6 1) o ((fX3_noteInspection (fX0_takePaper I b2 (I b6 0) (fX2_pressureOffered I o b2 (I b6 0)) (fX2_lastWeekOffered I o b2 (I b6 0))) b6 1) b6 0) (fX2_settingAt (fX3_noteInspection (fX0_takePaper I b2 (I b6 0) (fX2_pressureOffered I o b2 (I b6 0)) (fX2_lastWeekOffered I o b2 (I b6 0))) b6 1) o 2) hH) (Nat.le_of_ble_eq_true rfl) (Nat.le_of_ble_eq_true rfl) (Nat.le_of_ble_eq_true rfl) (Nat.le_of_ble_eq_true rfl) ?_
            refine J_iload dX2_examine_115 rfl ?_
            exact J_iret (ty := .int) hR dX2_examine_117 rfl rfl (Nat.le_of_ble_eq_true rfl) (Nat.le_of_ble_eq_true rfl) (jRes_f (by first | rfl | (simp only [fX2_examine, h1, h5, if_pos h7, if_neg h8]; done) | (simp only [fX2_examine, h1, h5, if_pos h7, if_neg h8]; rfl)))
      · skip
        refine J_ldc (-2000000002) dX2_examine_34 jw_311 ?_
        exact J_iret (ty := .int) hR dX2_examine_36 rfl rfl (Nat.le_of_ble_eq_true rfl) (Nat.le_of_ble_eq_true rfl) (jRes_f (by first | rfl | (simp only [fX2_examine, h1, h5, if_neg h7]; done) | (simp only [fX2_examine, h1, h5, if_neg h7]; rfl)))
def fX2_light (I : jI) (o : Nat) (x : Int32) : Int32 × jI :=
  match (fX2_boilerAt I o x) with
  | none =>
    ((-2000000001), I)
  | some b2 =>
    if (fX0_whyNotFiredIn I b2 (I o 6)) = 0 then
      (((((jset I b2 3 1) b2 10) - ((jset I b2 3 1) o 6)) + 1), (jset I b2 3 1))
    else
      ((-2000000002), I)
set_option maxRecDepth 100000 in
set_option maxHeartbeats 4000000 in
theorem kX2_light (S : jX) (I : jI) (o : Nat) (x : Int32) (hH : jHouse S o) : jM (2, 0, 0) mX2_light [.ref o, .int x] S I (jRes (some (.int (fX2_light I o x).1)) S (fX2_light I o x).2) := by
  refine jM.of (ls := [.ref o, .int x, .long 0]) (by decide) (Nat.le_of_ble_eq_true rfl) (by intro v hv; simp only [List.mem_cons, List.not_mem_nil, or_false] at hv; rcases hv with rfl | rfl <;> rfl) rfl (fun G hR => ?_)
  refine J_aload_n dX2_light_0 rfl rfl ?_
  refine J_iload_n dX2_light_1 rfl ?_
  refine J_cV1r (mc := mX2_boilerAt) hH.1 (by decide) rfl dX2_light_2 mlX2_52 okX2_boilerAt (kX2_boilerAt S I o x hH) (Nat.le_of_ble_eq_true rfl) (Nat.le_of_ble_eq_true rfl) (Nat.le_of_ble_eq_true rfl) (Nat.le_of_ble_eq_true rfl) ?_
  rcases h1 : (fX2_boilerAt I o x) with _ | b2
  · skip
    refine J_astore_n dX2_light_5 (Nat.le_of_ble_eq_true rfl) rfl ?_
    refine J_aload_n dX2_light_6 rfl rfl ?_
    refine J_ifnonnull_n dX2_light_7 ?_
    refine J_ldc (-2000000001) dX2_light_10 jw_262 ?_
    exact J_iret (ty := .int) hR dX2_light_12 rfl rfl (Nat.le_of_ble_eq_true rfl) (Nat.le_of_ble_eq_true rfl) (jRes_f (by first | rfl | (simp only [fX2_light, h1]; done) | (simp only [fX2_light, h1]; rfl)))
  · skip
    refine J_astore_n dX2_light_5 (Nat.le_of_ble_eq_true rfl) rfl ?_
    refine J_aload_n dX2_light_6 rfl rfl ?_
    refine J_ifnonnull_r (tgt := 13) dX2_light_7 (by decide) ?_
    refine J_aload_n dX2_light_13 rfl rfl ?_
    refine J_aload_n dX2_light_14 rfl rfl ?_
    refine J_getI dX2_light_15 flX2_39 rfl hH.1 ?_
    refine J_cV1r (mc := mX0_whyNotFiredIn) (kdBoilerAt hH h1) (by decide) rfl dX2_light_18 mlX2_125 okX0_whyNotFiredIn (kX0_whyNotFiredIn S I b2 (I o 6) (kdBoilerAt hH h1)) (Nat.le_of_ble_eq_true rfl) (Nat.le_of_ble_eq_true rfl) (Nat.le_of_ble_eq_true rfl) (Nat.le_of_ble_eq_true rfl) ?_
    refine J_if_eq (tgt := 27) dX2_light_21 (by decide) (fun h3 => ?_) (fun h3 => ?_)
    · skip
      refine J_aload_n dX2_light_27 rfl rfl ?_
      refine J_iconst (1) dX2_light_28 rfl ?_
      refine J_putI dX2_light_29 flX2_83 rfl rfl rfl rfl (kdBoilerAt hH h1) ?_
      refine J_aload_n dX2_light_32 rfl rfl ?_
      refine J_getI dX2_light_33 flX2_128 rfl (kdBoilerAt hH h1) ?_
      refine J_aload_n dX2_light_36 rfl rfl ?_
      refine J_getI dX2_light_37 flX2_39 rfl hH.1 ?_
      refine J_isub dX2_light_40 ?_
      refine J_iconst (1) dX2_light_41 rfl ?_
      refine J_iadd dX2_light_42 ?_
      exact J_iret (ty := .int) hR dX2_light_43 rfl rfl (Nat.le_of_ble_eq_true rfl) (Nat.le_of_ble_eq_true rfl) (jRes_f (by first | rfl | (simp only [fX2_light, h1, if_pos h3]; done) | (simp only [fX2_light, h1, if_pos h3]; rfl)))
    · skip
      refine J_ldc (-2000000002) dX2_light_24 jw_311 ?_
      exact J_iret (ty := .int) hR dX2_light_26 rfl rfl (Nat.le_of_ble_eq_true rfl) (Nat.le_of_ble_eq_true rfl) (jRes_f (by first | rfl | (simp only [fX2_light, h1, if_neg h3]; done) | (simp only [fX2_light, h1, if_neg h3]; rfl)))
def fX2_putOut (I : jI) (o : Nat) (x : Int32) : Int32 × jI :=
  match (fX2_boilerAt I o x) with
  | none =>
    ((-2000000001), I)
  | some b2 =>
    if (I b2 3) = 1 then
      (((fX0_becomeCold I b2) b2 2), (fX0_becomeCold I b2))
    else
      ((-2000000002), I)
set_option maxRecDepth 100000 in
set_option maxHeartbeats 4000000 in
theorem kX2_putOut (S : jX) (I : jI) (o : Nat) (x : Int32) (hH : jHouse S o) : jM (1, 0, 0) mX2_putOut [.ref o, .int x] S I (jRes (some (.int (fX2_putOut I o x).1)) S (fX2_putOut I o x).2) := by
  refine jM.of (ls := [.ref o, .int x, .long 0]) (by decide) (Nat.le_of_ble_eq_true rfl) (by intro v hv; simp only [List.mem_cons, List.not_mem_nil, or_false] at hv; rcases hv with rfl | rfl <;> rfl) rfl (fun G hR => ?_)
  refine J_aload_n dX2_putOut_0 rfl rfl ?_
  refine J_iload_n dX2_putOut_1 rfl ?_
  refine J_cV1r (mc := mX2_boilerAt) hH.1 (by decide) rfl dX2_putOut_2 mlX2_52 okX2_boilerAt (kX2_boilerAt S I o x hH) (Nat.le_of_ble_eq_true rfl) (Nat.le_of_ble_eq_true rfl) (Nat.le_of_ble_eq_true rfl) (Nat.le_of_ble_eq_true rfl) ?_
  rcases h1 : (fX2_boilerAt I o x) with _ | b2
  · skip
    refine J_astore_n dX2_putOut_5 (Nat.le_of_ble_eq_true rfl) rfl ?_
    refine J_aload_n dX2_putOut_6 rfl rfl ?_
    refine J_ifnonnull_n dX2_putOut_7 ?_
    refine J_ldc (-2000000001) dX2_putOut_10 jw_262 ?_
    exact J_iret (ty := .int) hR dX2_putOut_12 rfl rfl (Nat.le_of_ble_eq_true rfl) (Nat.le_of_ble_eq_true rfl) (jRes_f (by first | rfl | (simp only [fX2_putOut, h1]; done) | (simp only [fX2_putOut, h1]; rfl)))
  · skip
    refine J_astore_n dX2_putOut_5 (Nat.le_of_ble_eq_true rfl) rfl ?_
    refine J_aload_n dX2_putOut_6 rfl rfl ?_
    refine J_ifnonnull_r (tgt := 13) dX2_putOut_7 (by decide) ?_
    refine J_aload_n dX2_putOut_13 rfl rfl ?_
    refine J_getI dX2_putOut_14 flX2_83 rfl (kdBoilerAt hH h1) ?_
    refine J_iconst (1) dX2_putOut_17 rfl ?_
    refine J_icmp_eq (tgt := 24) dX2_putOut_18 (by decide) (fun h3 => ?_) (fun h3 => ?_)
    · skip
      refine J_aload_n dX2_putOut_24 rfl rfl ?_
      refine J_cV0 (mc := mX0_becomeCold) (kdBoilerAt hH h1) (by decide) rfl dX2_putOut_25 mlX2_131 okX0_becomeCold (kX0_becomeCold S I b2 (kdBoilerAt hH h1)) (Nat.le_of_ble_eq_true rfl) (Nat.le_of_ble_eq_true rfl) (Nat.le_of_ble_eq_true rfl) (Nat.le_of_ble_eq_true rfl) ?_
      refine J_aload_n dX2_putOut_28 rfl rfl ?_
      refine J_getI dX2_putOut_29 flX2_134 rfl (kdBoilerAt hH h1) ?_
      exact J_iret (ty := .int) hR dX2_putOut_32 rfl rfl (Nat.le_of_ble_eq_true rfl) (Nat.le_of_ble_eq_true rfl) (jRes_f (by first | rfl | (simp only [fX2_putOut, h1, if_pos h3]; done) | (simp only [fX2_putOut, h1, if_pos h3]; rfl)))
    · skip
      refine J_ldc (-2000000002) dX2_putOut_21 jw_311 ?_
      exact J_iret (ty := .int) hR dX2_putOut_23 rfl rfl (Nat.le_of_ble_eq_true rfl) (Nat.le_of_ble_eq_true rfl) (jRes_f (by first | rfl | (simp only [fX2_putOut, h1, if_neg h3]; done) | (simp only [fX2_putOut, h1, if_neg h3]; rfl)))
def fX2_planShutdown (I : jI) (o : Nat) (x : Int32) (y : Int32) (z : Int32) : Int32 × jI :=
  match (fX2_boilerAt I o x) with
  | none =>
    ((-2000000001), I)
  | some b2 =>
    if y < (I o 6) then
      ((-2000000001), I)
    else
      if y ≤ 9999 then
        if z < 1 then
          ((-2000000001), I)
        else
          if z ≤ 20 then
            if y = (I o 6) then
              if (I b2 3) = 1 then
                ((-2000000002), I)
              else
                (((jset (jset (jset I b2 11 1) b2 12 y) b2 13 ((y + z) - 1)) b2 13), (jset (jset (jset I b2 11 1) b2 12 y) b2 13 ((y + z) - 1)))
            else
              (((jset (jset (jset I b2 11 1) b2 12 y) b2 13 ((y + z) - 1)) b2 13), (jset (jset (jset I b2 11 1) b2 12 y) b2 13 ((y + z) - 1)))
          else
            ((-2000000001), I)
      else
        ((-2000000001), I)
set_option maxRecDepth 100000 in
set_option maxHeartbeats 4000000 in
theorem kX2_planShutdown (S : jX) (I : jI) (o : Nat) (x : Int32) (y : Int32) (z : Int32) (hH : jHouse S o) : jM (1, 0, 0) mX2_planShutdown [.ref o, .int x, .int y, .int z] S I (jRes (some (.int (fX2_planShutdown I o x y z).1)) S (fX2_planShutdown I o x y z).2) := by
  refine jM.of (ls := [.ref o, .int x, .int y, .int z, .long 0]) (by decide) (Nat.le_of_ble_eq_true rfl) (by intro v hv; simp only [List.mem_cons, List.not_mem_nil, or_false] at hv; rcases hv with rfl | rfl | rfl | rfl <;> rfl) rfl (fun G hR => ?_)
  refine J_aload_n dX2_planShutdown_0 rfl rfl ?_
  refine J_iload_n dX2_planShutdown_1 rfl ?_
  refine J_cV1r (mc := mX2_boilerAt) hH.1 (by decide) rfl dX2_planShutdown_2 mlX2_52 okX2_boilerAt (kX2_boilerAt S I o x hH) (Nat.le_of_ble_eq_true rfl) (Nat.le_of_ble_eq_true rfl) (Nat.le_of_ble_eq_true rfl) (Nat.le_of_ble_eq_true rfl) ?_
  rcases h1 : (fX2_boilerAt I o x) with _ | b2
  · skip
    refine J_astore dX2_planShutdown_5 (Nat.le_of_ble_eq_true rfl) rfl ?_
    refine J_aload dX2_planShutdown_7 rfl rfl ?_
    refine J_ifnull_n (tgt := 27) dX2_planShutdown_9 (by decide) ?_
    refine J_ldc (-2000000001) dX2_planShutdown_27 jw_262 ?_
    exact J_iret (ty := .int) hR dX2_planShutdown_29 rfl rfl (Nat.le_of_ble_eq_true rfl) (Nat.le_of_ble_eq_true rfl) (jRes_f (by first | rfl | (simp only [fX2_planShutdown, h1]; done) | (simp only [fX2_planShutdown, h1]; rfl)))
  · skip
    refine J_astore dX2_planShutdown_5 (Nat.le_of_ble_eq_true rfl) rfl ?_
    refine J_aload dX2_planShutdown_7 rfl rfl ?_
    refine J_ifnull_r dX2_planShutdown_9 ?_
    refine J_iload_n dX2_planShutdown_12 rfl ?_
    refine J_aload_n dX2_planShutdown_13 rfl rfl ?_
    refine J_getI dX2_planShutdown_14 flX2_39 rfl hH.1 ?_
    refine J_icmp_lt (tgt := 27) dX2_planShutdown_17 (by decide) (fun h3 => ?_) (fun h3 => ?_)
    · skip
      refine J_ldc (-2000000001) dX2_planShutdown_27 jw_262 ?_
      exact J_iret (ty := .int) hR dX2_planShutdown_29 rfl rfl (Nat.le_of_ble_eq_true rfl) (Nat.le_of_ble_eq_true rfl) (jRes_f (by first | rfl | (simp only [fX2_planShutdown, h1, if_pos h3]; done) | (simp only [fX2_planShutdown, h1, if_pos h3]; rfl)))
    · skip
      refine J_iload_n dX2_planShutdown_20 rfl ?_
      refine J_sipush (9999) dX2_planShutdown_21 rfl ?_
      refine J_icmp_le (tgt := 30) dX2_planShutdown_24 (by decide) (fun h4 => ?_) (fun h4 => ?_)
      · skip
        refine J_iload_n dX2_planShutdown_30 rfl ?_
        refine J_iconst (1) dX2_planShutdown_31 rfl ?_
        refine J_icmp_lt (tgt := 41) dX2_planShutdown_32 (by decide) (fun h5 => ?_) (fun h5 => ?_)
        · skip
          refine J_ldc (-2000000001) dX2_planShutdown_41 jw_262 ?_
          exact J_iret (ty := .int) hR dX2_planShutdown_43 rfl rfl (Nat.le_of_ble_eq_true rfl) (Nat.le_of_ble_eq_true rfl) (jRes_f (by first | rfl | (simp only [fX2_planShutdown, h1, if_neg h3, if_pos h4, if_pos h5]; done) | (simp only [fX2_planShutdown, h1, if_neg h3, if_pos h4, if_pos h5]; rfl)))
        · skip
          refine J_iload_n dX2_planShutdown_35 rfl ?_
          refine J_bipush (20) dX2_planShutdown_36 rfl ?_
          refine J_icmp_le (tgt := 44) dX2_planShutdown_38 (by decide) (fun h6 => ?_) (fun h6 => ?_)
          · skip
            refine J_iload_n dX2_planShutdown_44 rfl ?_
            refine J_aload_n dX2_planShutdown_45 rfl rfl ?_
            refine J_getI dX2_planShutdown_46 flX2_39 rfl hH.1 ?_
            refine J_icmp_ne (tgt := 64) dX2_planShutdown_49 (by decide) (fun h7 => ?_) (fun h7 => ?_)
            · skip
              refine J_aload dX2_planShutdown_64 rfl rfl ?_
              refine J_iconst (1) dX2_planShutdown_66 rfl ?_
              refine J_putI dX2_planShutdown_67 flX2_137 rfl rfl rfl rfl (kdBoilerAt hH h1) ?_
              refine J_aload dX2_planShutdown_70 rfl rfl ?_
              refine J_iload_n dX2_planShutdown_72 rfl ?_
              refine J_putI dX2_planShutdown_73 flX2_141 rfl rfl rfl rfl (kdBoilerAt hH h1) ?_
              refine J_aload dX2_planShutdown_76 rfl rfl ?_
              refine J_iload_n dX2_planShutdown_78 rfl ?_
              refine J_iload_n dX2_planShutdown_79 rfl ?_
              refine J_iadd dX2_planShutdown_80 ?_
              refine J_iconst (1) dX2_planShutdown_81 rfl ?_
              refine J_isub dX2_planShutdown_82 ?_
              refine J_putI dX2_planShutdown_83 flX2_144 rfl rfl rfl rfl (kdBoilerAt hH h1) ?_
              refine J_aload dX2_planShutdown_86 rfl rfl ?_
              refine J_getI dX2_planShutdown_88 flX2_144 rfl (kdBoilerAt hH h1) ?_
              exact J_iret (ty := .int) hR dX2_planShutdown_91 rfl rfl (Nat.le_of_ble_eq_true rfl) (Nat.le_of_ble_eq_true rfl) (jRes_f (by first | rfl | (simp only [fX2_planShutdown, h1, if_neg h3, if_pos h4, if_neg h5, if_pos h6, if_neg h7]; done) | (simp only [fX2_planShutdown, h1, if_neg h3, if_pos h4, if_neg h5, if_pos h6, if_neg h7]; rfl)))
            · skip
              refine J_aload dX2_planShutdown_52 rfl rfl ?_
              refine J_getI dX2_planShutdown_54 flX2_83 rfl (kdBoilerAt hH h1) ?_
              refine J_iconst (1) dX2_planShutdown_57 rfl ?_
              refine J_icmp_ne (tgt := 64) dX2_planShutdown_58 (by decide) (fun h8 => ?_) (fun h8 => ?_)
              · skip
                refine J_aload dX2_planShutdown_64 rfl rfl ?_
                refine J_iconst (1) dX2_planShutdown_66 rfl ?_
                refine J_putI dX2_planShutdown_67 flX2_137 rfl rfl rfl rfl (kdBoilerAt hH h1) ?_
                refine J_aload dX2_planShutdown_70 rfl rfl ?_
                refine J_iload_n dX2_planShutdown_72 rfl ?_
                refine J_putI dX2_planShutdown_73 flX2_141 rfl rfl rfl rfl (kdBoilerAt hH h1) ?_
                refine J_aload dX2_planShutdown_76 rfl rfl ?_
                refine J_iload_n dX2_planShutdown_78 rfl ?_
                refine J_iload_n dX2_planShutdown_79 rfl ?_
                refine J_iadd dX2_planShutdown_80 ?_
                refine J_iconst (1) dX2_planShutdown_81 rfl ?_
                refine J_isub dX2_planShutdown_82 ?_
                refine J_putI dX2_planShutdown_83 flX2_144 rfl rfl rfl rfl (kdBoilerAt hH h1) ?_
                refine J_aload dX2_planShutdown_86 rfl rfl ?_
                refine J_getI dX2_planShutdown_88 flX2_144 rfl (kdBoilerAt hH h1) ?_
                exact J_iret (ty := .int) hR dX2_planShutdown_91 rfl rfl (Nat.le_of_ble_eq_true rfl) (Nat.le_of_ble_eq_true rfl) (jRes_f (by first | rfl | (simp only [fX2_planShutdown, h1, if_neg h3, if_pos h4, if_neg h5, if_pos h6, if_pos h7, if_neg h8]; done) | (simp only [fX2_planShutdown, h1, if_neg h3, if_pos h4, if_neg h5, if_pos h6, if_pos h7, if_neg h8]; rfl)))
              · skip
                refine J_ldc (-2000000002) dX2_planShutdown_61 jw_311 ?_
                exact J_iret (ty := .int) hR dX2_planShutdown_63 rfl rfl (Nat.le_of_ble_eq_true rfl) (Nat.le_of_ble_eq_true rfl) (jRes_f (by first | rfl | (simp only [fX2_planShutdown, h1, if_neg h3, if_pos h4, if_neg h5, if_pos h6, if_pos h7, if_pos h8]; done) | (simp only [fX2_planShutdown, h1, if_neg h3, if_pos h4, if_neg h5, if_pos h6, if_pos h7, if_pos h8]; rfl)))
          · skip
            refine J_ldc (-2000000001) dX2_planShutdown_41 jw_262 ?_
            exact J_iret (ty := .int) hR dX2_planShutdown_43 rfl rfl (Nat.le_of_ble_eq_true rfl) (Nat.le_of_ble_eq_true rfl) (jRes_f (by first | rfl | (simp only [fX2_planShutdown, h1, if_neg h3, if_pos h4, if_neg h5, if_neg h6]; done) | (simp only [fX2_planShutdown, h1, if_neg h3, if_pos h4, if_neg h5, if_neg h6]; rfl)))
      · skip
        refine J_ldc (-2000000001) dX2_planShutdown_27 jw_262 ?_
        exact J_iret (ty := .int) hR dX2_planShutdown_29 rfl rfl (Nat.le_of_ble_eq_true rfl) (Nat.le_of_ble_eq_true rfl) (jRes_f (by first | rfl | (simp only [fX2_planShutdown, h1, if_neg h3, if_neg h4]; done) | (simp only [fX2_planShutdown, h1, if_neg h3, if_neg h4]; rfl)))
def fX2_sendToRepair (I : jI) (o : Nat) (x : Int32) : Int32 × jI :=
  match (fX2_boilerAt I o x) with
  | none =>
    ((-2000000001), I)
  | some b2 =>
    if (I b2 3) = 0 then
      ((((I b2 2) / 10) + 1), (fX2_ownerPays (jset (jset (jset I b2 3 2) b2 5 (((jset I b2 3 2) o 6) + (((I b2 2) / 10) + 1))) o 8 (((jset (jset I b2 3 2) b2 5 (((jset I b2 3 2) o 6) + (((I b2 2) / 10) + 1))) o 8) + (((I b2 2) / 10) + 1))) o 2 ((((I b2 2) / 10) + 1) * (fX2_settingAt (jset (jset (jset I b2 3 2) b2 5 (((jset I b2 3 2) o 6) + (((I b2 2) / 10) + 1))) o 8 (((jset (jset I b2 3 2) b2 5 (((jset I b2 3 2) o 6) + (((I b2 2) / 10) + 1))) o 8) + (((I b2 2) / 10) + 1))) o 3))))
    else
      ((-2000000002), I)
set_option maxRecDepth 100000 in
set_option maxHeartbeats 4000000 in
theorem kX2_sendToRepair (S : jX) (I : jI) (o : Nat) (x : Int32) (hH : jHouse S o) : jM (1, 0, 0) mX2_sendToRepair [.ref o, .int x] S I (jRes (some (.int (fX2_sendToRepair I o x).1)) S (fX2_sendToRepair I o x).2) := by
  refine jM.of (ls := [.ref o, .int x, .long 0, .long 0]) (by decide) (Nat.le_of_ble_eq_true rfl) (by intro v hv; simp only [List.mem_cons, List.not_mem_nil, or_false] at hv; rcases hv with rfl | rfl <;> rfl) rfl (fun G hR => ?_)
  refine J_aload_n dX2_sendToRepair_0 rfl rfl ?_
  refine J_iload_n dX2_sendToRepair_1 rfl ?_
  refine J_cV1r (mc := mX2_boilerAt) hH.1 (by decide) rfl dX2_sendToRepair_2 mlX2_52 okX2_boilerAt (kX2_boilerAt S I o x hH) (Nat.le_of_ble_eq_true rfl) (Nat.le_of_ble_eq_true rfl) (Nat.le_of_ble_eq_true rfl) (Nat.le_of_ble_eq_true rfl) ?_
  rcases h1 : (fX2_boilerAt I o x) with _ | b2
  · skip
    refine J_astore_n dX2_sendToRepair_5 (Nat.le_of_ble_eq_true rfl) rfl ?_
    refine J_aload_n dX2_sendToRepair_6 rfl rfl ?_
    refine J_ifnonnull_n dX2_sendToRepair_7 ?_
    refine J_ldc (-2000000001) dX2_sendToRepair_10 jw_262 ?_
    exact J_iret (ty := .int) hR dX2_sendToRepair_12 rfl rfl (Nat.le_of_ble_eq_true rfl) (Nat.le_of_ble_eq_true rfl) (jRes_f (by first | rfl | (simp only [fX2_sendToRepair, h1]; done) | (simp only [fX2_sendToRepair, h1]; rfl)))
  · skip
    refine J_astore_n dX2_sendToRepair_5 (Nat.le_of_ble_eq_true rfl) rfl ?_
    refine J_aload_n dX2_sendToRepair_6 rfl rfl ?_
    refine J_ifnonnull_r (tgt := 13) dX2_sendToRepair_7 (by decide) ?_
    refine J_aload_n dX2_sendToRepair_13 rfl rfl ?_
    refine J_getI dX2_sendToRepair_14 flX2_83 rfl (kdBoilerAt hH h1) ?_
    refine J_if_eq (tgt := 23) dX2_sendToRepair_17 (by decide) (fun h3 => ?_) (fun h3 => ?_)
    · skip
      refine J_aload_n dX2_sendToRepair_23 rfl rfl ?_
      refine J_getI dX2_sendToRepair_24 flX2_134 rfl (kdBoilerAt hH h1) ?_
      refine J_bipush (10) dX2_sendToRepair_27 rfl ?_
      refine J_idiv dX2_sendToRepair_29 (by decide) ?_
      refine J_iconst (1) dX2_sendToRepair_30 rfl ?_
      refine J_iadd dX2_sendToRepair_31 ?_
      refine J_istore_n dX2_sendToRepair_32 (Nat.le_of_ble_eq_true rfl) ?_
      refine J_aload_n dX2_sendToRepair_33 rfl rfl ?_
      refine J_iconst (2) dX2_sendToRepair_34 rfl ?_
      refine J_putI dX2_sendToRepair_35 flX2_83 rfl rfl rfl rfl (kdBoilerAt hH h1) ?_
      refine J_aload_n dX2_sendToRepair_38 rfl rfl ?_
      refine J_aload_n dX2_sendToRepair_39 rfl rfl ?_
      refine J_getI dX2_sendToRepair_40 flX2_39 rfl hH.1 ?_
      refine J_iload_n dX2_sendToRepair_43 rfl ?_
      refine J_iadd dX2_sendToRepair_44 ?_
      refine J_putI dX2_sendToRepair_45 flX2_147 rfl rfl rfl rfl (kdBoilerAt hH h1) ?_
      refine J_aload_n dX2_sendToRepair_48 rfl rfl ?_
      refine J_dup dX2_sendToRepair_49 rfl ?_
      refine J_getI dX2_sendToRepair_50 flX2_45 rfl hH.1 ?_
      refine J_iload_n dX2_sendToRepair_53 rfl ?_
      refine J_iadd dX2_sendToRepair_54 ?_
      refine J_putI dX2_sendToRepair_55 flX2_45 rfl rfl rfl rfl hH.1 ?_
      refine J_aload_n dX2_sendToRepair_58 rfl rfl ?_
      refine J_iconst (2) dX2_sendToRepair_59 rfl ?_
      refine J_iload_n dX2_sendToRepair_60 rfl ?_
      refine J_aload_n dX2_sendToRepair_61 rfl rfl ?_
      refine J_iconst (3) dX2_sendToRepair_62 rfl ?_
      refine J_cV1r (mc := mX2_settingAt) hH.1 (by decide) rfl dX2_sendToRepair_63 mlX2_118 okX2_settingAt (kX2_settingAt S (jset (jset (jset I b2 3 2) b2 5 (((jset I b2 3 2) o 6) + (((I b2 2) / 10) + 1))) o 8 (((jset (jset I b2 3 2) b2 5 (((jset I b2 3 2) o 6) + (((I b2 2) / 10) + 1))) o 8) + (((I b2 2) / 10) + 1))) o 3 hH) (Nat.le_of_ble_eq_true rfl) (Nat.le_of_ble_eq_true rfl) (Nat.le_of_ble_eq_true rfl) (Nat.le_of_ble_eq_true rfl) ?_
      refine J_imul dX2_sendToRepair_66 ?_
      refine J_cV2 (mc := mX2_ownerPays) hH.1 (by decide) rfl dX2_sendToRepair_67 mlX2_122 okX2_ownerPays (kX2_ownerPays S (jset (jset (jset I b2 3 2) b2 5 (((jset I b2 3 2) o 6) + (((I b2 2) / 10) + 1))) o 8 (((jset (jset I b2 3 2) b2 5 (((jset I b2 3 2) o 6) + (((I b2 2) / 10) + 1))) o 8) + (((I b2 2) / 10) + 1))) o 2 ((((I b2 2) / 10) + 1) * (fX2_settingAt (jset (jset (jset I b2 3 2) b2 5 (((jset I b2 3 2) o 6) + (((I b2 2) / 10) + 1))) o 8 (((jset (jset I b2 3 2) b2 5 (((jset I b2 3 2) o 6) + (((I b2 2) / 10) + 1))) o 8) + (((I b2 2) / 10) + 1))) o 3)) hH) (Nat.le_of_ble_eq_true rfl) (Nat.le_of_ble_eq_true rfl) (Nat.le_of_ble_eq_true rfl) (Nat.le_of_ble_eq_true rfl) ?_
      refine J_iload_n dX2_sendToRepair_70 rfl ?_
      exact J_iret (ty := .int) hR dX2_sendToRepair_71 rfl rfl (Nat.le_of_ble_eq_true rfl) (Nat.le_of_ble_eq_true rfl) (jRes_f (by first | rfl | (simp only [fX2_sendToRepair, h1, if_pos h3]; done) | (simp only [fX2_sendToRepair, h1, if_pos h3]; rfl)))
    · skip
      refine J_ldc (-2000000002) dX2_sendToRepair_20 jw_311 ?_
      exact J_iret (ty := .int) hR dX2_sendToRepair_22 rfl rfl (Nat.le_of_ble_eq_true rfl) (Nat.le_of_ble_eq_true rfl) (jRes_f (by first | rfl | (simp only [fX2_sendToRepair, h1, if_neg h3]; done) | (simp only [fX2_sendToRepair, h1, if_neg h3]; rfl)))
def fX2_factOfBoiler (I : jI) (o : Nat) (x : Int32) (y : Int32) : Int32 :=
  match (fX2_boilerAt I o x) with
  | none =>
    (-2000000001)
  | some b2 =>
    (fX0_fact I b2 y (I o 6))
set_option maxRecDepth 100000 in
set_option maxHeartbeats 4000000 in
theorem kX2_factOfBoiler (S : jX) (I : jI) (o : Nat) (x : Int32) (y : Int32) (hH : jHouse S o) : jM (2, 0, 0) mX2_factOfBoiler [.ref o, .int x, .int y] S I (jRes (some (.int (fX2_factOfBoiler I o x y))) S I) := by
  refine jM.of (ls := [.ref o, .int x, .int y, .long 0]) (by decide) (Nat.le_of_ble_eq_true rfl) (by intro v hv; simp only [List.mem_cons, List.not_mem_nil, or_false] at hv; rcases hv with rfl | rfl | rfl <;> rfl) rfl (fun G hR => ?_)
  refine J_aload_n dX2_factOfBoiler_0 rfl rfl ?_
  refine J_iload_n dX2_factOfBoiler_1 rfl ?_
  refine J_cV1r (mc := mX2_boilerAt) hH.1 (by decide) rfl dX2_factOfBoiler_2 mlX2_52 okX2_boilerAt (kX2_boilerAt S I o x hH) (Nat.le_of_ble_eq_true rfl) (Nat.le_of_ble_eq_true rfl) (Nat.le_of_ble_eq_true rfl) (Nat.le_of_ble_eq_true rfl) ?_
  rcases h1 : (fX2_boilerAt I o x) with _ | b2
  · skip
    refine J_astore_n dX2_factOfBoiler_5 (Nat.le_of_ble_eq_true rfl) rfl ?_
    refine J_aload_n dX2_factOfBoiler_6 rfl rfl ?_
    refine J_ifnonnull_n dX2_factOfBoiler_7 ?_
    refine J_ldc (-2000000001) dX2_factOfBoiler_10 jw_262 ?_
    refine J_goto (tgt := 24) dX2_factOfBoiler_12 (by decide) ?_
    exact J_iret (ty := .int) hR dX2_factOfBoiler_24 rfl rfl (Nat.le_of_ble_eq_true rfl) (Nat.le_of_ble_eq_true rfl) (jRes_i (by first | rfl | (simp only [fX2_factOfBoiler, h1]; done) | (simp only [fX2_factOfBoiler, h1]; rfl)) rfl)
  · skip
    refine J_astore_n dX2_factOfBoiler_5 (Nat.le_of_ble_eq_true rfl) rfl ?_
    refine J_aload_n dX2_factOfBoiler_6 rfl rfl ?_
    refine J_ifnonnull_r (tgt := 15) dX2_factOfBoiler_7 (by decide) ?_
    refine J_aload_n dX2_factOfBoiler_15 rfl rfl ?_
    refine J_iload_n dX2_factOfBoiler_16 rfl ?_
    refine J_aload_n dX2_factOfBoiler_17 rfl rfl ?_
    refine J_getI dX2_factOfBoiler_18 flX2_39 rfl hH.1 ?_
    refine J_cV2r (mc := mX0_fact) (kdBoilerAt hH h1) (by decide) rfl dX2_factOfBoiler_21 mlX2_191 okX0_fact (kX0_fact S I b2 y (I o 6) (kdBoilerAt hH h1)) (Nat.le_of_ble_eq_true rfl) (Nat.le_of_ble_eq_true rfl) (Nat.le_of_ble_eq_true rfl) (Nat.le_of_ble_eq_true rfl) ?_
    exact J_iret (ty := .int) hR dX2_factOfBoiler_24 rfl rfl (Nat.le_of_ble_eq_true rfl) (Nat.le_of_ble_eq_true rfl) (jRes_i (by first | rfl | (simp only [fX2_factOfBoiler, h1]; done) | (simp only [fX2_factOfBoiler, h1]; rfl)) rfl)
def fX2_factOfPaper (I : jI) (o : Nat) (x : Int32) (y : Int32) : Int32 :=
  match (fX2_boilerAt I o x) with
  | none =>
    (-2000000001)
  | some b2 =>
    (fX0_factOfPaper I b2 y)
set_option maxRecDepth 100000 in
set_option maxHeartbeats 4000000 in
theorem kX2_factOfPaper (S : jX) (I : jI) (o : Nat) (x : Int32) (y : Int32) (hH : jHouse S o) : jM (1, 0, 0) mX2_factOfPaper [.ref o, .int x, .int y] S I (jRes (some (.int (fX2_factOfPaper I o x y))) S I) := by
  refine jM.of (ls := [.ref o, .int x, .int y, .long 0]) (by decide) (Nat.le_of_ble_eq_true rfl) (by intro v hv; simp only [List.mem_cons, List.not_mem_nil, or_false] at hv; rcases hv with rfl | rfl | rfl <;> rfl) rfl (fun G hR => ?_)
  refine J_aload_n dX2_factOfPaper_0 rfl rfl ?_
  refine J_iload_n dX2_factOfPaper_1 rfl ?_
  refine J_cV1r (mc := mX2_boilerAt) hH.1 (by decide) rfl dX2_factOfPaper_2 mlX2_52 okX2_boilerAt (kX2_boilerAt S I o x hH) (Nat.le_of_ble_eq_true rfl) (Nat.le_of_ble_eq_true rfl) (Nat.le_of_ble_eq_true rfl) (Nat.le_of_ble_eq_true rfl) ?_
  rcases h1 : (fX2_boilerAt I o x) with _ | b2
  · skip
    refine J_astore_n dX2_factOfPaper_5 (Nat.le_of_ble_eq_true rfl) rfl ?_
    refine J_aload_n dX2_factOfPaper_6 rfl rfl ?_
    refine J_ifnonnull_n dX2_factOfPaper_7 ?_
    refine J_ldc (-2000000001) dX2_factOfPaper_10 jw_262 ?_
    refine J_goto (tgt := 20) dX2_factOfPaper_12 (by decide) ?_
    exact J_iret (ty := .int) hR dX2_factOfPaper_20 rfl rfl (Nat.le_of_ble_eq_true rfl) (Nat.le_of_ble_eq_true rfl) (jRes_i (by first | rfl | (simp only [fX2_factOfPaper, h1]; done) | (simp only [fX2_factOfPaper, h1]; rfl)) rfl)
  · skip
    refine J_astore_n dX2_factOfPaper_5 (Nat.le_of_ble_eq_true rfl) rfl ?_
    refine J_aload_n dX2_factOfPaper_6 rfl rfl ?_
    refine J_ifnonnull_r (tgt := 15) dX2_factOfPaper_7 (by decide) ?_
    refine J_aload_n dX2_factOfPaper_15 rfl rfl ?_
    refine J_iload_n dX2_factOfPaper_16 rfl ?_
    refine J_cV1r (mc := mX0_factOfPaper) (kdBoilerAt hH h1) (by decide) rfl dX2_factOfPaper_17 mlX2_194 okX0_factOfPaper (kX0_factOfPaper S I b2 y (kdBoilerAt hH h1)) (Nat.le_of_ble_eq_true rfl) (Nat.le_of_ble_eq_true rfl) (Nat.le_of_ble_eq_true rfl) (Nat.le_of_ble_eq_true rfl) ?_
    exact J_iret (ty := .int) hR dX2_factOfPaper_20 rfl rfl (Nat.le_of_ble_eq_true rfl) (Nat.le_of_ble_eq_true rfl) (jRes_i (by first | rfl | (simp only [fX2_factOfPaper, h1]; done) | (simp only [fX2_factOfPaper, h1]; rfl)) rfl)
def fX2_factOfInspector (I : jI) (o : Nat) (x : Int32) (y : Int32) : Int32 :=
  match (fX2_inspectorAt I o x) with
  | none =>
    (-2000000001)
  | some b2 =>
    (fX3_fact I b2 y)
set_option maxRecDepth 100000 in
set_option maxHeartbeats 4000000 in
theorem kX2_factOfInspector (S : jX) (I : jI) (o : Nat) (x : Int32) (y : Int32) (hH : jHouse S o) : jM (2, 0, 0) mX2_factOfInspector [.ref o, .int x, .int y] S I (jRes (some (.int (fX2_factOfInspector I o x y))) S I) := by
  refine jM.of (ls := [.ref o, .int x, .int y, .long 0]) (by decide) (Nat.le_of_ble_eq_true rfl) (by intro v hv; simp only [List.mem_cons, List.not_mem_nil, or_false] at hv; rcases hv with rfl | rfl | rfl <;> rfl) rfl (fun G hR => ?_)
  refine J_aload_n dX2_factOfInspector_0 rfl rfl ?_
  refine J_iload_n dX2_factOfInspector_1 rfl ?_
  refine J_cV1r (mc := mX2_inspectorAt) hH.1 (by decide) rfl dX2_factOfInspector_2 mlX2_60 okX2_inspectorAt (kX2_inspectorAt S I o x hH) (Nat.le_of_ble_eq_true rfl) (Nat.le_of_ble_eq_true rfl) (Nat.le_of_ble_eq_true rfl) (Nat.le_of_ble_eq_true rfl) ?_
  rcases h1 : (fX2_inspectorAt I o x) with _ | b2
  · skip
    refine J_astore_n dX2_factOfInspector_5 (Nat.le_of_ble_eq_true rfl) rfl ?_
    refine J_aload_n dX2_factOfInspector_6 rfl rfl ?_
    refine J_ifnonnull_n dX2_factOfInspector_7 ?_
    refine J_ldc (-2000000001) dX2_factOfInspector_10 jw_262 ?_
    refine J_goto (tgt := 20) dX2_factOfInspector_12 (by decide) ?_
    exact J_iret (ty := .int) hR dX2_factOfInspector_20 rfl rfl (Nat.le_of_ble_eq_true rfl) (Nat.le_of_ble_eq_true rfl) (jRes_i (by first | rfl | (simp only [fX2_factOfInspector, h1]; done) | (simp only [fX2_factOfInspector, h1]; rfl)) rfl)
  · skip
    refine J_astore_n dX2_factOfInspector_5 (Nat.le_of_ble_eq_true rfl) rfl ?_
    refine J_aload_n dX2_factOfInspector_6 rfl rfl ?_
    refine J_ifnonnull_r (tgt := 15) dX2_factOfInspector_7 (by decide) ?_
    refine J_aload_n dX2_factOfInspector_15 rfl rfl ?_
    refine J_iload_n dX2_factOfInspector_16 rfl ?_
    refine J_cV1r (mc := mX3_fact) (kdInspectorAt hH h1) (by decide) rfl dX2_factOfInspector_17 mlX2_197 okX3_fact (kX3_fact S I b2 y (kdInspectorAt hH h1)) (Nat.le_of_ble_eq_true rfl) (Nat.le_of_ble_eq_true rfl) (Nat.le_of_ble_eq_true rfl) (Nat.le_of_ble_eq_true rfl) ?_
    exact J_iret (ty := .int) hR dX2_factOfInspector_20 rfl rfl (Nat.le_of_ble_eq_true rfl) (Nat.le_of_ble_eq_true rfl) (jRes_i (by first | rfl | (simp only [fX2_factOfInspector, h1]; done) | (simp only [fX2_factOfInspector, h1]; rfl)) rfl)
def fX2_whyNotFired (I : jI) (o : Nat) (x : Int32) : Int32 :=
  match (fX2_boilerAt I o x) with
  | none =>
    (-2000000001)
  | some b2 =>
    (fX0_whyNotFiredIn I b2 (I o 6))
set_option maxRecDepth 100000 in
set_option maxHeartbeats 4000000 in
theorem kX2_whyNotFired (S : jX) (I : jI) (o : Nat) (x : Int32) (hH : jHouse S o) : jM (2, 0, 0) mX2_whyNotFired [.ref o, .int x] S I (jRes (some (.int (fX2_whyNotFired I o x))) S I) := by
  refine jM.of (ls := [.ref o, .int x, .long 0]) (by decide) (Nat.le_of_ble_eq_true rfl) (by intro v hv; simp only [List.mem_cons, List.not_mem_nil, or_false] at hv; rcases hv with rfl | rfl <;> rfl) rfl (fun G hR => ?_)
  refine J_aload_n dX2_whyNotFired_0 rfl rfl ?_
  refine J_iload_n dX2_whyNotFired_1 rfl ?_
  refine J_cV1r (mc := mX2_boilerAt) hH.1 (by decide) rfl dX2_whyNotFired_2 mlX2_52 okX2_boilerAt (kX2_boilerAt S I o x hH) (Nat.le_of_ble_eq_true rfl) (Nat.le_of_ble_eq_true rfl) (Nat.le_of_ble_eq_true rfl) (Nat.le_of_ble_eq_true rfl) ?_
  rcases h1 : (fX2_boilerAt I o x) with _ | b2
  · skip
    refine J_astore_n dX2_whyNotFired_5 (Nat.le_of_ble_eq_true rfl) rfl ?_
    refine J_aload_n dX2_whyNotFired_6 rfl rfl ?_
    refine J_ifnonnull_n dX2_whyNotFired_7 ?_
    refine J_ldc (-2000000001) dX2_whyNotFired_10 jw_262 ?_
    refine J_goto (tgt := 23) dX2_whyNotFired_12 (by decide) ?_
    exact J_iret (ty := .int) hR dX2_whyNotFired_23 rfl rfl (Nat.le_of_ble_eq_true rfl) (Nat.le_of_ble_eq_true rfl) (jRes_i (by first | rfl | (simp only [fX2_whyNotFired, h1]; done) | (simp only [fX2_whyNotFired, h1]; rfl)) rfl)
  · skip
    refine J_astore_n dX2_whyNotFired_5 (Nat.le_of_ble_eq_true rfl) rfl ?_
    refine J_aload_n dX2_whyNotFired_6 rfl rfl ?_
    refine J_ifnonnull_r (tgt := 15) dX2_whyNotFired_7 (by decide) ?_
    refine J_aload_n dX2_whyNotFired_15 rfl rfl ?_
    refine J_aload_n dX2_whyNotFired_16 rfl rfl ?_
    refine J_getI dX2_whyNotFired_17 flX2_39 rfl hH.1 ?_
    refine J_cV1r (mc := mX0_whyNotFiredIn) (kdBoilerAt hH h1) (by decide) rfl dX2_whyNotFired_20 mlX2_125 okX0_whyNotFiredIn (kX0_whyNotFiredIn S I b2 (I o 6) (kdBoilerAt hH h1)) (Nat.le_of_ble_eq_true rfl) (Nat.le_of_ble_eq_true rfl) (Nat.le_of_ble_eq_true rfl) (Nat.le_of_ble_eq_true rfl) ?_
    exact J_iret (ty := .int) hR dX2_whyNotFired_23 rfl rfl (Nat.le_of_ble_eq_true rfl) (Nat.le_of_ble_eq_true rfl) (jRes_i (by first | rfl | (simp only [fX2_whyNotFired, h1]; done) | (simp only [fX2_whyNotFired, h1]; rfl)) rfl)
def fX2_whyNotInspected (I : jI) (o : Nat) (x : Int32) (y : Int32) : Int32 :=
  match (fX2_boilerAt I o x) with
  | none =>
    match (fX2_inspectorAt I o y) with
    | none =>
      (-2000000001)
    | some b4 =>
      (-2000000001)
  | some b2 =>
    match (fX2_inspectorAt I o y) with
    | none =>
      (-2000000001)
    | some b6 =>
      (fX0_whyNotInspectedBy I b2 b6)
set_option maxRecDepth 100000 in
set_option maxHeartbeats 4000000 in
theorem kX2_whyNotInspected (S : jX) (I : jI) (o : Nat) (x : Int32) (y : Int32) (hH : jHouse S o) : jM (2, 0, 0) mX2_whyNotInspected [.ref o, .int x, .int y] S I (jRes (some (.int (fX2_whyNotInspected I o x y))) S I) := by
  refine jM.of (ls := [.ref o, .int x, .int y, .long 0, .long 0]) (by decide) (Nat.le_of_ble_eq_true rfl) (by intro v hv; simp only [List.mem_cons, List.not_mem_nil, or_false] at hv; rcases hv with rfl | rfl | rfl <;> rfl) rfl (fun G hR => ?_)
  refine J_aload_n dX2_whyNotInspected_0 rfl rfl ?_
  refine J_iload_n dX2_whyNotInspected_1 rfl ?_
  refine J_cV1r (mc := mX2_boilerAt) hH.1 (by decide) rfl dX2_whyNotInspected_2 mlX2_52 okX2_boilerAt (kX2_boilerAt S I o x hH) (Nat.le_of_ble_eq_true rfl) (Nat.le_of_ble_eq_true rfl) (Nat.le_of_ble_eq_true rfl) (Nat.le_of_ble_eq_true rfl) ?_
  rcases h1 : (fX2_boilerAt I o x) with _ | b2
  · skip
    refine J_astore_n dX2_whyNotInspected_5 (Nat.le_of_ble_eq_true rfl) rfl ?_
    refine J_aload_n dX2_whyNotInspected_6 rfl rfl ?_
    refine J_iload_n dX2_whyNotInspected_7 rfl ?_
    refine J_cV1r (mc := mX2_inspectorAt) hH.1 (by decide) rfl dX2_whyNotInspected_8 mlX2_60 okX2_inspectorAt (kX2_inspectorAt S I o y hH) (Nat.le_of_ble_eq_true rfl) (Nat.le_of_ble_eq_true rfl) (Nat.le_of_ble_eq_true rfl) (Nat.le_of_ble_eq_true rfl) ?_
    rcases h3 : (fX2_inspectorAt I o y) with _ | b4
    · skip
      refine J_astore dX2_whyNotInspected_11 (Nat.le_of_ble_eq_true rfl) rfl ?_
      refine J_aload_n dX2_whyNotInspected_13 rfl rfl ?_
      refine J_ifnull_n (tgt := 22) dX2_whyNotInspected_14 (by decide) ?_
      refine J_ldc (-2000000001) dX2_whyNotInspected_22 jw_262 ?_
      exact J_iret (ty := .int) hR dX2_whyNotInspected_24 rfl rfl (Nat.le_of_ble_eq_true rfl) (Nat.le_of_ble_eq_true rfl) (jRes_i (by first | rfl | (simp only [fX2_whyNotInspected, h1, h3]; done) | (simp only [fX2_whyNotInspected, h1, h3]; rfl)) rfl)
    · skip
      refine J_astore dX2_whyNotInspected_11 (Nat.le_of_ble_eq_true rfl) rfl ?_
      refine J_aload_n dX2_whyNotInspected_13 rfl rfl ?_
      refine J_ifnull_n (tgt := 22) dX2_whyNotInspected_14 (by decide) ?_
      refine J_ldc (-2000000001) dX2_whyNotInspected_22 jw_262 ?_
      exact J_iret (ty := .int) hR dX2_whyNotInspected_24 rfl rfl (Nat.le_of_ble_eq_true rfl) (Nat.le_of_ble_eq_true rfl) (jRes_i (by first | rfl | (simp only [fX2_whyNotInspected, h1, h3]; done) | (simp only [fX2_whyNotInspected, h1, h3]; rfl)) rfl)
  · skip
    refine J_astore_n dX2_whyNotInspected_5 (Nat.le_of_ble_eq_true rfl) rfl ?_
    refine J_aload_n dX2_whyNotInspected_6 rfl rfl ?_
    refine J_iload_n dX2_whyNotInspected_7 rfl ?_
    refine J_cV1r (mc := mX2_inspectorAt) hH.1 (by decide) rfl dX2_whyNotInspected_8 mlX2_60 okX2_inspectorAt (kX2_inspectorAt S I o y hH) (Nat.le_of_ble_eq_true rfl) (Nat.le_of_ble_eq_true rfl) (Nat.le_of_ble_eq_true rfl) (Nat.le_of_ble_eq_true rfl) ?_
    rcases h5 : (fX2_inspectorAt I o y) with _ | b6
    · skip
      refine J_astore dX2_whyNotInspected_11 (Nat.le_of_ble_eq_true rfl) rfl ?_
      refine J_aload_n dX2_whyNotInspected_13 rfl rfl ?_
      refine J_ifnull_r dX2_whyNotInspected_14 ?_
      refine J_aload dX2_whyNotInspected_17 rfl rfl ?_
      refine J_ifnonnull_n dX2_whyNotInspected_19 ?_
      refine J_ldc (-2000000001) dX2_whyNotInspected_22 jw_262 ?_
      exact J_iret (ty := .int) hR dX2_whyNotInspected_24 rfl rfl (Nat.le_of_ble_eq_true rfl) (Nat.le_of_ble_eq_true rfl) (jRes_i (by first | rfl | (simp only [fX2_whyNotInspected, h1, h5]; done) | (simp only [fX2_whyNotInspected, h1, h5]; rfl)) rfl)
    · skip
      refine J_astore dX2_whyNotInspected_11 (Nat.le_of_ble_eq_true rfl) rfl ?_
      refine J_aload_n dX2_whyNotInspected_13 rfl rfl ?_
      refine J_ifnull_r dX2_whyNotInspected_14 ?_
      refine J_aload dX2_whyNotInspected_17 rfl rfl ?_
      refine J_ifnonnull_r (tgt := 25) dX2_whyNotInspected_19 (by decide) ?_
      refine J_aload_n dX2_whyNotInspected_25 rfl rfl ?_
      refine J_aload dX2_whyNotInspected_26 rfl rfl ?_
      refine J_cV1r (mc := mX0_whyNotInspectedBy) (kdBoilerAt hH h1) (by decide) rfl dX2_whyNotInspected_28 mlX2_93 okX0_whyNotInspectedBy (kX0_whyNotInspectedBy S I b2 b6 (kdBoilerAt hH h1) (kdInspectorAt hH h5)) (Nat.le_of_ble_eq_true rfl) (Nat.le_of_ble_eq_true rfl) (Nat.le_of_ble_eq_true rfl) (Nat.le_of_ble_eq_true rfl) ?_
      exact J_iret (ty := .int) hR dX2_whyNotInspected_31 rfl rfl (Nat.le_of_ble_eq_true rfl) (Nat.le_of_ble_eq_true rfl) (jRes_i (by first | rfl | (simp only [fX2_whyNotInspected, h1, h5]; done) | (simp only [fX2_whyNotInspected, h1, h5]; rfl)) rfl)
def fX2_paperThatWouldBe (I : jI) (o : Nat) (x : Int32) (y : Int32) (z : Int32) : Int32 :=
  match (fX2_boilerAt I o x) with
  | none =>
    (-2000000001)
  | some b2 =>
    if (fX6_isInsurer I y) = 0 then
      (-2000000001)
    else
      if z < 0 then
        (-2000000001)
      else
        if z ≤ 1 then
          if z = 0 then
            (fX2_pressureOffered I o b2 y)
          else
            if (fX2_pressureOffered I o b2 y) ≤ 0 then
              (-2000000004)
            else
              (fX2_lastWeekOffered I o b2 y)
        else
          (-2000000001)
set_option maxRecDepth 100000 in
set_option maxHeartbeats 4000000 in
theorem kX2_paperThatWouldBe (S : jX) (I : jI) (o : Nat) (x : Int32) (y : Int32) (z : Int32) (hH : jHouse S o) : jM (2, 0, 0) mX2_paperThatWouldBe [.ref o, .int x, .int y, .int z] S I (jRes (some (.int (fX2_paperThatWouldBe I o x y z))) S I) := by
  refine jM.of (ls := [.ref o, .int x, .int y, .int z, .long 0, .long 0]) (by decide) (Nat.le_of_ble_eq_true rfl) (by intro v hv; simp only [List.mem_cons, List.not_mem_nil, or_false] at hv; rcases hv with rfl | rfl | rfl | rfl <;> rfl) rfl (fun G hR => ?_)
  refine J_aload_n dX2_paperThatWouldBe_0 rfl rfl ?_
  refine J_iload_n dX2_paperThatWouldBe_1 rfl ?_
  refine J_cV1r (mc := mX2_boilerAt) hH.1 (by decide) rfl dX2_paperThatWouldBe_2 mlX2_52 okX2_boilerAt (kX2_boilerAt S I o x hH) (Nat.le_of_ble_eq_true rfl) (Nat.le_of_ble_eq_true rfl) (Nat.le_of_ble_eq_true rfl) (Nat.le_of_ble_eq_true rfl) ?_
  rcases h1 : (fX2_boilerAt I o x) with _ | b2
  · skip
    refine J_astore dX2_paperThatWouldBe_5 (Nat.le_of_ble_eq_true rfl) rfl ?_
    refine J_aload dX2_paperThatWouldBe_7 rfl rfl ?_
    refine J_ifnull_n (tgt := 28) dX2_paperThatWouldBe_9 (by decide) ?_
    refine J_ldc (-2000000001) dX2_paperThatWouldBe_28 jw_262 ?_
    exact J_iret (ty := .int) hR dX2_paperThatWouldBe_30 rfl rfl (Nat.le_of_ble_eq_true rfl) (Nat.le_of_ble_eq_true rfl) (jRes_i (by first | rfl | (simp only [fX2_paperThatWouldBe, h1]; done) | (simp only [fX2_paperThatWouldBe, h1]; rfl)) rfl)
  · skip
    refine J_astore dX2_paperThatWouldBe_5 (Nat.le_of_ble_eq_true rfl) rfl ?_
    refine J_aload dX2_paperThatWouldBe_7 rfl rfl ?_
    refine J_ifnull_r dX2_paperThatWouldBe_9 ?_
    refine J_iload_n dX2_paperThatWouldBe_12 rfl ?_
    refine J_cS1r (mc := mX6_isInsurer) dX2_paperThatWouldBe_13 mlX2_73 okX6_isInsurer (kX6_isInsurer S I y ) (Nat.le_of_ble_eq_true rfl) (Nat.le_of_ble_eq_true rfl) (Nat.le_of_ble_eq_true rfl) (Nat.le_of_ble_eq_true rfl) ?_
    refine J_if_eq (tgt := 28) dX2_paperThatWouldBe_16 (by decide) (fun h3 => ?_) (fun h3 => ?_)
    · skip
      refine J_ldc (-2000000001) dX2_paperThatWouldBe_28 jw_262 ?_
      exact J_iret (ty := .int) hR dX2_paperThatWouldBe_30 rfl rfl (Nat.le_of_ble_eq_true rfl) (Nat.le_of_ble_eq_true rfl) (jRes_i (by first | rfl | (simp only [fX2_paperThatWouldBe, h1, if_pos h3]; done) | (simp only [fX2_paperThatWouldBe, h1, if_pos h3]; rfl)) rfl)
    · skip
      refine J_iload_n dX2_paperThatWouldBe_19 rfl ?_
      refine J_if_lt (tgt := 28) dX2_paperThatWouldBe_20 (by decide) (fun h4 => ?_) (fun h4 => ?_)
      · skip
        refine J_ldc (-2000000001) dX2_paperThatWouldBe_28 jw_262 ?_
        exact J_iret (ty := .int) hR dX2_paperThatWouldBe_30 rfl rfl (Nat.le_of_ble_eq_true rfl) (Nat.le_of_ble_eq_true rfl) (jRes_i (by first | rfl | (simp only [fX2_paperThatWouldBe, h1, if_neg h3, if_pos h4]; done) | (simp only [fX2_paperThatWouldBe, h1, if_neg h3, if_pos h4]; rfl)) rfl)
      · skip
        refine J_iload_n dX2_paperThatWouldBe_23 rfl ?_
        refine J_iconst (1) dX2_paperThatWouldBe_24 rfl ?_
        refine J_icmp_le (tgt := 31) dX2_paperThatWouldBe_25 (by decide) (fun h5 => ?_) (fun h5 => ?_)
        · skip
          refine J_aload_n dX2_paperThatWouldBe_31 rfl rfl ?_
          refine J_aload dX2_paperThatWouldBe_32 rfl rfl ?_
          refine J_iload_n dX2_paperThatWouldBe_34 rfl ?_
          refine J_cV2r (mc := mX2_pressureOffered) hH.1 (by decide) rfl dX2_paperThatWouldBe_35 mlX2_100 okX2_pressureOffered (kX2_pressureOffered S I o b2 y hH (kdBoilerAt hH h1)) (Nat.le_of_ble_eq_true rfl) (Nat.le_of_ble_eq_true rfl) (Nat.le_of_ble_eq_true rfl) (Nat.le_of_ble_eq_true rfl) ?_
          refine J_istore dX2_paperThatWouldBe_38 (Nat.le_of_ble_eq_true rfl) ?_
          refine J_iload_n dX2_paperThatWouldBe_40 rfl ?_
          refine J_if_ne (tgt := 47) dX2_paperThatWouldBe_41 (by decide) (fun h6 => ?_) (fun h6 => ?_)
          · skip
            refine J_iload dX2_paperThatWouldBe_47 rfl ?_
            refine J_if_le (tgt := 62) dX2_paperThatWouldBe_49 (by decide) (fun h7 => ?_) (fun h7 => ?_)
            · skip
              refine J_ldc (-2000000004) dX2_paperThatWouldBe_62 jw_517 ?_
              exact J_iret (ty := .int) hR dX2_paperThatWouldBe_64 rfl rfl (Nat.le_of_ble_eq_true rfl) (Nat.le_of_ble_eq_true rfl) (jRes_i (by first | rfl | (simp only [fX2_paperThatWouldBe, h1, if_neg h3, if_neg h4, if_pos h5, if_neg h6, if_pos h7]; done) | (simp only [fX2_paperThatWouldBe, h1, if_neg h3, if_neg h4, if_pos h5, if_neg h6, if_pos h7]; rfl)) rfl)
            · skip
              refine J_aload_n dX2_paperThatWouldBe_52 rfl rfl ?_
              refine J_aload dX2_paperThatWouldBe_53 rfl rfl ?_
              refine J_iload_n dX2_paperThatWouldBe_55 rfl ?_
              refine J_cV2r (mc := mX2_lastWeekOffered) hH.1 (by decide) rfl dX2_paperThatWouldBe_56 mlX2_104 okX2_lastWeekOffered (kX2_lastWeekOffered S I o b2 y hH (kdBoilerAt hH h1)) (Nat.le_of_ble_eq_true rfl) (Nat.le_of_ble_eq_true rfl) (Nat.le_of_ble_eq_true rfl) (Nat.le_of_ble_eq_true rfl) ?_
              refine J_goto (tgt := 64) dX2_paperThatWouldBe_59 (by decide) ?_
              exact J_iret (ty := .int) hR dX2_paperThatWouldBe_64 rfl rfl (Nat.le_of_ble_eq_true rfl) (Nat.le_of_ble_eq_true rfl) (jRes_i (by first | rfl | (simp only [fX2_paperThatWouldBe, h1, if_neg h3, if_neg h4, if_pos h5, if_neg h6, if_neg h7]; done) | (simp only [fX2_paperThatWouldBe, h1, if_neg h3, if_neg h4, if_pos h5, if_neg h6, if_neg h7]; rfl)) rfl)
          · skip
            refine J_iload dX2_paperThatWouldBe_44 rfl ?_
            exact J_iret (ty := .int) hR dX2_paperThatWouldBe_46 rfl rfl (Nat.le_of_ble_eq_true rfl) (Nat.le_of_ble_eq_true rfl) (jRes_i (by first | rfl | (simp only [fX2_paperThatWouldBe, h1, if_neg h3, if_neg h4, if_pos h5, if_pos h6]; done) | (simp only [fX2_paperThatWouldBe, h1, if_neg h3, if_neg h4, if_pos h5, if_pos h6]; rfl)) rfl)
        · skip
          refine J_ldc (-2000000001) dX2_paperThatWouldBe_28 jw_262 ?_
          exact J_iret (ty := .int) hR dX2_paperThatWouldBe_30 rfl rfl (Nat.le_of_ble_eq_true rfl) (Nat.le_of_ble_eq_true rfl) (jRes_i (by first | rfl | (simp only [fX2_paperThatWouldBe, h1, if_neg h3, if_neg h4, if_neg h5]; done) | (simp only [fX2_paperThatWouldBe, h1, if_neg h3, if_neg h4, if_neg h5]; rfl)) rfl)
def fX2_betterInsurer (I : jI) (o : Nat) (x : Int32) : Int32 :=
  match (fX2_boilerAt I o x) with
  | none =>
    (-2000000001)
  | some b2 =>
    if (fX2_pressureOffered I o b2 0) < (I b2 1) then
      if (fX2_pressureOffered I o b2 1) < (I b2 1) then
        (-2000000004)
      else
        1
    else
      if (fX2_pressureOffered I o b2 1) < (I b2 1) then
        0
      else
        if (fX2_isOneBetter I o b2) = 0 then
          0
        else
          1
set_option maxRecDepth 100000 in
set_option maxHeartbeats 4000000 in
theorem kX2_betterInsurer (S : jX) (I : jI) (o : Nat) (x : Int32) (hH : jHouse S o) : jM (3, 0, 0) mX2_betterInsurer [.ref o, .int x] S I (jRes (some (.int (fX2_betterInsurer I o x))) S I) := by
  refine jM.of (ls := [.ref o, .int x, .long 0, .long 0, .long 0]) (by decide) (Nat.le_of_ble_eq_true rfl) (by intro v hv; simp only [List.mem_cons, List.not_mem_nil, or_false] at hv; rcases hv with rfl | rfl <;> rfl) rfl (fun G hR => ?_)
  refine J_aload_n dX2_betterInsurer_0 rfl rfl ?_
  refine J_iload_n dX2_betterInsurer_1 rfl ?_
  refine J_cV1r (mc := mX2_boilerAt) hH.1 (by decide) rfl dX2_betterInsurer_2 mlX2_52 okX2_boilerAt (kX2_boilerAt S I o x hH) (Nat.le_of_ble_eq_true rfl) (Nat.le_of_ble_eq_true rfl) (Nat.le_of_ble_eq_true rfl) (Nat.le_of_ble_eq_true rfl) ?_
  rcases h1 : (fX2_boilerAt I o x) with _ | b2
  · skip
    refine J_astore_n dX2_betterInsurer_5 (Nat.le_of_ble_eq_true rfl) rfl ?_
    refine J_aload_n dX2_betterInsurer_6 rfl rfl ?_
    refine J_ifnonnull_n dX2_betterInsurer_7 ?_
    refine J_ldc (-2000000001) dX2_betterInsurer_10 jw_262 ?_
    exact J_iret (ty := .int) hR dX2_betterInsurer_12 rfl rfl (Nat.le_of_ble_eq_true rfl) (Nat.le_of_ble_eq_true rfl) (jRes_i (by first | rfl | (simp only [fX2_betterInsurer, h1]; done) | (simp only [fX2_betterInsurer, h1]; rfl)) rfl)
  · skip
    refine J_astore_n dX2_betterInsurer_5 (Nat.le_of_ble_eq_true rfl) rfl ?_
    refine J_aload_n dX2_betterInsurer_6 rfl rfl ?_
    refine J_ifnonnull_r (tgt := 13) dX2_betterInsurer_7 (by decide) ?_
    refine J_aload_n dX2_betterInsurer_13 rfl rfl ?_
    refine J_aload_n dX2_betterInsurer_14 rfl rfl ?_
    refine J_iconst (0) dX2_betterInsurer_15 rfl ?_
    refine J_cV2r (mc := mX2_pressureOffered) hH.1 (by decide) rfl dX2_betterInsurer_16 mlX2_100 okX2_pressureOffered (kX2_pressureOffered S I o b2 0 hH (kdBoilerAt hH h1)) (Nat.le_of_ble_eq_true rfl) (Nat.le_of_ble_eq_true rfl) (Nat.le_of_ble_eq_true rfl) (Nat.le_of_ble_eq_true rfl) ?_
    refine J_aload_n dX2_betterInsurer_19 rfl rfl ?_
    refine J_getI dX2_betterInsurer_20 flX2_90 rfl (kdBoilerAt hH h1) ?_
    refine J_icmp_lt (tgt := 30) dX2_betterInsurer_23 (by decide) (fun h3 => ?_) (fun h3 => ?_)
    · skip
      refine J_iconst (0) dX2_betterInsurer_30 rfl ?_
      refine J_istore_n dX2_betterInsurer_31 (Nat.le_of_ble_eq_true rfl) ?_
      refine J_aload_n dX2_betterInsurer_32 rfl rfl ?_
      refine J_aload_n dX2_betterInsurer_33 rfl rfl ?_
      refine J_iconst (1) dX2_betterInsurer_34 rfl ?_
      refine J_cV2r (mc := mX2_pressureOffered) hH.1 (by decide) rfl dX2_betterInsurer_35 mlX2_100 okX2_pressureOffered (kX2_pressureOffered S I o b2 1 hH (kdBoilerAt hH h1)) (Nat.le_of_ble_eq_true rfl) (Nat.le_of_ble_eq_true rfl) (Nat.le_of_ble_eq_true rfl) (Nat.le_of_ble_eq_true rfl) ?_
      refine J_aload_n dX2_betterInsurer_38 rfl rfl ?_
      refine J_getI dX2_betterInsurer_39 flX2_90 rfl (kdBoilerAt hH h1) ?_
      refine J_icmp_lt (tgt := 49) dX2_betterInsurer_42 (by decide) (fun h4 => ?_) (fun h4 => ?_)
      · skip
        refine J_iconst (0) dX2_betterInsurer_49 rfl ?_
        refine J_istore dX2_betterInsurer_50 (Nat.le_of_ble_eq_true rfl) ?_
        refine J_iload_n dX2_betterInsurer_52 rfl ?_
        refine J_if_eq (tgt := 75) dX2_betterInsurer_53 (by decide) (fun h5 => ?_) (fun h5 => ?_)
        · skip
          refine J_iload_n dX2_betterInsurer_75 rfl ?_
          refine J_if_eq (tgt := 81) dX2_betterInsurer_76 (by decide) (fun h6 => ?_) (fun h6 => ?_)
          · skip
            refine J_iload dX2_betterInsurer_81 rfl ?_
            refine J_if_eq (tgt := 90) dX2_betterInsurer_83 (by decide) (fun h7 => ?_) (fun h7 => ?_)
            · skip
              refine J_ldc (-2000000004) dX2_betterInsurer_90 jw_517 ?_
              exact J_iret (ty := .int) hR dX2_betterInsurer_92 rfl rfl (Nat.le_of_ble_eq_true rfl) (Nat.le_of_ble_eq_true rfl) (jRes_i (by first | rfl | (simp only [fX2_betterInsurer, h1, if_pos h3, if_pos h4]; done) | (simp only [fX2_betterInsurer, h1, if_pos h3, if_pos h4]; rfl)) rfl)
            · skip
              exact absurd h7 (by decide)
          · skip
            exact absurd h6 (by decide)
        · skip
          exact absurd h5 (by decide)
      · skip
        refine J_iconst (1) dX2_betterInsurer_45 rfl ?_
        refine J_goto (tgt := 50) dX2_betterInsurer_46 (by decide) ?_
        refine J_istore dX2_betterInsurer_50 (Nat.le_of_ble_eq_true rfl) ?_
        refine J_iload_n dX2_betterInsurer_52 rfl ?_
        refine J_if_eq (tgt := 75) dX2_betterInsurer_53 (by decide) (fun h8 => ?_) (fun h8 => ?_)
        · skip
          refine J_iload_n dX2_betterInsurer_75 rfl ?_
          refine J_if_eq (tgt := 81) dX2_betterInsurer_76 (by decide) (fun h9 => ?_) (fun h9 => ?_)
          · skip
            refine J_iload dX2_betterInsurer_81 rfl ?_
            refine J_if_eq (tgt := 90) dX2_betterInsurer_83 (by decide) (fun h10 => ?_) (fun h10 => ?_)
            · skip
              exact absurd h10 (by decide)
            · skip
              refine J_iconst (1) dX2_betterInsurer_86 rfl ?_
              refine J_goto (tgt := 92) dX2_betterInsurer_87 (by decide) ?_
              exact J_iret (ty := .int) hR dX2_betterInsurer_92 rfl rfl (Nat.le_of_ble_eq_true rfl) (Nat.le_of_ble_eq_true rfl) (jRes_i (by first | rfl | (simp only [fX2_betterInsurer, h1, if_pos h3, if_neg h4]; done) | (simp only [fX2_betterInsurer, h1, if_pos h3, if_neg h4]; rfl)) rfl)
          · skip
            exact absurd h9 (by decide)
        · skip
          exact absurd h8 (by decide)
    · skip
      refine J_iconst (1) dX2_betterInsurer_26 rfl ?_
      refine J_goto (tgt := 31) dX2_betterInsurer_27 (by decide) ?_
      refine J_istore_n dX2_betterInsurer_31 (Nat.le_of_ble_eq_true rfl) ?_
      refine J_aload_n dX2_betterInsurer_32 rfl rfl ?_
      refine J_aload_n dX2_betterInsurer_33 rfl rfl ?_
      refine J_iconst (1) dX2_betterInsurer_34 rfl ?_
      refine J_cV2r (mc := mX2_pressureOffered) hH.1 (by decide) rfl dX2_betterInsurer_35 mlX2_100 okX2_pressureOffered (kX2_pressureOffered S I o b2 1 hH (kdBoilerAt hH h1)) (Nat.le_of_ble_eq_true rfl) (Nat.le_of_ble_eq_true rfl) (Nat.le_of_ble_eq_true rfl) (Nat.le_of_ble_eq_true rfl) ?_
      refine J_aload_n dX2_betterInsurer_38 rfl rfl ?_
      refine J_getI dX2_betterInsurer_39 flX2_90 rfl (kdBoilerAt hH h1) ?_
      refine J_icmp_lt (tgt := 49) dX2_betterInsurer_42 (by decide) (fun h11 => ?_) (fun h11 => ?_)
      · skip
        refine J_iconst (0) dX2_betterInsurer_49 rfl ?_
        refine J_istore dX2_betterInsurer_50 (Nat.le_of_ble_eq_true rfl) ?_
        refine J_iload_n dX2_betterInsurer_52 rfl ?_
        refine J_if_eq (tgt := 75) dX2_betterInsurer_53 (by decide) (fun h12 => ?_) (fun h12 => ?_)
        · skip
          exact absurd h12 (by decide)
        · skip
          refine J_iload dX2_betterInsurer_56 rfl ?_
          refine J_if_eq (tgt := 75) dX2_betterInsurer_58 (by decide) (fun h13 => ?_) (fun h13 => ?_)
          · skip
            refine J_iload_n dX2_betterInsurer_75 rfl ?_
            refine J_if_eq (tgt := 81) dX2_betterInsurer_76 (by decide) (fun h14 => ?_) (fun h14 => ?_)
            · skip
              exact absurd h14 (by decide)
            · skip
              refine J_iconst (0) dX2_betterInsurer_79 rfl ?_
              exact J_iret (ty := .int) hR dX2_betterInsurer_80 rfl rfl (Nat.le_of_ble_eq_true rfl) (Nat.le_of_ble_eq_true rfl) (jRes_i (by first | rfl | (simp only [fX2_betterInsurer, h1, if_neg h3, if_pos h11]; done) | (simp only [fX2_betterInsurer, h1, if_neg h3, if_pos h11]; rfl)) rfl)
          · skip
            exact absurd h13 (by decide)
      · skip
        refine J_iconst (1) dX2_betterInsurer_45 rfl ?_
        refine J_goto (tgt := 50) dX2_betterInsurer_46 (by decide) ?_
        refine J_istore dX2_betterInsurer_50 (Nat.le_of_ble_eq_true rfl) ?_
        refine J_iload_n dX2_betterInsurer_52 rfl ?_
        refine J_if_eq (tgt := 75) dX2_betterInsurer_53 (by decide) (fun h15 => ?_) (fun h15 => ?_)
        · skip
          exact absurd h15 (by decide)
        · skip
          refine J_iload dX2_betterInsurer_56 rfl ?_
          refine J_if_eq (tgt := 75) dX2_betterInsurer_58 (by decide) (fun h16 => ?_) (fun h16 => ?_)
          · skip
            exact absurd h16 (by decide)
          · skip
            refine J_aload_n dX2_betterInsurer_61 rfl rfl ?_
            refine J_aload_n dX2_betterInsurer_62 rfl rfl ?_
            refine J_cV1r (mc := mX2_isOneBetter) hH.1 (by decide) rfl dX2_betterInsurer_63 mlX2_203 okX2_isOneBetter (kX2_isOneBetter S I o b2 hH (kdBoilerAt hH h1)) (Nat.le_of_ble_eq_true rfl) (Nat.le_of_ble_eq_true rfl) (Nat.le_of_ble_eq_true rfl) (Nat.le_of_ble_eq_true rfl) ?_
            refine J_if_eq (tgt := 73) dX2_betterInsurer_66 (by decide) (fun h17 => ?_) (fun h17 => ?_)
            · skip
              refine J_iconst (0) dX2_betterInsurer_73 rfl ?_
              exact J_iret (ty := .int) hR dX2_betterInsurer_74 rfl rfl (Nat.le_of_ble_eq_true rfl) (Nat.le_of_ble_eq_true rfl) (jRes_i (by first | rfl | (simp only [fX2_betterInsurer, h1, if_neg h3, if_neg h11, if_pos h17]; done) | (simp only [fX2_betterInsurer, h1, if_neg h3, if_neg h11, if_pos h17]; rfl)) rfl)
            · skip
              refine J_iconst (1) dX2_betterInsurer_69 rfl ?_
              refine J_goto (tgt := 74) dX2_betterInsurer_70 (by decide) ?_
              exact J_iret (ty := .int) hR dX2_betterInsurer_74 rfl rfl (Nat.le_of_ble_eq_true rfl) (Nat.le_of_ble_eq_true rfl) (jRes_i (by first | rfl | (simp only [fX2_betterInsurer, h1, if_neg h3, if_neg h11, if_neg h17]; done) | (simp only [fX2_betterInsurer, h1, if_neg h3, if_neg h11, if_neg h17]; rfl)) rfl)
def fX2_weeksUntilPutOut (I : jI) (o : Nat) (x : Int32) : Int32 :=
  match (fX2_boilerAt I o x) with
  | none =>
    (-2000000001)
  | some b2 =>
    (fX0_weeksUntilPutOut I b2 (I o 6))
set_option maxRecDepth 100000 in
set_option maxHeartbeats 4000000 in
theorem kX2_weeksUntilPutOut (S : jX) (I : jI) (o : Nat) (x : Int32) (hH : jHouse S o) : jM (2, 0, 0) mX2_weeksUntilPutOut [.ref o, .int x] S I (jRes (some (.int (fX2_weeksUntilPutOut I o x))) S I) := by
  refine jM.of (ls := [.ref o, .int x, .long 0]) (by decide) (Nat.le_of_ble_eq_true rfl) (by intro v hv; simp only [List.mem_cons, List.not_mem_nil, or_false] at hv; rcases hv with rfl | rfl <;> rfl) rfl (fun G hR => ?_)
  refine J_aload_n dX2_weeksUntilPutOut_0 rfl rfl ?_
  refine J_iload_n dX2_weeksUntilPutOut_1 rfl ?_
  refine J_cV1r (mc := mX2_boilerAt) hH.1 (by decide) rfl dX2_weeksUntilPutOut_2 mlX2_52 okX2_boilerAt (kX2_boilerAt S I o x hH) (Nat.le_of_ble_eq_true rfl) (Nat.le_of_ble_eq_true rfl) (Nat.le_of_ble_eq_true rfl) (Nat.le_of_ble_eq_true rfl) ?_
  rcases h1 : (fX2_boilerAt I o x) with _ | b2
  · skip
    refine J_astore_n dX2_weeksUntilPutOut_5 (Nat.le_of_ble_eq_true rfl) rfl ?_
    refine J_aload_n dX2_weeksUntilPutOut_6 rfl rfl ?_
    refine J_ifnonnull_n dX2_weeksUntilPutOut_7 ?_
    refine J_ldc (-2000000001) dX2_weeksUntilPutOut_10 jw_262 ?_
    refine J_goto (tgt := 23) dX2_weeksUntilPutOut_12 (by decide) ?_
    exact J_iret (ty := .int) hR dX2_weeksUntilPutOut_23 rfl rfl (Nat.le_of_ble_eq_true rfl) (Nat.le_of_ble_eq_true rfl) (jRes_i (by first | rfl | (simp only [fX2_weeksUntilPutOut, h1]; done) | (simp only [fX2_weeksUntilPutOut, h1]; rfl)) rfl)
  · skip
    refine J_astore_n dX2_weeksUntilPutOut_5 (Nat.le_of_ble_eq_true rfl) rfl ?_
    refine J_aload_n dX2_weeksUntilPutOut_6 rfl rfl ?_
    refine J_ifnonnull_r (tgt := 15) dX2_weeksUntilPutOut_7 (by decide) ?_
    refine J_aload_n dX2_weeksUntilPutOut_15 rfl rfl ?_
    refine J_aload_n dX2_weeksUntilPutOut_16 rfl rfl ?_
    refine J_getI dX2_weeksUntilPutOut_17 flX2_39 rfl hH.1 ?_
    refine J_cV1r (mc := mX0_weeksUntilPutOut) (kdBoilerAt hH h1) (by decide) rfl dX2_weeksUntilPutOut_20 mlX2_207 okX0_weeksUntilPutOut (kX0_weeksUntilPutOut S I b2 (I o 6) (kdBoilerAt hH h1)) (Nat.le_of_ble_eq_true rfl) (Nat.le_of_ble_eq_true rfl) (Nat.le_of_ble_eq_true rfl) (Nat.le_of_ble_eq_true rfl) ?_
    exact J_iret (ty := .int) hR dX2_weeksUntilPutOut_23 rfl rfl (Nat.le_of_ble_eq_true rfl) (Nat.le_of_ble_eq_true rfl) (jRes_i (by first | rfl | (simp only [fX2_weeksUntilPutOut, h1]; done) | (simp only [fX2_weeksUntilPutOut, h1]; rfl)) rfl)
def fX2_changeSetting (I : jI) (o : Nat) (x : Int32) (y : Int32) : Int32 × jI :=
  if x < 0 then
    ((-2000000001), I)
  else
    if 4 ≤ x then
      ((-2000000001), I)
    else
      if x < 4 then
        if y < 0 then
          ((-2000000001), I)
        else
          if y ≤ (jgs (x).toNatClampNeg) then
            ((I (o + 3) (x).toNatClampNeg), (jset I (o + 3) (x).toNatClampNeg y))
          else
            ((-2000000001), I)
      else
        ((-2000000001), I)
set_option maxRecDepth 100000 in
set_option maxHeartbeats 4000000 in
theorem kX2_changeSetting (S : jX) (I : jI) (o : Nat) (x : Int32) (y : Int32) (hH : jHouse S o) : jM (0, 0, 0) mX2_changeSetting [.ref o, .int x, .int y] S I (jRes (some (.int (fX2_changeSetting I o x y).1)) S (fX2_changeSetting I o x y).2) := by
  refine jM.of (ls := [.ref o, .int x, .int y, .long 0]) (by decide) (Nat.le_of_ble_eq_true rfl) (by intro v hv; simp only [List.mem_cons, List.not_mem_nil, or_false] at hv; rcases hv with rfl | rfl | rfl <;> rfl) rfl (fun G hR => ?_)
  refine J_iload_n dX2_changeSetting_0 rfl ?_
  refine J_if_lt (tgt := 21) dX2_changeSetting_1 (by decide) (fun h1 => ?_) (fun h1 => ?_)
  · skip
    refine J_ldc (-2000000001) dX2_changeSetting_21 jw_262 ?_
    exact J_iret (ty := .int) hR dX2_changeSetting_23 rfl rfl (Nat.le_of_ble_eq_true rfl) (Nat.le_of_ble_eq_true rfl) (jRes_f (by first | rfl | (simp only [fX2_changeSetting, if_pos h1]; done) | (simp only [fX2_changeSetting, if_pos h1]; rfl)))
  · skip
    refine J_iload_n dX2_changeSetting_4 rfl ?_
    refine J_aload_n dX2_changeSetting_5 rfl rfl ?_
    refine J_getR dX2_changeSetting_6 flX2_23 rfl hH.1 hH.r2 ?_
    refine J_alen (x := 4) dX2_changeSetting_9 hH.a2 ⟨by decide, by decide⟩ rfl ?_
    refine J_icmp_ge (tgt := 21) dX2_changeSetting_10 (by decide) (fun h2 => ?_) (fun h2 => ?_)
    · skip
      refine J_ldc (-2000000001) dX2_changeSetting_21 jw_262 ?_
      exact J_iret (ty := .int) hR dX2_changeSetting_23 rfl rfl (Nat.le_of_ble_eq_true rfl) (Nat.le_of_ble_eq_true rfl) (jRes_f (by first | rfl | (simp only [fX2_changeSetting, if_neg h1, if_pos h2]; done) | (simp only [fX2_changeSetting, if_neg h1, if_pos h2]; rfl)))
    · skip
      refine J_iload_n dX2_changeSetting_13 rfl ?_
      refine J_gets dX2_changeSetting_14 jw_446 ?_
      refine J_slen dX2_changeSetting_17 ?_
      refine J_icmp_lt (tgt := 24) dX2_changeSetting_18 (by decide) (fun h3 => ?_) (fun h3 => ?_)
      · skip
        refine J_iload_n dX2_changeSetting_24 rfl ?_
        refine J_if_lt (tgt := 37) dX2_changeSetting_25 (by decide) (fun h4 => ?_) (fun h4 => ?_)
        · skip
          refine J_ldc (-2000000001) dX2_changeSetting_37 jw_262 ?_
          exact J_iret (ty := .int) hR dX2_changeSetting_39 rfl rfl (Nat.le_of_ble_eq_true rfl) (Nat.le_of_ble_eq_true rfl) (jRes_f (by first | rfl | (simp only [fX2_changeSetting, if_neg h1, if_neg h2, if_pos h3, if_pos h4]; done) | (simp only [fX2_changeSetting, if_neg h1, if_neg h2, if_pos h3, if_pos h4]; rfl)))
        · skip
          refine J_iload_n dX2_changeSetting_28 rfl ?_
          refine J_gets dX2_changeSetting_29 jw_446 ?_
          refine J_iload_n dX2_changeSetting_32 rfl ?_
          refine J_sld dX2_changeSetting_33 (jvp_4 (by assumption) (by assumption)) ?_
          refine J_icmp_le (tgt := 40) dX2_changeSetting_34 (by decide) (fun h5 => ?_) (fun h5 => ?_)
          · skip
            refine J_aload_n dX2_changeSetting_40 rfl rfl ?_
            refine J_getR dX2_changeSetting_41 flX2_23 rfl hH.1 hH.r2 ?_
            refine J_iload_n dX2_changeSetting_44 rfl ?_
            refine J_iaload dX2_changeSetting_45 hH.a2 (jvp_4 (by assumption) (by assumption)) ?_
            refine J_istore_n dX2_changeSetting_46 (Nat.le_of_ble_eq_true rfl) ?_
            refine J_aload_n dX2_changeSetting_47 rfl rfl ?_
            refine J_getR dX2_changeSetting_48 flX2_23 rfl hH.1 hH.r2 ?_
            refine J_iload_n dX2_changeSetting_51 rfl ?_
            refine J_iload_n dX2_changeSetting_52 rfl ?_
            refine J_iastore dX2_changeSetting_53 hH.a2 (jvp_4 (by assumption) (by assumption)) ?_
            refine J_iload_n dX2_changeSetting_54 rfl ?_
            exact J_iret (ty := .int) hR dX2_changeSetting_55 rfl rfl (Nat.le_of_ble_eq_true rfl) (Nat.le_of_ble_eq_true rfl) (jRes_f (by first | rfl | (simp only [fX2_changeSetting, if_neg h1, if_neg h2, if_pos h3, if_neg h4, if_pos h5]; done) | (simp only [fX2_changeSetting, if_neg h1, if_neg h2, if_pos h3, if_neg h4, if_pos h5]; rfl)))
          · skip
            refine J_ldc (-2000000001) dX2_changeSetting_37 jw_262 ?_
            exact J_iret (ty := .int) hR dX2_changeSetting_39 rfl rfl (Nat.le_of_ble_eq_true rfl) (Nat.le_of_ble_eq_true rfl) (jRes_f (by first | rfl | (simp only [fX2_changeSetting, if_neg h1, if_neg h2, if_pos h3, if_neg h4, if_neg h5]; done) | (simp only [fX2_changeSetting, if_neg h1, if_neg h2, if_pos h3, if_neg h4, if_neg h5]; rfl)))
      · skip
        refine J_ldc (-2000000001) dX2_changeSetting_21 jw_262 ?_
        exact J_iret (ty := .int) hR dX2_changeSetting_23 rfl rfl (Nat.le_of_ble_eq_true rfl) (Nat.le_of_ble_eq_true rfl) (jRes_f (by first | rfl | (simp only [fX2_changeSetting, if_neg h1, if_neg h2, if_neg h3]; done) | (simp only [fX2_changeSetting, if_neg h1, if_neg h2, if_neg h3]; rfl)))
end
