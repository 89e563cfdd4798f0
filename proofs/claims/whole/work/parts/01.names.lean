/-! part 01: the tables' words (out of the skeleton), the names (out of the printed names) -/
-- ===== PART A: goes FIRST, ahead of the names: the tables' words, and 'selects' of the private methods out of them =====
/-- a private method of a class that the tables say can be made, by its rows of tables_1 -/
def lw_okq (q : MethodName × Nat) : Prop := (q.1.cls ≠ "java/lang/invoke/MethodHandle" ∧ q.1.cls ≠ "java/lang/invoke/VarHandle") ∧ Cond.instantiable q.1.cls q.2 ∈ tables_1 ∧ Cond.privateMethod q.1 ∈ tables_1 ∧ Cond.instanceMethod q.1 ∈ tables_1
theorem lw_p0 : lw_okq (⟨"TrainMile", "finding", "(I)I"⟩, 9) := ⟨⟨by decide +kernel, by decide +kernel⟩, List.mem_of_getElem? (i := 19) (by decide +kernel), List.mem_of_getElem? (i := 457) (by decide +kernel), List.mem_of_getElem? (i := 458) (by decide +kernel)⟩
theorem lw_p1 : lw_okq (⟨"TrainMile", "isPiece", "(I)Z"⟩, 9) := ⟨⟨by decide +kernel, by decide +kernel⟩, List.mem_of_getElem? (i := 19) (by decide +kernel), List.mem_of_getElem? (i := 475) (by decide +kernel), List.mem_of_getElem? (i := 476) (by decide +kernel)⟩
theorem lw_p2 : lw_okq (⟨"TrainMile", "isBetween", "(I)Z"⟩, 9) := ⟨⟨by decide +kernel, by decide +kernel⟩, List.mem_of_getElem? (i := 19) (by decide +kernel), List.mem_of_getElem? (i := 487) (by decide +kernel), List.mem_of_getElem? (i := 488) (by decide +kernel)⟩
theorem lw_p3 : lw_okq (⟨"TrainMile", "isMark", "(I)Z"⟩, 9) := ⟨⟨by decide +kernel, by decide +kernel⟩, List.mem_of_getElem? (i := 19) (by decide +kernel), List.mem_of_getElem? (i := 499) (by decide +kernel), List.mem_of_getElem? (i := 500) (by decide +kernel)⟩
theorem lw_p4 : lw_okq (⟨"TrainMile", "areMarks", "(II)Z"⟩, 9) := ⟨⟨by decide +kernel, by decide +kernel⟩, List.mem_of_getElem? (i := 19) (by decide +kernel), List.mem_of_getElem? (i := 507) (by decide +kernel), List.mem_of_getElem? (i := 508) (by decide +kernel)⟩
theorem lw_p5 : lw_okq (⟨"TrainMile$Road", "arrive", "(III)V"⟩, 13) := ⟨⟨by decide +kernel, by decide +kernel⟩, List.mem_of_getElem? (i := 33) (by decide +kernel), List.mem_of_getElem? (i := 524) (by decide +kernel), List.mem_of_getElem? (i := 525) (by decide +kernel)⟩
theorem lw_p6 : lw_okq (⟨"TrainMile$Road", "goOnByWays", "(III)V"⟩, 13) := ⟨⟨by decide +kernel, by decide +kernel⟩, List.mem_of_getElem? (i := 33) (by decide +kernel), List.mem_of_getElem? (i := 531) (by decide +kernel), List.mem_of_getElem? (i := 532) (by decide +kernel)⟩
theorem lw_p7 : lw_okq (⟨"TrainMile$Road", "leaving", "(II)I"⟩, 13) := ⟨⟨by decide +kernel, by decide +kernel⟩, List.mem_of_getElem? (i := 33) (by decide +kernel), List.mem_of_getElem? (i := 539) (by decide +kernel), List.mem_of_getElem? (i := 540) (by decide +kernel)⟩
theorem lw_p8 : lw_okq (⟨"TrainMile$Road", "openEnd", "(I)I"⟩, 13) := ⟨⟨by decide +kernel, by decide +kernel⟩, List.mem_of_getElem? (i := 33) (by decide +kernel), List.mem_of_getElem? (i := 560) (by decide +kernel), List.mem_of_getElem? (i := 561) (by decide +kernel)⟩
theorem lw_p9 : lw_okq (⟨"TrainMile$Road", "bestNext", "(II)I"⟩, 13) := ⟨⟨by decide +kernel, by decide +kernel⟩, List.mem_of_getElem? (i := 33) (by decide +kernel), List.mem_of_getElem? (i := 564) (by decide +kernel), List.mem_of_getElem? (i := 565) (by decide +kernel)⟩
theorem lw_p10 : lw_okq (⟨"TrainMile", "isRunne\x72", "(I)Z"⟩, 9) := ⟨⟨by decide +kernel, by decide +kernel⟩, List.mem_of_getElem? (i := 19) (by decide +kernel), List.mem_of_getElem? (i := 586) (by decide +kernel), List.mem_of_getElem? (i := 587) (by decide +kernel)⟩
theorem lw_p11 : lw_okq (⟨"TrainMile", "endsFit", "(II)Z"⟩, 9) := ⟨⟨by decide +kernel, by decide +kernel⟩, List.mem_of_getElem? (i := 19) (by decide +kernel), List.mem_of_getElem? (i := 590) (by decide +kernel), List.mem_of_getElem? (i := 591) (by decide +kernel)⟩
theorem lw_p12 : lw_okq (⟨"TrainMile", "numberFits", "(II)Z"⟩, 9) := ⟨⟨by decide +kernel, by decide +kernel⟩, List.mem_of_getElem? (i := 19) (by decide +kernel), List.mem_of_getElem? (i := 594) (by decide +kernel), List.mem_of_getElem? (i := 595) (by decide +kernel)⟩
theorem lw_p13 : lw_okq (⟨"TrainMile", "isGoing", "(I)Z"⟩, 9) := ⟨⟨by decide +kernel, by decide +kernel⟩, List.mem_of_getElem? (i := 19) (by decide +kernel), List.mem_of_getElem? (i := 614) (by decide +kernel), List.mem_of_getElem? (i := 615) (by decide +kernel)⟩
theorem lw_p14 : lw_okq (⟨"TrainMile$Race", "runUpTo", "(ILTrainMile$Body;II)V"⟩, 13) := ⟨⟨by decide +kernel, by decide +kernel⟩, List.mem_of_getElem? (i := 252) (by decide +kernel), List.mem_of_getElem? (i := 649) (by decide +kernel), List.mem_of_getElem? (i := 650) (by decide +kernel)⟩
theorem lw_p15 : lw_okq (⟨"TrainMile$Race", "goAsTold", "(III)V"⟩, 13) := ⟨⟨by decide +kernel, by decide +kernel⟩, List.mem_of_getElem? (i := 252) (by decide +kernel), List.mem_of_getElem? (i := 672) (by decide +kernel), List.mem_of_getElem? (i := 673) (by decide +kernel)⟩
def lw_privs_1 : List (MethodName × Nat) := [(⟨"TrainMile", "finding", "(I)I"⟩, 9), (⟨"TrainMile", "isPiece", "(I)Z"⟩, 9), (⟨"TrainMile", "isBetween", "(I)Z"⟩, 9), (⟨"TrainMile", "isMark", "(I)Z"⟩, 9), (⟨"TrainMile", "areMarks", "(II)Z"⟩, 9), (⟨"TrainMile$Road", "arrive", "(III)V"⟩, 13), (⟨"TrainMile$Road", "goOnByWays", "(III)V"⟩, 13), (⟨"TrainMile$Road", "leaving", "(II)I"⟩, 13), (⟨"TrainMile$Road", "openEnd", "(I)I"⟩, 13), (⟨"TrainMile$Road", "bestNext", "(II)I"⟩, 13), (⟨"TrainMile", "isRunne\x72", "(I)Z"⟩, 9), (⟨"TrainMile", "endsFit", "(II)Z"⟩, 9), (⟨"TrainMile", "numberFits", "(II)Z"⟩, 9), (⟨"TrainMile", "isGoing", "(I)Z"⟩, 9), (⟨"TrainMile$Race", "runUpTo", "(ILTrainMile$Body;II)V"⟩, 13), (⟨"TrainMile$Race", "goAsTold", "(III)V"⟩, 13)]
theorem lw_r1 : ∀ q ∈ lw_privs_1, lw_okq q := List.forall_mem_cons.mpr ⟨lw_p0, List.forall_mem_cons.mpr ⟨lw_p1, List.forall_mem_cons.mpr ⟨lw_p2, List.forall_mem_cons.mpr ⟨lw_p3, List.forall_mem_cons.mpr ⟨lw_p4, List.forall_mem_cons.mpr ⟨lw_p5, List.forall_mem_cons.mpr ⟨lw_p6, List.forall_mem_cons.mpr ⟨lw_p7, List.forall_mem_cons.mpr ⟨lw_p8, List.forall_mem_cons.mpr ⟨lw_p9, List.forall_mem_cons.mpr ⟨lw_p10, List.forall_mem_cons.mpr ⟨lw_p11, List.forall_mem_cons.mpr ⟨lw_p12, List.forall_mem_cons.mpr ⟨lw_p13, List.forall_mem_cons.mpr ⟨lw_p14, List.forall_mem_cons.mpr ⟨lw_p15, fun _ h => absurd h List.not_mem_nil⟩⟩⟩⟩⟩⟩⟩⟩⟩⟩⟩⟩⟩⟩⟩⟩
theorem lw_p16 : lw_okq (⟨"TrainMile$Race", "matHears", "(I)Z"⟩, 13) := ⟨⟨by decide +kernel, by decide +kernel⟩, List.mem_of_getElem? (i := 252) (by decide +kernel), List.mem_of_getElem? (i := 691) (by decide +kernel), List.mem_of_getElem? (i := 692) (by decide +kernel)⟩
theorem lw_p17 : lw_okq (⟨"TrainMile$Race", "rowsFrom", "(IIII)I"⟩, 13) := ⟨⟨by decide +kernel, by decide +kernel⟩, List.mem_of_getElem? (i := 252) (by decide +kernel), List.mem_of_getElem? (i := 739) (by decide +kernel), List.mem_of_getElem? (i := 740) (by decide +kernel)⟩
theorem lw_p18 : lw_okq (⟨"TrainMile$Race", "knownPace", "(III)I"⟩, 13) := ⟨⟨by decide +kernel, by decide +kernel⟩, List.mem_of_getElem? (i := 252) (by decide +kernel), List.mem_of_getElem? (i := 743) (by decide +kernel), List.mem_of_getElem? (i := 744) (by decide +kernel)⟩
theorem lw_p19 : lw_okq (⟨"TrainMile$Reade\x72", "readJoined", "(II)V"⟩, 6) := ⟨⟨by decide +kernel, by decide +kernel⟩, List.mem_of_getElem? (i := 347) (by decide +kernel), List.mem_of_getElem? (i := 765) (by decide +kernel), List.mem_of_getElem? (i := 766) (by decide +kernel)⟩
theorem lw_p20 : lw_okq (⟨"TrainMile$Reade\x72", "readSingle", "(I)V"⟩, 6) := ⟨⟨by decide +kernel, by decide +kernel⟩, List.mem_of_getElem? (i := 347) (by decide +kernel), List.mem_of_getElem? (i := 769) (by decide +kernel), List.mem_of_getElem? (i := 770) (by decide +kernel)⟩
theorem lw_p21 : lw_okq (⟨"TrainMile$Reade\x72", "sign", "()I"⟩, 6) := ⟨⟨by decide +kernel, by decide +kernel⟩, List.mem_of_getElem? (i := 347) (by decide +kernel), List.mem_of_getElem? (i := 773) (by decide +kernel), List.mem_of_getElem? (i := 774) (by decide +kernel)⟩
theorem lw_p22 : lw_okq (⟨"TrainMile$Reade\x72", "readNumbe\x72", "()V"⟩, 6) := ⟨⟨by decide +kernel, by decide +kernel⟩, List.mem_of_getElem? (i := 347) (by decide +kernel), List.mem_of_getElem? (i := 778) (by decide +kernel), List.mem_of_getElem? (i := 779) (by decide +kernel)⟩
theorem lw_p23 : lw_okq (⟨"TrainMile$Reade\x72", "emit", "(I)V"⟩, 6) := ⟨⟨by decide +kernel, by decide +kernel⟩, List.mem_of_getElem? (i := 347) (by decide +kernel), List.mem_of_getElem? (i := 782) (by decide +kernel), List.mem_of_getElem? (i := 783) (by decide +kernel)⟩
theorem lw_p24 : lw_okq (⟨"TrainMile$Reade\x72", "close", "()V"⟩, 6) := ⟨⟨by decide +kernel, by decide +kernel⟩, List.mem_of_getElem? (i := 347) (by decide +kernel), List.mem_of_getElem? (i := 786) (by decide +kernel), List.mem_of_getElem? (i := 787) (by decide +kernel)⟩
theorem lw_p25 : lw_okq (⟨"TrainMile$Reade\x72", "failHere", "()V"⟩, 6) := ⟨⟨by decide +kernel, by decide +kernel⟩, List.mem_of_getElem? (i := 347) (by decide +kernel), List.mem_of_getElem? (i := 790) (by decide +kernel), List.mem_of_getElem? (i := 791) (by decide +kernel)⟩
theorem lw_p26 : lw_okq (⟨"TrainMile$Judge", "nextHeard", "(II)I"⟩, 5) := ⟨⟨by decide +kernel, by decide +kernel⟩, List.mem_of_getElem? (i := 322) (by decide +kernel), List.mem_of_getElem? (i := 819) (by decide +kernel), List.mem_of_getElem? (i := 820) (by decide +kernel)⟩
theorem lw_p27 : lw_okq (⟨"TrainMile", "isSheet", "(I)Z"⟩, 9) := ⟨⟨by decide +kernel, by decide +kernel⟩, List.mem_of_getElem? (i := 19) (by decide +kernel), List.mem_of_getElem? (i := 857) (by decide +kernel), List.mem_of_getElem? (i := 858) (by decide +kernel)⟩
theorem lw_p28 : lw_okq (⟨"TrainMile$Sheet", "sortPart", "(II)V"⟩, 4) := ⟨⟨by decide +kernel, by decide +kernel⟩, List.mem_of_getElem? (i := 400) (by decide +kernel), List.mem_of_getElem? (i := 865) (by decide +kernel), List.mem_of_getElem? (i := 866) (by decide +kernel)⟩
theorem lw_p29 : lw_okq (⟨"TrainMile$Judge", "minutesBetween", "(III)I"⟩, 5) := ⟨⟨by decide +kernel, by decide +kernel⟩, List.mem_of_getElem? (i := 322) (by decide +kernel), List.mem_of_getElem? (i := 890) (by decide +kernel), List.mem_of_getElem? (i := 891) (by decide +kernel)⟩
theorem lw_p30 : lw_okq (⟨"TrainMile$Judge", "deafMats", "(I)I"⟩, 5) := ⟨⟨by decide +kernel, by decide +kernel⟩, List.mem_of_getElem? (i := 322) (by decide +kernel), List.mem_of_getElem? (i := 894) (by decide +kernel), List.mem_of_getElem? (i := 895) (by decide +kernel)⟩
theorem lw_p31 : lw_okq (⟨"TrainMile$Judge", "companions", "(I)I"⟩, 5) := ⟨⟨by decide +kernel, by decide +kernel⟩, List.mem_of_getElem? (i := 322) (by decide +kernel), List.mem_of_getElem? (i := 899) (by decide +kernel), List.mem_of_getElem? (i := 900) (by decide +kernel)⟩
def lw_privs_2 : List (MethodName × Nat) := [(⟨"TrainMile$Race", "matHears", "(I)Z"⟩, 13), (⟨"TrainMile$Race", "rowsFrom", "(IIII)I"⟩, 13), (⟨"TrainMile$Race", "knownPace", "(III)I"⟩, 13), (⟨"TrainMile$Reade\x72", "readJoined", "(II)V"⟩, 6), (⟨"TrainMile$Reade\x72", "readSingle", "(I)V"⟩, 6), (⟨"TrainMile$Reade\x72", "sign", "()I"⟩, 6), (⟨"TrainMile$Reade\x72", "readNumbe\x72", "()V"⟩, 6), (⟨"TrainMile$Reade\x72", "emit", "(I)V"⟩, 6), (⟨"TrainMile$Reade\x72", "close", "()V"⟩, 6), (⟨"TrainMile$Reade\x72", "failHere", "()V"⟩, 6), (⟨"TrainMile$Judge", "nextHeard", "(II)I"⟩, 5), (⟨"TrainMile", "isSheet", "(I)Z"⟩, 9), (⟨"TrainMile$Sheet", "sortPart", "(II)V"⟩, 4), (⟨"TrainMile$Judge", "minutesBetween", "(III)I"⟩, 5), (⟨"TrainMile$Judge", "deafMats", "(I)I"⟩, 5), (⟨"TrainMile$Judge", "companions", "(I)I"⟩, 5)]
theorem lw_r2 : ∀ q ∈ lw_privs_2, lw_okq q := List.forall_mem_cons.mpr ⟨lw_p16, List.forall_mem_cons.mpr ⟨lw_p17, List.forall_mem_cons.mpr ⟨lw_p18, List.forall_mem_cons.mpr ⟨lw_p19, List.forall_mem_cons.mpr ⟨lw_p20, List.forall_mem_cons.mpr ⟨lw_p21, List.forall_mem_cons.mpr ⟨lw_p22, List.forall_mem_cons.mpr ⟨lw_p23, List.forall_mem_cons.mpr ⟨lw_p24, List.forall_mem_cons.mpr ⟨lw_p25, List.forall_mem_cons.mpr ⟨lw_p26, List.forall_mem_cons.mpr ⟨lw_p27, List.forall_mem_cons.mpr ⟨lw_p28, List.forall_mem_cons.mpr ⟨lw_p29, List.forall_mem_cons.mpr ⟨lw_p30, List.forall_mem_cons.mpr ⟨lw_p31, fun _ h => absurd h List.not_mem_nil⟩⟩⟩⟩⟩⟩⟩⟩⟩⟩⟩⟩⟩⟩⟩⟩
theorem lw_p32 : lw_okq (⟨"TrainMile", "isSet", "(I)Z"⟩, 9) := ⟨⟨by decide +kernel, by decide +kernel⟩, List.mem_of_getElem? (i := 19) (by decide +kernel), List.mem_of_getElem? (i := 913) (by decide +kernel), List.mem_of_getElem? (i := 914) (by decide +kernel)⟩
theorem lw_p33 : lw_okq (⟨"TrainMile$Judge", "minutesInAll", "(I)I"⟩, 5) := ⟨⟨by decide +kernel, by decide +kernel⟩, List.mem_of_getElem? (i := 322) (by decide +kernel), List.mem_of_getElem? (i := 926) (by decide +kernel), List.mem_of_getElem? (i := 927) (by decide +kernel)⟩
theorem lw_p34 : lw_okq (⟨"TrainMile$Runners", "findRivals", "(I)V"⟩, 8) := ⟨⟨by decide +kernel, by decide +kernel⟩, List.mem_of_getElem? (i := 99) (by decide +kernel), List.mem_of_getElem? (i := 951) (by decide +kernel), List.mem_of_getElem? (i := 952) (by decide +kernel)⟩
theorem lw_p35 : lw_okq (⟨"TrainMile$Runners", "clash", "(II)Z"⟩, 8) := ⟨⟨by decide +kernel, by decide +kernel⟩, List.mem_of_getElem? (i := 99) (by decide +kernel), List.mem_of_getElem? (i := 955) (by decide +kernel), List.mem_of_getElem? (i := 956) (by decide +kernel)⟩
theorem lw_p36 : lw_okq (⟨"TrainMile$Runners", "isClashFree", "(II)Z"⟩, 8) := ⟨⟨by decide +kernel, by decide +kernel⟩, List.mem_of_getElem? (i := 99) (by decide +kernel), List.mem_of_getElem? (i := 965) (by decide +kernel), List.mem_of_getElem? (i := 966) (by decide +kernel)⟩
theorem lw_p37 : lw_okq (⟨"TrainMile$Voices", "call", "(IIII)I"⟩, 5) := ⟨⟨by decide +kernel, by decide +kernel⟩, List.mem_of_getElem? (i := 375) (by decide +kernel), List.mem_of_getElem? (i := 977) (by decide +kernel), List.mem_of_getElem? (i := 978) (by decide +kernel)⟩
theorem lw_p38 : lw_okq (⟨"TrainMile$Voices", "sayGoing", "(III)I"⟩, 5) := ⟨⟨by decide +kernel, by decide +kernel⟩, List.mem_of_getElem? (i := 375) (by decide +kernel), List.mem_of_getElem? (i := 984) (by decide +kernel), List.mem_of_getElem? (i := 985) (by decide +kernel)⟩
theorem lw_p39 : lw_okq (⟨"TrainMile$Voices", "sayUnde\x72", "(IIII)I"⟩, 5) := ⟨⟨by decide +kernel, by decide +kernel⟩, List.mem_of_getElem? (i := 375) (by decide +kernel), List.mem_of_getElem? (i := 988) (by decide +kernel), List.mem_of_getElem? (i := 989) (by decide +kernel)⟩
theorem lw_p40 : lw_okq (⟨"TrainMileModel", "begins", "(I)V"⟩, 31) := ⟨⟨by decide +kernel, by decide +kernel⟩, List.mem_of_getElem? (i := 1071) (by decide +kernel), List.mem_of_getElem? (i := 1077) (by decide +kernel), List.mem_of_getElem? (i := 1078) (by decide +kernel)⟩
theorem lw_p41 : lw_okq (⟨"TrainMileModel", "finding", "(I)I"⟩, 31) := ⟨⟨by decide +kernel, by decide +kernel⟩, List.mem_of_getElem? (i := 1071) (by decide +kernel), List.mem_of_getElem? (i := 1183) (by decide +kernel), List.mem_of_getElem? (i := 1184) (by decide +kernel)⟩
theorem lw_p42 : lw_okq (⟨"TrainMileModel", "becomes", "(II)I"⟩, 31) := ⟨⟨by decide +kernel, by decide +kernel⟩, List.mem_of_getElem? (i := 1071) (by decide +kernel), List.mem_of_getElem? (i := 1192) (by decide +kernel), List.mem_of_getElem? (i := 1193) (by decide +kernel)⟩
theorem lw_p43 : lw_okq (⟨"TrainMileModel", "isMark", "(I)Z"⟩, 31) := ⟨⟨by decide +kernel, by decide +kernel⟩, List.mem_of_getElem? (i := 1071) (by decide +kernel), List.mem_of_getElem? (i := 1208) (by decide +kernel), List.mem_of_getElem? (i := 1209) (by decide +kernel)⟩
theorem lw_p44 : lw_okq (⟨"TrainMileModel", "findThere", "(IIII)V"⟩, 31) := ⟨⟨by decide +kernel, by decide +kernel⟩, List.mem_of_getElem? (i := 1071) (by decide +kernel), List.mem_of_getElem? (i := 1220) (by decide +kernel), List.mem_of_getElem? (i := 1221) (by decide +kernel)⟩
theorem lw_p45 : lw_okq (⟨"TrainMileModel", "wa", "(II)I"⟩, 31) := ⟨⟨by decide +kernel, by decide +kernel⟩, List.mem_of_getElem? (i := 1071) (by decide +kernel), List.mem_of_getElem? (i := 1225) (by decide +kernel), List.mem_of_getElem? (i := 1226) (by decide +kernel)⟩
theorem lw_p46 : lw_okq (⟨"TrainMileModel", "leaves", "(II)I"⟩, 31) := ⟨⟨by decide +kernel, by decide +kernel⟩, List.mem_of_getElem? (i := 1071) (by decide +kernel), List.mem_of_getElem? (i := 1229) (by decide +kernel), List.mem_of_getElem? (i := 1230) (by decide +kernel)⟩
theorem lw_p47 : lw_okq (⟨"TrainMileModel", "needed", "(II)I"⟩, 31) := ⟨⟨by decide +kernel, by decide +kernel⟩, List.mem_of_getElem? (i := 1071) (by decide +kernel), List.mem_of_getElem? (i := 1237) (by decide +kernel), List.mem_of_getElem? (i := 1238) (by decide +kernel)⟩
def lw_privs_3 : List (MethodName × Nat) := [(⟨"TrainMile", "isSet", "(I)Z"⟩, 9), (⟨"TrainMile$Judge", "minutesInAll", "(I)I"⟩, 5), (⟨"TrainMile$Runners", "findRivals", "(I)V"⟩, 8), (⟨"TrainMile$Runners", "clash", "(II)Z"⟩, 8), (⟨"TrainMile$Runners", "isClashFree", "(II)Z"⟩, 8), (⟨"TrainMile$Voices", "call", "(IIII)I"⟩, 5), (⟨"TrainMile$Voices", "sayGoing", "(III)I"⟩, 5), (⟨"TrainMile$Voices", "sayUnde\x72", "(IIII)I"⟩, 5), (⟨"TrainMileModel", "begins", "(I)V"⟩, 31), (⟨"TrainMileModel", "finding", "(I)I"⟩, 31), (⟨"TrainMileModel", "becomes", "(II)I"⟩, 31), (⟨"TrainMileModel", "isMark", "(I)Z"⟩, 31), (⟨"TrainMileModel", "findThere", "(IIII)V"⟩, 31), (⟨"TrainMileModel", "wa", "(II)I"⟩, 31), (⟨"TrainMileModel", "leaves", "(II)I"⟩, 31), (⟨"TrainMileModel", "needed", "(II)I"⟩, 31)]
theorem lw_r3 : ∀ q ∈ lw_privs_3, lw_okq q := List.forall_mem_cons.mpr ⟨lw_p32, List.forall_mem_cons.mpr ⟨lw_p33, List.forall_mem_cons.mpr ⟨lw_p34, List.forall_mem_cons.mpr ⟨lw_p35, List.forall_mem_cons.mpr ⟨lw_p36, List.forall_mem_cons.mpr ⟨lw_p37, List.forall_mem_cons.mpr ⟨lw_p38, List.forall_mem_cons.mpr ⟨lw_p39, List.forall_mem_cons.mpr ⟨lw_p40, List.forall_mem_cons.mpr ⟨lw_p41, List.forall_mem_cons.mpr ⟨lw_p42, List.forall_mem_cons.mpr ⟨lw_p43, List.forall_mem_cons.mpr ⟨lw_p44, List.forall_mem_cons.mpr ⟨lw_p45, List.forall_mem_cons.mpr ⟨lw_p46, List.forall_mem_cons.mpr ⟨lw_p47, fun _ h => absurd h List.not_mem_nil⟩⟩⟩⟩⟩⟩⟩⟩⟩⟩⟩⟩⟩⟩⟩⟩
theorem lw_p48 : lw_okq (⟨"TrainMileModel", "isRunne\x72", "(I)Z"⟩, 31) := ⟨⟨by decide +kernel, by decide +kernel⟩, List.mem_of_getElem? (i := 1071) (by decide +kernel), List.mem_of_getElem? (i := 1249) (by decide +kernel), List.mem_of_getElem? (i := 1250) (by decide +kernel)⟩
theorem lw_p49 : lw_okq (⟨"TrainMileModel", "isNumbe\x72", "(II)Z"⟩, 31) := ⟨⟨by decide +kernel, by decide +kernel⟩, List.mem_of_getElem? (i := 1071) (by decide +kernel), List.mem_of_getElem? (i := 1256) (by decide +kernel), List.mem_of_getElem? (i := 1257) (by decide +kernel)⟩
theorem lw_p50 : lw_okq (⟨"TrainMileModel", "isWay", "(I)Z"⟩, 31) := ⟨⟨by decide +kernel, by decide +kernel⟩, List.mem_of_getElem? (i := 1071) (by decide +kernel), List.mem_of_getElem? (i := 1260) (by decide +kernel), List.mem_of_getElem? (i := 1261) (by decide +kernel)⟩
theorem lw_p51 : lw_okq (⟨"TrainMileModel", "isGoing", "(I)Z"⟩, 31) := ⟨⟨by decide +kernel, by decide +kernel⟩, List.mem_of_getElem? (i := 1071) (by decide +kernel), List.mem_of_getElem? (i := 1272) (by decide +kernel), List.mem_of_getElem? (i := 1273) (by decide +kernel)⟩
theorem lw_p52 : lw_okq (⟨"TrainMileModel", "go", "(II)I"⟩, 31) := ⟨⟨by decide +kernel, by decide +kernel⟩, List.mem_of_getElem? (i := 1071) (by decide +kernel), List.mem_of_getElem? (i := 1276) (by decide +kernel), List.mem_of_getElem? (i := 1277) (by decide +kernel)⟩
theorem lw_p53 : lw_okq (⟨"TrainMileModel", "runs", "(I)V"⟩, 31) := ⟨⟨by decide +kernel, by decide +kernel⟩, List.mem_of_getElem? (i := 1071) (by decide +kernel), List.mem_of_getElem? (i := 1296) (by decide +kernel), List.mem_of_getElem? (i := 1297) (by decide +kernel)⟩
theorem lw_p54 : lw_okq (⟨"TrainMileModel", "goingAt", "(II)I"⟩, 31) := ⟨⟨by decide +kernel, by decide +kernel⟩, List.mem_of_getElem? (i := 1071) (by decide +kernel), List.mem_of_getElem? (i := 1300) (by decide +kernel), List.mem_of_getElem? (i := 1301) (by decide +kernel)⟩
theorem lw_p55 : lw_okq (⟨"TrainMileModel", "strength", "(I)I"⟩, 31) := ⟨⟨by decide +kernel, by decide +kernel⟩, List.mem_of_getElem? (i := 1071) (by decide +kernel), List.mem_of_getElem? (i := 1304) (by decide +kernel), List.mem_of_getElem? (i := 1305) (by decide +kernel)⟩
theorem lw_p56 : lw_okq (⟨"TrainMileModel", "piece", "(I)I"⟩, 31) := ⟨⟨by decide +kernel, by decide +kernel⟩, List.mem_of_getElem? (i := 1071) (by decide +kernel), List.mem_of_getElem? (i := 1308) (by decide +kernel), List.mem_of_getElem? (i := 1309) (by decide +kernel)⟩
theorem lw_p57 : lw_okq (⟨"TrainMileModel", "paceOf", "(IIIII)I"⟩, 31) := ⟨⟨by decide +kernel, by decide +kernel⟩, List.mem_of_getElem? (i := 1071) (by decide +kernel), List.mem_of_getElem? (i := 1312) (by decide +kernel), List.mem_of_getElem? (i := 1313) (by decide +kernel)⟩
theorem lw_p58 : lw_okq (⟨"TrainMileModel", "tells", "(I)I"⟩, 31) := ⟨⟨by decide +kernel, by decide +kernel⟩, List.mem_of_getElem? (i := 1071) (by decide +kernel), List.mem_of_getElem? (i := 1316) (by decide +kernel), List.mem_of_getElem? (i := 1317) (by decide +kernel)⟩
theorem lw_p59 : lw_okq (⟨"TrainMileModel", "reads", "(II)I"⟩, 31) := ⟨⟨by decide +kernel, by decide +kernel⟩, List.mem_of_getElem? (i := 1071) (by decide +kernel), List.mem_of_getElem? (i := 1320) (by decide +kernel), List.mem_of_getElem? (i := 1321) (by decide +kernel)⟩
theorem lw_p60 : lw_okq (⟨"TrainMileModel", "eithe\x72", "()I"⟩, 31) := ⟨⟨by decide +kernel, by decide +kernel⟩, List.mem_of_getElem? (i := 1071) (by decide +kernel), List.mem_of_getElem? (i := 1324) (by decide +kernel), List.mem_of_getElem? (i := 1325) (by decide +kernel)⟩
theorem lw_p61 : lw_okq (⟨"TrainMileModel", "both", "()I"⟩, 31) := ⟨⟨by decide +kernel, by decide +kernel⟩, List.mem_of_getElem? (i := 1071) (by decide +kernel), List.mem_of_getElem? (i := 1328) (by decide +kernel), List.mem_of_getElem? (i := 1329) (by decide +kernel)⟩
theorem lw_p62 : lw_okq (⟨"TrainMileModel", "relation", "()I"⟩, 31) := ⟨⟨by decide +kernel, by decide +kernel⟩, List.mem_of_getElem? (i := 1071) (by decide +kernel), List.mem_of_getElem? (i := 1332) (by decide +kernel), List.mem_of_getElem? (i := 1333) (by decide +kernel)⟩
theorem lw_p63 : lw_okq (⟨"TrainMileModel", "added", "()I"⟩, 31) := ⟨⟨by decide +kernel, by decide +kernel⟩, List.mem_of_getElem? (i := 1071) (by decide +kernel), List.mem_of_getElem? (i := 1336) (by decide +kernel), List.mem_of_getElem? (i := 1337) (by decide +kernel)⟩
def lw_privs_4 : List (MethodName × Nat) := [(⟨"TrainMileModel", "isRunne\x72", "(I)Z"⟩, 31), (⟨"TrainMileModel", "isNumbe\x72", "(II)Z"⟩, 31), (⟨"TrainMileModel", "isWay", "(I)Z"⟩, 31), (⟨"TrainMileModel", "isGoing", "(I)Z"⟩, 31), (⟨"TrainMileModel", "go", "(II)I"⟩, 31), (⟨"TrainMileModel", "runs", "(I)V"⟩, 31), (⟨"TrainMileModel", "goingAt", "(II)I"⟩, 31), (⟨"TrainMileModel", "strength", "(I)I"⟩, 31), (⟨"TrainMileModel", "piece", "(I)I"⟩, 31), (⟨"TrainMileModel", "paceOf", "(IIIII)I"⟩, 31), (⟨"TrainMileModel", "tells", "(I)I"⟩, 31), (⟨"TrainMileModel", "reads", "(II)I"⟩, 31), (⟨"TrainMileModel", "eithe\x72", "()I"⟩, 31), (⟨"TrainMileModel", "both", "()I"⟩, 31), (⟨"TrainMileModel", "relation", "()I"⟩, 31), (⟨"TrainMileModel", "added", "()I"⟩, 31)]
theorem lw_r4 : ∀ q ∈ lw_privs_4, lw_okq q := List.forall_mem_cons.mpr ⟨lw_p48, List.forall_mem_cons.mpr ⟨lw_p49, List.forall_mem_cons.mpr ⟨lw_p50, List.forall_mem_cons.mpr ⟨lw_p51, List.forall_mem_cons.mpr ⟨lw_p52, List.forall_mem_cons.mpr ⟨lw_p53, List.forall_mem_cons.mpr ⟨lw_p54, List.forall_mem_cons.mpr ⟨lw_p55, List.forall_mem_cons.mpr ⟨lw_p56, List.forall_mem_cons.mpr ⟨lw_p57, List.forall_mem_cons.mpr ⟨lw_p58, List.forall_mem_cons.mpr ⟨lw_p59, List.forall_mem_cons.mpr ⟨lw_p60, List.forall_mem_cons.mpr ⟨lw_p61, List.forall_mem_cons.mpr ⟨lw_p62, List.forall_mem_cons.mpr ⟨lw_p63, fun _ h => absurd h List.not_mem_nil⟩⟩⟩⟩⟩⟩⟩⟩⟩⟩⟩⟩⟩⟩⟩⟩
theorem lw_p64 : lw_okq (⟨"TrainMileModel", "term", "()I"⟩, 31) := ⟨⟨by decide +kernel, by decide +kernel⟩, List.mem_of_getElem? (i := 1071) (by decide +kernel), List.mem_of_getElem? (i := 1340) (by decide +kernel), List.mem_of_getElem? (i := 1341) (by decide +kernel)⟩
theorem lw_p65 : lw_okq (⟨"TrainMileModel", "single", "()I"⟩, 31) := ⟨⟨by decide +kernel, by decide +kernel⟩, List.mem_of_getElem? (i := 1071) (by decide +kernel), List.mem_of_getElem? (i := 1344) (by decide +kernel), List.mem_of_getElem? (i := 1345) (by decide +kernel)⟩
theorem lw_p66 : lw_okq (⟨"TrainMileModel", "byteAt", "()I"⟩, 31) := ⟨⟨by decide +kernel, by decide +kernel⟩, List.mem_of_getElem? (i := 1071) (by decide +kernel), List.mem_of_getElem? (i := 1348) (by decide +kernel), List.mem_of_getElem? (i := 1349) (by decide +kernel)⟩
theorem lw_p67 : lw_okq (⟨"TrainMileModel", "eats", "(I)Z"⟩, 31) := ⟨⟨by decide +kernel, by decide +kernel⟩, List.mem_of_getElem? (i := 1071) (by decide +kernel), List.mem_of_getElem? (i := 1352) (by decide +kernel), List.mem_of_getElem? (i := 1353) (by decide +kernel)⟩
theorem lw_p68 : lw_okq (⟨"TrainMileModel", "hears", "(I)V"⟩, 31) := ⟨⟨by decide +kernel, by decide +kernel⟩, List.mem_of_getElem? (i := 1071) (by decide +kernel), List.mem_of_getElem? (i := 1356) (by decide +kernel), List.mem_of_getElem? (i := 1357) (by decide +kernel)⟩
theorem lw_p69 : lw_okq (⟨"TrainMileModel", "carrie\x72", "(II)I"⟩, 31) := ⟨⟨by decide +kernel, by decide +kernel⟩, List.mem_of_getElem? (i := 1071) (by decide +kernel), List.mem_of_getElem? (i := 1360) (by decide +kernel), List.mem_of_getElem? (i := 1361) (by decide +kernel)⟩
theorem lw_p70 : lw_okq (⟨"TrainMileModel", "isMissed", "(II)Z"⟩, 31) := ⟨⟨by decide +kernel, by decide +kernel⟩, List.mem_of_getElem? (i := 1071) (by decide +kernel), List.mem_of_getElem? (i := 1365) (by decide +kernel), List.mem_of_getElem? (i := 1366) (by decide +kernel)⟩
theorem lw_p71 : lw_okq (⟨"TrainMileModel", "heardAt", "(II)I"⟩, 31) := ⟨⟨by decide +kernel, by decide +kernel⟩, List.mem_of_getElem? (i := 1071) (by decide +kernel), List.mem_of_getElem? (i := 1369) (by decide +kernel), List.mem_of_getElem? (i := 1370) (by decide +kernel)⟩
theorem lw_p72 : lw_okq (⟨"TrainMileModel", "rowsFrom", "(IIIIIIZ)J"⟩, 31) := ⟨⟨by decide +kernel, by decide +kernel⟩, List.mem_of_getElem? (i := 1071) (by decide +kernel), List.mem_of_getElem? (i := 1393) (by decide +kernel), List.mem_of_getElem? (i := 1394) (by decide +kernel)⟩
theorem lw_p73 : lw_okq (⟨"TrainMileModel", "findGap", "(II)Z"⟩, 31) := ⟨⟨by decide +kernel, by decide +kernel⟩, List.mem_of_getElem? (i := 1071) (by decide +kernel), List.mem_of_getElem? (i := 1415) (by decide +kernel), List.mem_of_getElem? (i := 1416) (by decide +kernel)⟩
theorem lw_p74 : lw_okq (⟨"TrainMileModel", "mayRide", "(IIII)Z"⟩, 31) := ⟨⟨by decide +kernel, by decide +kernel⟩, List.mem_of_getElem? (i := 1071) (by decide +kernel), List.mem_of_getElem? (i := 1419) (by decide +kernel), List.mem_of_getElem? (i := 1420) (by decide +kernel)⟩
theorem lw_p75 : lw_okq (⟨"TrainMileModel", "areTogethe\x72", "(III)Z"⟩, 31) := ⟨⟨by decide +kernel, by decide +kernel⟩, List.mem_of_getElem? (i := 1071) (by decide +kernel), List.mem_of_getElem? (i := 1427) (by decide +kernel), List.mem_of_getElem? (i := 1428) (by decide +kernel)⟩
theorem lw_p76 : lw_okq (⟨"TrainMileModel", "isHeardIn", "(III)Z"⟩, 31) := ⟨⟨by decide +kernel, by decide +kernel⟩, List.mem_of_getElem? (i := 1071) (by decide +kernel), List.mem_of_getElem? (i := 1435) (by decide +kernel), List.mem_of_getElem? (i := 1436) (by decide +kernel)⟩
theorem lw_p77 : lw_okq (⟨"TrainMileModel", "offMiddle", "(III)J"⟩, 31) := ⟨⟨by decide +kernel, by decide +kernel⟩, List.mem_of_getElem? (i := 1071) (by decide +kernel), List.mem_of_getElem? (i := 1443) (by decide +kernel), List.mem_of_getElem? (i := 1444) (by decide +kernel)⟩
theorem lw_p78 : lw_okq (⟨"TrainMileModel", "oddOf", "(I)I"⟩, 31) := ⟨⟨by decide +kernel, by decide +kernel⟩, List.mem_of_getElem? (i := 1071) (by decide +kernel), List.mem_of_getElem? (i := 1451) (by decide +kernel), List.mem_of_getElem? (i := 1452) (by decide +kernel)⟩
theorem lw_p79 : lw_okq (⟨"TrainMileModel", "between", "(III)I"⟩, 31) := ⟨⟨by decide +kernel, by decide +kernel⟩, List.mem_of_getElem? (i := 1071) (by decide +kernel), List.mem_of_getElem? (i := 1455) (by decide +kernel), List.mem_of_getElem? (i := 1456) (by decide +kernel)⟩
def lw_privs_5 : List (MethodName × Nat) := [(⟨"TrainMileModel", "term", "()I"⟩, 31), (⟨"TrainMileModel", "single", "()I"⟩, 31), (⟨"TrainMileModel", "byteAt", "()I"⟩, 31), (⟨"TrainMileModel", "eats", "(I)Z"⟩, 31), (⟨"TrainMileModel", "hears", "(I)V"⟩, 31), (⟨"TrainMileModel", "carrie\x72", "(II)I"⟩, 31), (⟨"TrainMileModel", "isMissed", "(II)Z"⟩, 31), (⟨"TrainMileModel", "heardAt", "(II)I"⟩, 31), (⟨"TrainMileModel", "rowsFrom", "(IIIIIIZ)J"⟩, 31), (⟨"TrainMileModel", "findGap", "(II)Z"⟩, 31), (⟨"TrainMileModel", "mayRide", "(IIII)Z"⟩, 31), (⟨"TrainMileModel", "areTogethe\x72", "(III)Z"⟩, 31), (⟨"TrainMileModel", "isHeardIn", "(III)Z"⟩, 31), (⟨"TrainMileModel", "offMiddle", "(III)J"⟩, 31), (⟨"TrainMileModel", "oddOf", "(I)I"⟩, 31), (⟨"TrainMileModel", "between", "(III)I"⟩, 31)]
theorem lw_r5 : ∀ q ∈ lw_privs_5, lw_okq q := List.forall_mem_cons.mpr ⟨lw_p64, List.forall_mem_cons.mpr ⟨lw_p65, List.forall_mem_cons.mpr ⟨lw_p66, List.forall_mem_cons.mpr ⟨lw_p67, List.forall_mem_cons.mpr ⟨lw_p68, List.forall_mem_cons.mpr ⟨lw_p69, List.forall_mem_cons.mpr ⟨lw_p70, List.forall_mem_cons.mpr ⟨lw_p71, List.forall_mem_cons.mpr ⟨lw_p72, List.forall_mem_cons.mpr ⟨lw_p73, List.forall_mem_cons.mpr ⟨lw_p74, List.forall_mem_cons.mpr ⟨lw_p75, List.forall_mem_cons.mpr ⟨lw_p76, List.forall_mem_cons.mpr ⟨lw_p77, List.forall_mem_cons.mpr ⟨lw_p78, List.forall_mem_cons.mpr ⟨lw_p79, fun _ h => absurd h List.not_mem_nil⟩⟩⟩⟩⟩⟩⟩⟩⟩⟩⟩⟩⟩⟩⟩⟩
theorem lw_p80 : lw_okq (⟨"TrainMileModel", "isSet", "(I)Z"⟩, 31) := ⟨⟨by decide +kernel, by decide +kernel⟩, List.mem_of_getElem? (i := 1071) (by decide +kernel), List.mem_of_getElem? (i := 1467) (by decide +kernel), List.mem_of_getElem? (i := 1468) (by decide +kernel)⟩
theorem lw_p81 : lw_okq (⟨"TrainMileModel", "placeOf", "(II)I"⟩, 31) := ⟨⟨by decide +kernel, by decide +kernel⟩, List.mem_of_getElem? (i := 1071) (by decide +kernel), List.mem_of_getElem? (i := 1471) (by decide +kernel), List.mem_of_getElem? (i := 1472) (by decide +kernel)⟩
theorem lw_p82 : lw_okq (⟨"TrainMileModel", "took", "(I)I"⟩, 31) := ⟨⟨by decide +kernel, by decide +kernel⟩, List.mem_of_getElem? (i := 1071) (by decide +kernel), List.mem_of_getElem? (i := 1475) (by decide +kernel), List.mem_of_getElem? (i := 1476) (by decide +kernel)⟩
theorem lw_p83 : lw_okq (⟨"TrainMileModel", "clash", "(III)Z"⟩, 31) := ⟨⟨by decide +kernel, by decide +kernel⟩, List.mem_of_getElem? (i := 1071) (by decide +kernel), List.mem_of_getElem? (i := 1491) (by decide +kernel), List.mem_of_getElem? (i := 1492) (by decide +kernel)⟩
theorem lw_p84 : lw_okq (⟨"TrainMileModel", "goIt", "(I)I"⟩, 31) := ⟨⟨by decide +kernel, by decide +kernel⟩, List.mem_of_getElem? (i := 1071) (by decide +kernel), List.mem_of_getElem? (i := 1499) (by decide +kernel), List.mem_of_getElem? (i := 1500) (by decide +kernel)⟩
theorem lw_p85 : lw_okq (⟨"TrainMileModel", "ran", "(I)V"⟩, 31) := ⟨⟨by decide +kernel, by decide +kernel⟩, List.mem_of_getElem? (i := 1071) (by decide +kernel), List.mem_of_getElem? (i := 1503) (by decide +kernel), List.mem_of_getElem? (i := 1504) (by decide +kernel)⟩
theorem lw_p86 : lw_okq (⟨"TrainMileModel", "goingGo", "(I)I"⟩, 31) := ⟨⟨by decide +kernel, by decide +kernel⟩, List.mem_of_getElem? (i := 1071) (by decide +kernel), List.mem_of_getElem? (i := 1507) (by decide +kernel), List.mem_of_getElem? (i := 1508) (by decide +kernel)⟩
theorem lw_p87 : lw_okq (⟨"TrainMileModel", "showIt", "(I)I"⟩, 31) := ⟨⟨by decide +kernel, by decide +kernel⟩, List.mem_of_getElem? (i := 1071) (by decide +kernel), List.mem_of_getElem? (i := 1511) (by decide +kernel), List.mem_of_getElem? (i := 1512) (by decide +kernel)⟩
theorem lw_p88 : lw_okq (⟨"TrainMileModel", "goingShow", "(I)I"⟩, 31) := ⟨⟨by decide +kernel, by decide +kernel⟩, List.mem_of_getElem? (i := 1071) (by decide +kernel), List.mem_of_getElem? (i := 1515) (by decide +kernel), List.mem_of_getElem? (i := 1516) (by decide +kernel)⟩
theorem lw_p89 : lw_okq (⟨"TrainMileModel", "weighIt", "(I)I"⟩, 31) := ⟨⟨by decide +kernel, by decide +kernel⟩, List.mem_of_getElem? (i := 1071) (by decide +kernel), List.mem_of_getElem? (i := 1519) (by decide +kernel), List.mem_of_getElem? (i := 1520) (by decide +kernel)⟩
theorem lw_p90 : lw_okq (⟨"TrainMileModel", "runWeigh", "(I)I"⟩, 31) := ⟨⟨by decide +kernel, by decide +kernel⟩, List.mem_of_getElem? (i := 1071) (by decide +kernel), List.mem_of_getElem? (i := 1523) (by decide +kernel), List.mem_of_getElem? (i := 1524) (by decide +kernel)⟩
theorem lw_p91 : lw_okq (⟨"TrainMileModel", "goingWeigh", "(I)I"⟩, 31) := ⟨⟨by decide +kernel, by decide +kernel⟩, List.mem_of_getElem? (i := 1071) (by decide +kernel), List.mem_of_getElem? (i := 1527) (by decide +kernel), List.mem_of_getElem? (i := 1528) (by decide +kernel)⟩
theorem lw_p92 : lw_okq (⟨"TrainMileModel", "tellIt", "(I)I"⟩, 31) := ⟨⟨by decide +kernel, by decide +kernel⟩, List.mem_of_getElem? (i := 1071) (by decide +kernel), List.mem_of_getElem? (i := 1531) (by decide +kernel), List.mem_of_getElem? (i := 1532) (by decide +kernel)⟩
theorem lw_p93 : lw_okq (⟨"TrainMileModel", "goingTell", "(I)I"⟩, 31) := ⟨⟨by decide +kernel, by decide +kernel⟩, List.mem_of_getElem? (i := 1071) (by decide +kernel), List.mem_of_getElem? (i := 1535) (by decide +kernel), List.mem_of_getElem? (i := 1536) (by decide +kernel)⟩
theorem lw_p94 : lw_okq (⟨"TrainMileModel", "has", "(III)Z"⟩, 31) := ⟨⟨by decide +kernel, by decide +kernel⟩, List.mem_of_getElem? (i := 1071) (by decide +kernel), List.mem_of_getElem? (i := 1555) (by decide +kernel), List.mem_of_getElem? (i := 1556) (by decide +kernel)⟩
theorem lw_p95 : lw_okq (⟨"TrainMileModel", "narrowed", "(II)I"⟩, 31) := ⟨⟨by decide +kernel, by decide +kernel⟩, List.mem_of_getElem? (i := 1071) (by decide +kernel), List.mem_of_getElem? (i := 1563) (by decide +kernel), List.mem_of_getElem? (i := 1564) (by decide +kernel)⟩
def lw_privs_6 : List (MethodName × Nat) := [(⟨"TrainMileModel", "isSet", "(I)Z"⟩, 31), (⟨"TrainMileModel", "placeOf", "(II)I"⟩, 31), (⟨"TrainMileModel", "took", "(I)I"⟩, 31), (⟨"TrainMileModel", "clash", "(III)Z"⟩, 31), (⟨"TrainMileModel", "goIt", "(I)I"⟩, 31), (⟨"TrainMileModel", "ran", "(I)V"⟩, 31), (⟨"TrainMileModel", "goingGo", "(I)I"⟩, 31), (⟨"TrainMileModel", "showIt", "(I)I"⟩, 31), (⟨"TrainMileModel", "goingShow", "(I)I"⟩, 31), (⟨"TrainMileModel", "weighIt", "(I)I"⟩, 31), (⟨"TrainMileModel", "runWeigh", "(I)I"⟩, 31), (⟨"TrainMileModel", "goingWeigh", "(I)I"⟩, 31), (⟨"TrainMileModel", "tellIt", "(I)I"⟩, 31), (⟨"TrainMileModel", "goingTell", "(I)I"⟩, 31), (⟨"TrainMileModel", "has", "(III)Z"⟩, 31), (⟨"TrainMileModel", "narrowed", "(II)I"⟩, 31)]
theorem lw_r6 : ∀ q ∈ lw_privs_6, lw_okq q := List.forall_mem_cons.mpr ⟨lw_p80, List.forall_mem_cons.mpr ⟨lw_p81, List.forall_mem_cons.mpr ⟨lw_p82, List.forall_mem_cons.mpr ⟨lw_p83, List.forall_mem_cons.mpr ⟨lw_p84, List.forall_mem_cons.mpr ⟨lw_p85, List.forall_mem_cons.mpr ⟨lw_p86, List.forall_mem_cons.mpr ⟨lw_p87, List.forall_mem_cons.mpr ⟨lw_p88, List.forall_mem_cons.mpr ⟨lw_p89, List.forall_mem_cons.mpr ⟨lw_p90, List.forall_mem_cons.mpr ⟨lw_p91, List.forall_mem_cons.mpr ⟨lw_p92, List.forall_mem_cons.mpr ⟨lw_p93, List.forall_mem_cons.mpr ⟨lw_p94, List.forall_mem_cons.mpr ⟨lw_p95, fun _ h => absurd h List.not_mem_nil⟩⟩⟩⟩⟩⟩⟩⟩⟩⟩⟩⟩⟩⟩⟩⟩
def lw_privs : List (MethodName × Nat) := lw_privs_1 ++ (lw_privs_2 ++ (lw_privs_3 ++ (lw_privs_4 ++ (lw_privs_5 ++ (lw_privs_6)))))
def lw_tbl : List Cond := k2_sels lw_privs ++ tables_1
theorem lw_privs_ok : ∀ q ∈ lw_privs, lw_okq q := by
  show ∀ q ∈ lw_privs_1 ++ (lw_privs_2 ++ (lw_privs_3 ++ (lw_privs_4 ++ (lw_privs_5 ++ (lw_privs_6))))), lw_okq q
  exact List.forall_mem_append.mpr ⟨lw_r1, List.forall_mem_append.mpr ⟨lw_r2, List.forall_mem_append.mpr ⟨lw_r3, List.forall_mem_append.mpr ⟨lw_r4, List.forall_mem_append.mpr ⟨lw_r5, lw_r6⟩⟩⟩⟩⟩
def RX0 : String := "TrainMile$Body"
def TX0 : u_T := fun k => match k with
  | 0 => ("TrainMile$Body", "strength", "I", false)
  | 1 => ("TrainMile$Body", "ran", "I", false)
  | 2 => ("TrainMile$Body", "firstPace", "I", false)
  | _ => ("TrainMile$Body", "latestPace", "I", false)
def tyX0 : Nat → FieldType := fun k => match k with
  | 0 => .int
  | 1 => .int
  | 2 => .int
  | _ => .int
theorem nmX0 : ∀ a, a < 4 → ∀ b, b < 4 → a ≠ b → (TX0 a).2.1 ≠ (TX0 b).2.1 := by decide +kernel
theorem tyX0_ok : ∀ k, k < 4 → parseFieldDescriptor (TX0 k).2.2.1 = some (tyX0 k) := by decide +kernel
abbrev cX0_init : ByteArray := prog_2_method_1_code
def yX0_init : MethodName := ⟨RX0, "<init>", "()V"⟩
abbrev cX0_begin : ByteArray := prog_2_method_2_code
def yX0_begin : MethodName := ⟨RX0, "begin", "(I)V"⟩
abbrev cX0_ranAt : ByteArray := prog_2_method_3_code
def yX0_ranAt : MethodName := ⟨RX0, "ranAt", "(I)V"⟩
def RX1 : String := "TrainMile$Goings"
def TX1 : u_T := fun k => match k with
  | 0 => ("TrainMile$Goings", "count", "I", false)
  | 1 => ("TrainMile$Goings", "kinds", "[I", true)
  | 2 => ("TrainMile$Goings", "runners", "[I", true)
  | 3 => ("TrainMile$Goings", "froms", "[I", true)
  | 4 => ("TrainMile$Goings", "tos", "[I", true)
  | _ => ("TrainMile$Goings", "numbers", "[I", true)
def tyX1 : Nat → FieldType := fun k => match k with
  | 0 => .int
  | 1 => .array .int
  | 2 => .array .int
  | 3 => .array .int
  | 4 => .array .int
  | _ => .array .int
theorem nmX1 : ∀ a, a < 6 → ∀ b, b < 6 → a ≠ b → (TX1 a).2.1 ≠ (TX1 b).2.1 := by decide +kernel
theorem tyX1_ok : ∀ k, k < 6 → parseFieldDescriptor (TX1 k).2.2.1 = some (tyX1 k) := by decide +kernel
abbrev cX1_init : ByteArray := prog_3_method_1_code
def yX1_init : MethodName := ⟨RX1, "<init>", "()V"⟩
abbrev cX1_add : ByteArray := prog_3_method_2_code
def yX1_add : MethodName := ⟨RX1, "add", "(IIII)I"⟩
abbrev cX1_latestStep : ByteArray := prog_3_method_3_code
def yX1_latestStep : MethodName := ⟨RX1, "latestStep", "(II)I"⟩
abbrev cX1_isMissed : ByteArray := prog_3_method_4_code
def yX1_isMissed : MethodName := ⟨RX1, "isMissed", "(II)Z"⟩
abbrev cX1_carrierOf : ByteArray := prog_3_method_5_code
def yX1_carrierOf : MethodName := ⟨RX1, "carrierOf", "(II)I"⟩
abbrev cX1_takeAll : ByteArray := prog_3_method_6_code
def yX1_takeAll : MethodName := ⟨RX1, "takeAll", "(LTrainMile$Goings;)V"⟩
def RX2 : String := "TrainMile$Judge"
def TX2 : u_T := fun k => match k with
  | 0 => ("TrainMile$Judge", "gapFrom", "I", false)
  | 1 => ("TrainMile$Judge", "gapTo", "I", false)
  | 2 => ("TrainMile$Judge", "gapMinutes", "I", false)
  | 3 => ("TrainMile$Judge", "world", "LTrainMile$World;", true)
  | _ => ("TrainMile$Judge", "names", "[I", true)
def tyX2 : Nat → FieldType := fun k => match k with
  | 0 => .int
  | 1 => .int
  | 2 => .int
  | 3 => .object "TrainMile$World"
  | _ => .array .int
theorem nmX2 : ∀ a, a < 5 → ∀ b, b < 5 → a ≠ b → (TX2 a).2.1 ≠ (TX2 b).2.1 := by decide +kernel
theorem tyX2_ok : ∀ k, k < 5 → parseFieldDescriptor (TX2 k).2.2.1 = some (tyX2 k) := by decide +kernel
abbrev cX2_init : ByteArray := prog_4_method_1_code
def yX2_init : MethodName := ⟨RX2, "<init>", "(LTrainMile$World;)V"⟩
abbrev cX2_nextHeard : ByteArray := prog_4_method_2_code
def yX2_nextHeard : MethodName := ⟨RX2, "nextHeard", "(II)I"⟩
abbrev cX2_findGap : ByteArray := prog_4_method_3_code
def yX2_findGap : MethodName := ⟨RX2, "findGap", "(II)Z"⟩
abbrev cX2_gapOnFoot : ByteArray := prog_4_method_4_code
def yX2_gapOnFoot : MethodName := ⟨RX2, "gapOnFoot", "()Z"⟩
abbrev cX2_gapPace : ByteArray := prog_4_method_5_code
def yX2_gapPace : MethodName := ⟨RX2, "gapPace", "()I"⟩
abbrev cX2_gapByWays : ByteArray := prog_4_method_6_code
def yX2_gapByWays : MethodName := ⟨RX2, "gapByWays", "(I)Z"⟩
abbrev cX2_together : ByteArray := prog_4_method_7_code
def yX2_together : MethodName := ⟨RX2, "togethe\x72", "(III)Z"⟩
abbrev cX2_passed : ByteArray := prog_4_method_8_code
def yX2_passed : MethodName := ⟨RX2, "passed", "(II)Z"⟩
abbrev cX2_oddness : ByteArray := prog_4_method_9_code
def yX2_oddness : MethodName := ⟨RX2, "oddness", "(I)I"⟩
abbrev cX2_minutesBetween : ByteArray := prog_4_method_10_code
def yX2_minutesBetween : MethodName := ⟨RX2, "minutesBetween", "(III)I"⟩
abbrev cX2_deafMats : ByteArray := prog_4_method_11_code
def yX2_deafMats : MethodName := ⟨RX2, "deafMats", "(I)I"⟩
abbrev cX2_companions : ByteArray := prog_4_method_12_code
def yX2_companions : MethodName := ⟨RX2, "companions", "(I)I"⟩
abbrev cX2_hasPlace : ByteArray := prog_4_method_13_code
def yX2_hasPlace : MethodName := ⟨RX2, "hasPlace", "(II)Z"⟩
abbrev cX2_placeOf : ByteArray := prog_4_method_14_code
def yX2_placeOf : MethodName := ⟨RX2, "placeOf", "(II)I"⟩
abbrev cX2_minutesInAll : ByteArray := prog_4_method_15_code
def yX2_minutesInAll : MethodName := ⟨RX2, "minutesInAll", "(I)I"⟩
def RX3 : String := "TrainMile$Race"
def TX3 : u_T := fun k => match k with
  | 0 => ("TrainMile$Race", "leftRoad", "Z", false)
  | 1 => ("TrainMile$Race", "world", "LTrainMile$World;", true)
  | 2 => ("TrainMile$Race", "minutes", "[I", true)
  | 3 => ("TrainMile$Race", "own", "LTrainMile$Body;", true)
  | 4 => ("TrainMile$Race", "othe\x72", "LTrainMile$Body;", true)
  | 5 => ("TrainMile$Race", "names", "[I", true)
  | 6 => ("TrainMile$Race", "row", "I", false)
  | 7 => ("TrainMile$Race", "mark", "I", false)
  | 8 => ("TrainMile$Race", "minute", "I", false)
  | 9 => ("TrainMile$Race", "known", "[I", true)
  | 10 => ("TrainMile$Race", "oddsStrength", "I", false)
  | 11 => ("TrainMile$Race", "oddsPieces", "I", false)
  | _ => ("TrainMile$Race", "oddsJust", "Z", false)
def tyX3 : Nat → FieldType := fun k => match k with
  | 0 => .boolean
  | 1 => .object "TrainMile$World"
  | 2 => .array .int
  | 3 => .object "TrainMile$Body"
  | 4 => .object "TrainMile$Body"
  | 5 => .array .int
  | 6 => .int
  | 7 => .int
  | 8 => .int
  | 9 => .array .int
  | 10 => .int
  | 11 => .int
  | _ => .boolean
theorem nmX3 : ∀ a, a < 13 → ∀ b, b < 13 → a ≠ b → (TX3 a).2.1 ≠ (TX3 b).2.1 := by decide +kernel
theorem tyX3_ok : ∀ k, k < 13 → parseFieldDescriptor (TX3 k).2.2.1 = some (tyX3 k) := by decide +kernel
abbrev cX3_init : ByteArray := prog_5_method_1_code
def yX3_init : MethodName := ⟨RX3, "<init>", "(LTrainMile$World;)V"⟩
abbrev cX3_minuteOf : ByteArray := prog_5_method_2_code
def yX3_minuteOf : MethodName := ⟨RX3, "minuteOf", "(II)I"⟩
abbrev cX3_paceOf : ByteArray := prog_5_method_3_code
def yX3_paceOf : MethodName := ⟨RX3, "paceOf", "(IIIII)I"⟩
abbrev cX3_follow : ByteArray := prog_5_method_4_code
def yX3_follow : MethodName := ⟨RX3, "follow", "(I)V"⟩
abbrev cX3_goAsTold : ByteArray := prog_5_method_5_code
def yX3_goAsTold : MethodName := ⟨RX3, "goAsTold", "(III)V"⟩
abbrev cX3_runUpTo : ByteArray := prog_5_method_6_code
def yX3_runUpTo : MethodName := ⟨RX3, "runUpTo", "(ILTrainMile$Body;II)V"⟩
abbrev cX3_listen : ByteArray := prog_5_method_7_code
def yX3_listen : MethodName := ⟨RX3, "listen", "(I)V"⟩
abbrev cX3_matHears : ByteArray := prog_5_method_8_code
def yX3_matHears : MethodName := ⟨RX3, "matHears", "(I)Z"⟩
abbrev cX3_countRows : ByteArray := prog_5_method_9_code
def yX3_countRows : MethodName := ⟨RX3, "countRows", "(IIIZ)I"⟩
abbrev cX3_rowsFrom : ByteArray := prog_5_method_10_code
def yX3_rowsFrom : MethodName := ⟨RX3, "rowsFrom", "(IIII)I"⟩
abbrev cX3_knownPace : ByteArray := prog_5_method_11_code
def yX3_knownPace : MethodName := ⟨RX3, "knownPace", "(III)I"⟩
def RX4 : String := "TrainMile$Reade\x72"
def TX4 : u_T := fun k => match k with
  | 0 => ("TrainMile$Reade\x72", "code", "[I", true)
  | 1 => ("TrainMile$Reade\x72", "length", "I", false)
  | 2 => ("TrainMile$Reade\x72", "fault", "I", false)
  | 3 => ("TrainMile$Reade\x72", "tape", "[B", true)
  | 4 => ("TrainMile$Reade\x72", "end", "I", false)
  | _ => ("TrainMile$Reade\x72", "at", "I", false)
def tyX4 : Nat → FieldType := fun k => match k with
  | 0 => .array .int
  | 1 => .int
  | 2 => .int
  | 3 => .array .byte
  | 4 => .int
  | _ => .int
theorem nmX4 : ∀ a, a < 6 → ∀ b, b < 6 → a ≠ b → (TX4 a).2.1 ≠ (TX4 b).2.1 := by decide +kernel
theorem tyX4_ok : ∀ k, k < 6 → parseFieldDescriptor (TX4 k).2.2.1 = some (tyX4 k) := by decide +kernel
abbrev cX4_init : ByteArray := prog_6_method_1_code
def yX4_init : MethodName := ⟨RX4, "<init>", "([B)V"⟩
abbrev cX4_read : ByteArray := prog_6_method_2_code
def yX4_read : MethodName := ⟨RX4, "read", "(I)V"⟩
abbrev cX4_sign : ByteArray := prog_6_method_3_code
def yX4_sign : MethodName := ⟨RX4, "sign", "()I"⟩
abbrev cX4_failHere : ByteArray := prog_6_method_4_code
def yX4_failHere : MethodName := ⟨RX4, "failHere", "()V"⟩
abbrev cX4_emit : ByteArray := prog_6_method_5_code
def yX4_emit : MethodName := ⟨RX4, "emit", "(I)V"⟩
abbrev cX4_levelOf : ByteArray := prog_6_method_6_code
def yX4_levelOf : MethodName := ⟨RX4, "levelOf", "(I)I"⟩
abbrev cX4_readJoined : ByteArray := prog_6_method_7_code
def yX4_readJoined : MethodName := ⟨RX4, "readJoined", "(II)V"⟩
abbrev cX4_readSingle : ByteArray := prog_6_method_8_code
def yX4_readSingle : MethodName := ⟨RX4, "readSingle", "(I)V"⟩
abbrev cX4_close : ByteArray := prog_6_method_9_code
def yX4_close : MethodName := ⟨RX4, "close", "()V"⟩
abbrev cX4_readNumber : ByteArray := prog_6_method_10_code
def yX4_readNumber : MethodName := ⟨RX4, "readNumbe\x72", "()V"⟩
def RX5 : String := "TrainMile$Road"
def TX5 : u_T := fun k => match k with
  | 0 => ("TrainMile$Road", "pieces", "I", false)
  | 1 => ("TrainMile$Road", "heat", "I", false)
  | 2 => ("TrainMile$Road", "mats", "I", false)
  | 3 => ("TrainMile$Road", "ways", "I", false)
  | 4 => ("TrainMile$Road", "climbs", "[I", true)
  | 5 => ("TrainMile$Road", "deafness", "[I", true)
  | 6 => ("TrainMile$Road", "wayFrom", "[I", true)
  | 7 => ("TrainMile$Road", "wayTo", "[I", true)
  | 8 => ("TrainMile$Road", "wayMinutes", "[I", true)
  | 9 => ("TrainMile$Road", "wayFirst", "[I", true)
  | 10 => ("TrainMile$Road", "wayEach", "[I", true)
  | 11 => ("TrainMile$Road", "reached", "[I", true)
  | _ => ("TrainMile$Road", "needed", "[I", true)
def tyX5 : Nat → FieldType := fun k => match k with
  | 0 => .int
  | 1 => .int
  | 2 => .int
  | 3 => .int
  | 4 => .array .int
  | 5 => .array .int
  | 6 => .array .int
  | 7 => .array .int
  | 8 => .array .int
  | 9 => .array .int
  | 10 => .array .int
  | 11 => .array .int
  | _ => .array .int
theorem nmX5 : ∀ a, a < 13 → ∀ b, b < 13 → a ≠ b → (TX5 a).2.1 ≠ (TX5 b).2.1 := by decide +kernel
theorem tyX5_ok : ∀ k, k < 13 → parseFieldDescriptor (TX5 k).2.2.1 = some (tyX5 k) := by decide +kernel
abbrev cX5_init : ByteArray := prog_7_method_1_code
def yX5_init : MethodName := ⟨RX5, "<init>", "()V"⟩
abbrev cX5_lay : ByteArray := prog_7_method_2_code
def yX5_lay : MethodName := ⟨RX5, "lay", "(I)V"⟩
abbrev cX5_hasMat : ByteArray := prog_7_method_3_code
def yX5_hasMat : MethodName := ⟨RX5, "hasMat", "(I)Z"⟩
abbrev cX5_addWay : ByteArray := prog_7_method_4_code
def yX5_addWay : MethodName := ⟨RX5, "addWay", "(IIII)I"⟩
abbrev cX5_leads : ByteArray := prog_7_method_5_code
def yX5_leads : MethodName := ⟨RX5, "leads", "(IIZ)Z"⟩
abbrev cX5_arrival : ByteArray := prog_7_method_6_code
def yX5_arrival : MethodName := ⟨RX5, "arrival", "(II)I"⟩
abbrev cX5_leaving : ByteArray := prog_7_method_7_code
def yX5_leaving : MethodName := ⟨RX5, "leaving", "(II)I"⟩
abbrev cX5_reach : ByteArray := prog_7_method_8_code
def yX5_reach : MethodName := ⟨RX5, "reach", "(III)V"⟩
abbrev cX5_goOnByWays : ByteArray := prog_7_method_9_code
def yX5_goOnByWays : MethodName := ⟨RX5, "goOnByWays", "(III)V"⟩
abbrev cX5_arrive : ByteArray := prog_7_method_10_code
def yX5_arrive : MethodName := ⟨RX5, "arrive", "(III)V"⟩
abbrev cX5_soonest : ByteArray := prog_7_method_11_code
def yX5_soonest : MethodName := ⟨RX5, "soonest", "(II)I"⟩
abbrev cX5_waysFor : ByteArray := prog_7_method_12_code
def yX5_waysFor : MethodName := ⟨RX5, "waysFo\x72", "(II)I"⟩
abbrev cX5_fewestMats : ByteArray := prog_7_method_13_code
def yX5_fewestMats : MethodName := ⟨RX5, "fewestMats", "()I"⟩
abbrev cX5_openEnd : ByteArray := prog_7_method_14_code
def yX5_openEnd : MethodName := ⟨RX5, "openEnd", "(I)I"⟩
abbrev cX5_bestNext : ByteArray := prog_7_method_15_code
def yX5_bestNext : MethodName := ⟨RX5, "bestNext", "(II)I"⟩
abbrev cX5_takeAll : ByteArray := prog_7_method_16_code
def yX5_takeAll : MethodName := ⟨RX5, "takeAll", "(LTrainMile$Road;)V"⟩
def RX6 : String := "TrainMile$Runners"
def TX6 : u_T := fun k => match k with
  | 0 => ("TrainMile$Runners", "count", "I", false)
  | 1 => ("TrainMile$Runners", "strengths", "[I", true)
  | 2 => ("TrainMile$Runners", "begins", "[I", true)
  | 3 => ("TrainMile$Runners", "entries", "[I", true)
  | 4 => ("TrainMile$Runners", "days", "[I", true)
  | 5 => ("TrainMile$Runners", "towns", "[I", true)
  | 6 => ("TrainMile$Runners", "hours", "[I", true)
  | _ => ("TrainMile$Runners", "rivals", "[I", true)
def tyX6 : Nat → FieldType := fun k => match k with
  | 0 => .int
  | 1 => .array .int
  | 2 => .array .int
  | 3 => .array .int
  | 4 => .array .int
  | 5 => .array .int
  | 6 => .array .int
  | _ => .array .int
theorem nmX6 : ∀ a, a < 8 → ∀ b, b < 8 → a ≠ b → (TX6 a).2.1 ≠ (TX6 b).2.1 := by decide +kernel
theorem tyX6_ok : ∀ k, k < 8 → parseFieldDescriptor (TX6 k).2.2.1 = some (tyX6 k) := by decide +kernel
abbrev cX6_init : ByteArray := prog_8_method_1_code
def yX6_init : MethodName := ⟨RX6, "<init>", "()V"⟩
abbrev cX6_add : ByteArray := prog_8_method_2_code
def yX6_add : MethodName := ⟨RX6, "add", "(II)I"⟩
abbrev cX6_enter : ByteArray := prog_8_method_3_code
def yX6_enter : MethodName := ⟨RX6, "ente\x72", "(IIII)I"⟩
abbrev cX6_allEntries : ByteArray := prog_8_method_4_code
def yX6_allEntries : MethodName := ⟨RX6, "allEntries", "()I"⟩
abbrev cX6_clashesOf : ByteArray := prog_8_method_5_code
def yX6_clashesOf : MethodName := ⟨RX6, "clashesOf", "(I)I"⟩
abbrev cX6_mostWithoutClash : ByteArray := prog_8_method_6_code
def yX6_mostWithoutClash : MethodName := ⟨RX6, "mostWithoutClash", "(I)I"⟩
abbrev cX6_isClashFree : ByteArray := prog_8_method_7_code
def yX6_isClashFree : MethodName := ⟨RX6, "isClashFree", "(II)Z"⟩
abbrev cX6_findRivals : ByteArray := prog_8_method_8_code
def yX6_findRivals : MethodName := ⟨RX6, "findRivals", "(I)V"⟩
abbrev cX6_clash : ByteArray := prog_8_method_9_code
def yX6_clash : MethodName := ⟨RX6, "clash", "(II)Z"⟩
abbrev cX6_takeAll : ByteArray := prog_8_method_10_code
def yX6_takeAll : MethodName := ⟨RX6, "takeAll", "(LTrainMile$Runners;)V"⟩
def RX7 : String := "TrainMile$Sheet"
def TX7 : u_T := fun k => match k with
  | 0 => ("TrainMile$Sheet", "bits", "I", false)
  | 1 => ("TrainMile$Sheet", "size", "I", false)
  | 2 => ("TrainMile$Sheet", "numbers", "[I", true)
  | _ => ("TrainMile$Sheet", "sorted", "[I", true)
def tyX7 : Nat → FieldType := fun k => match k with
  | 0 => .int
  | 1 => .int
  | 2 => .array .int
  | _ => .array .int
theorem nmX7 : ∀ a, a < 4 → ∀ b, b < 4 → a ≠ b → (TX7 a).2.1 ≠ (TX7 b).2.1 := by decide +kernel
theorem tyX7_ok : ∀ k, k < 4 → parseFieldDescriptor (TX7 k).2.2.1 = some (tyX7 k) := by decide +kernel
abbrev cX7_init : ByteArray := prog_9_method_1_code
def yX7_init : MethodName := ⟨RX7, "<init>", "()V"⟩
abbrev cX7_begin : ByteArray := prog_9_method_2_code
def yX7_begin : MethodName := ⟨RX7, "begin", "(II)V"⟩
abbrev cX7_set : ByteArray := prog_9_method_3_code
def yX7_set : MethodName := ⟨RX7, "set", "(II)V"⟩
abbrev cX7_holds : ByteArray := prog_9_method_4_code
def yX7_holds : MethodName := ⟨RX7, "holds", "(II)Z"⟩
abbrev cX7_breakPlace : ByteArray := prog_9_method_5_code
def yX7_breakPlace : MethodName := ⟨RX7, "breakPlace", "()I"⟩
abbrev cX7_brokenSum : ByteArray := prog_9_method_6_code
def yX7_brokenSum : MethodName := ⟨RX7, "brokenSum", "(I)J"⟩
abbrev cX7_spread : ByteArray := prog_9_method_7_code
def yX7_spread : MethodName := ⟨RX7, "spread", "(II)J"⟩
abbrev cX7_sortPart : ByteArray := prog_9_method_8_code
def yX7_sortPart : MethodName := ⟨RX7, "sortPart", "(II)V"⟩
def RX8 : String := "TrainMile$Text"
def TX8 : u_T := fun k => match k with
  | 0 => ("TrainMile$Text", "code", "[I", true)
  | 1 => ("TrainMile$Text", "length", "I", false)
  | _ => ("TrainMile$Text", "stack", "[I", true)
def tyX8 : Nat → FieldType := fun k => match k with
  | 0 => .array .int
  | 1 => .int
  | _ => .array .int
theorem nmX8 : ∀ a, a < 3 → ∀ b, b < 3 → a ≠ b → (TX8 a).2.1 ≠ (TX8 b).2.1 := by decide +kernel
theorem tyX8_ok : ∀ k, k < 3 → parseFieldDescriptor (TX8 k).2.2.1 = some (tyX8 k) := by decide +kernel
abbrev cX8_init : ByteArray := prog_10_method_1_code
def yX8_init : MethodName := ⟨RX8, "<init>", "()V"⟩
abbrev cX8_takeCode : ByteArray := prog_10_method_2_code
def yX8_takeCode : MethodName := ⟨RX8, "takeCode", "([II)V"⟩
abbrev cX8_value : ByteArray := prog_10_method_3_code
def yX8_value : MethodName := ⟨RX8, "value", "([I)I"⟩
abbrev cX8_join : ByteArray := prog_10_method_4_code
def yX8_join : MethodName := ⟨RX8, "join", "(III)I"⟩
def RX9 : String := "TrainMile$Voices"
def TX9 : u_T := fun k => match k with
  | 0 => ("TrainMile$Voices", "bodies", "[I", true)
  | 1 => ("TrainMile$Voices", "count", "I", false)
  | 2 => ("TrainMile$Voices", "kind", "I", false)
  | 3 => ("TrainMile$Voices", "\x72", "I", false)
  | _ => ("TrainMile$Voices", "m", "I", false)
def tyX9 : Nat → FieldType := fun k => match k with
  | 0 => .array .int
  | 1 => .int
  | 2 => .int
  | 3 => .int
  | _ => .int
theorem nmX9 : ∀ a, a < 5 → ∀ b, b < 5 → a ≠ b → (TX9 a).2.1 ≠ (TX9 b).2.1 := by decide +kernel
theorem tyX9_ok : ∀ k, k < 5 → parseFieldDescriptor (TX9 k).2.2.1 = some (tyX9 k) := by decide +kernel
abbrev cX9_init : ByteArray := prog_11_method_1_code
def yX9_init : MethodName := ⟨RX9, "<init>", "()V"⟩
abbrev cX9_speak : ByteArray := prog_11_method_2_code
def yX9_speak : MethodName := ⟨RX9, "speak", "(LTrainMile$Goings;III)I"⟩
abbrev cX9_call : ByteArray := prog_11_method_3_code
def yX9_call : MethodName := ⟨RX9, "call", "(IIII)I"⟩
abbrev cX9_sayGoing : ByteArray := prog_11_method_4_code
def yX9_sayGoing : MethodName := ⟨RX9, "sayGoing", "(III)I"⟩
abbrev cX9_sayUnder : ByteArray := prog_11_method_5_code
def yX9_sayUnder : MethodName := ⟨RX9, "sayUnde\x72", "(IIII)I"⟩
def RX10 : String := "TrainMile$World"
def TX10 : u_T := fun k => match k with
  | 0 => ("TrainMile$World", "road", "LTrainMile$Road;", true)
  | 1 => ("TrainMile$World", "runners", "LTrainMile$Runners;", true)
  | 2 => ("TrainMile$World", "goings", "LTrainMile$Goings;", true)
  | 3 => ("TrainMile$World", "texts", "[LTrainMile$Text;", true)
  | 4 => ("TrainMile$World", "tape", "[B", true)
  | 5 => ("TrainMile$World", "fed", "I", false)
  | 6 => ("TrainMile$World", "minutes", "[I", true)
  | 7 => ("TrainMile$World", "offs", "I", false)
  | 8 => ("TrainMile$World", "races", "I", false)
  | 9 => ("TrainMile$World", "drawn", "I", false)
  | _ => ("TrainMile$World", "leastMinutes", "I", false)
def tyX10 : Nat → FieldType := fun k => match k with
  | 0 => .object "TrainMile$Road"
  | 1 => .object "TrainMile$Runners"
  | 2 => .object "TrainMile$Goings"
  | 3 => .array (.object "TrainMile$Text")
  | 4 => .array .byte
  | 5 => .int
  | 6 => .array .int
  | 7 => .int
  | 8 => .int
  | 9 => .int
  | _ => .int
theorem nmX10 : ∀ a, a < 11 → ∀ b, b < 11 → a ≠ b → (TX10 a).2.1 ≠ (TX10 b).2.1 := by decide +kernel
theorem tyX10_ok : ∀ k, k < 11 → parseFieldDescriptor (TX10 k).2.2.1 = some (tyX10 k) := by decide +kernel
abbrev cX10_init : ByteArray := prog_12_method_1_code
def yX10_init : MethodName := ⟨RX10, "<init>", "()V"⟩
abbrev cX10_layRoad : ByteArray := prog_12_method_2_code
def yX10_layRoad : MethodName := ⟨RX10, "layRoad", "(I)V"⟩
abbrev cX10_forgetRace : ByteArray := prog_12_method_3_code
def yX10_forgetRace : MethodName := ⟨RX10, "forgetRace", "()V"⟩
abbrev cX10_minuteAt : ByteArray := prog_12_method_4_code
def yX10_minuteAt : MethodName := ⟨RX10, "minuteAt", "(II)I"⟩
abbrev cX10_isOff : ByteArray := prog_12_method_5_code
def yX10_isOff : MethodName := ⟨RX10, "isOff", "(I)Z"⟩
abbrev cX10_drawNext : ByteArray := prog_12_method_6_code
def yX10_drawNext : MethodName := ⟨RX10, "drawNext", "()I"⟩
abbrev cX10_addBytes : ByteArray := prog_12_method_7_code
def yX10_addBytes : MethodName := ⟨RX10, "addBytes", "(JI)V"⟩
abbrev cX10_takeAll : ByteArray := prog_12_method_8_code
def yX10_takeAll : MethodName := ⟨RX10, "takeAll", "(LTrainMile$World;)V"⟩
def RX11 : String := "TrainMile"
def TX11 : u_T := fun k => match k with
  | 0 => ("TrainMile", "now", "LTrainMile$World;", true)
  | 1 => ("TrainMile", "kept", "LTrainMile$World;", true)
  | 2 => ("TrainMile", "racing", "LTrainMile$Race;", true)
  | 3 => ("TrainMile", "judging", "LTrainMile$Judge;", true)
  | 4 => ("TrainMile", "reade\x72", "LTrainMile$Reader;", true)
  | 5 => ("TrainMile", "voices", "LTrainMile$Voices;", true)
  | 6 => ("TrainMile", "sheets", "[LTrainMile$Sheet;", true)
  | 7 => ("TrainMile", "findings", "[I", true)
  | _ => ("TrainMile", "images", "I", false)
def tyX11 : Nat → FieldType := fun k => match k with
  | 0 => .object "TrainMile$World"
  | 1 => .object "TrainMile$World"
  | 2 => .object "TrainMile$Race"
  | 3 => .object "TrainMile$Judge"
  | 4 => .object "TrainMile$Reade\x72"
  | 5 => .object "TrainMile$Voices"
  | 6 => .array (.object "TrainMile$Sheet")
  | 7 => .array .int
  | _ => .int
theorem nmX11 : ∀ a, a < 9 → ∀ b, b < 9 → a ≠ b → (TX11 a).2.1 ≠ (TX11 b).2.1 := by decide +kernel
theorem tyX11_ok : ∀ k, k < 9 → parseFieldDescriptor (TX11 k).2.2.1 = some (tyX11 k) := by decide +kernel
abbrev cX11_init : ByteArray := prog_1_method_1_code
def yX11_init : MethodName := ⟨RX11, "<init>", "()V"⟩
abbrev cX11_road : ByteArray := prog_1_method_2_code
def yX11_road : MethodName := ⟨RX11, "road", "(I)I"⟩
abbrev cX11_climb : ByteArray := prog_1_method_3_code
def yX11_climb : MethodName := ⟨RX11, "climb", "(II)I"⟩
abbrev cX11_heat : ByteArray := prog_1_method_4_code
def yX11_heat : MethodName := ⟨RX11, "heat", "(I)I"⟩
abbrev cX11_mat : ByteArray := prog_1_method_5_code
def yX11_mat : MethodName := ⟨RX11, "mat", "(IZ)I"⟩
abbrev cX11_deaf : ByteArray := prog_1_method_6_code
def yX11_deaf : MethodName := ⟨RX11, "deaf", "(II)I"⟩
abbrev cX11_way : ByteArray := prog_1_method_7_code
def yX11_way : MethodName := ⟨RX11, "way", "(IIII)I"⟩
abbrev cX11_earliest : ByteArray := prog_1_method_8_code
def yX11_earliest : MethodName := ⟨RX11, "earliest", "(IIIII)I"⟩
abbrev cX11_fewest : ByteArray := prog_1_method_9_code
def yX11_fewest : MethodName := ⟨RX11, "fewest", "(I)I"⟩
abbrev cX11_runner : ByteArray := prog_1_method_10_code
def yX11_runner : MethodName := ⟨RX11, "runne\x72", "(II)I"⟩
abbrev cX11_going : ByteArray := prog_1_method_11_code
def yX11_going : MethodName := ⟨RX11, "going", "(IIII)I"⟩
abbrev cX11_forget : ByteArray := prog_1_method_12_code
def yX11_forget : MethodName := ⟨RX11, "forget", "(I)I"⟩
abbrev cX11_as : ByteArray := prog_1_method_13_code
def yX11_as : MethodName := ⟨RX11, "as", "(II)I"⟩
abbrev cX11_goingIs : ByteArray := prog_1_method_14_code
def yX11_goingIs : MethodName := ⟨RX11, "goingIs", "(II)I"⟩
abbrev cX11_draw : ByteArray := prog_1_method_15_code
def yX11_draw : MethodName := ⟨RX11, "draw", "(I)I"⟩
abbrev cX11_race : ByteArray := prog_1_method_16_code
def yX11_race : MethodName := ⟨RX11, "race", "()I"⟩
abbrev cX11_would : ByteArray := prog_1_method_17_code
def yX11_would : MethodName := ⟨RX11, "would", "(II)I"⟩
abbrev cX11_heard : ByteArray := prog_1_method_18_code
def yX11_heard : MethodName := ⟨RX11, "heard", "(II)I"⟩
abbrev cX11_off : ByteArray := prog_1_method_19_code
def yX11_off : MethodName := ⟨RX11, "off", "(I)I"⟩
abbrev cX11_pace : ByteArray := prog_1_method_20_code
def yX11_pace : MethodName := ⟨RX11, "pace", "(IIIII)I"⟩
abbrev cX11_odds : ByteArray := prog_1_method_21_code
def yX11_odds : MethodName := ⟨RX11, "odds", "(IIII)I"⟩
abbrev cX11_feed : ByteArray := prog_1_method_22_code
def yX11_feed : MethodName := ⟨RX11, "feed", "(JI)I"⟩
abbrev cX11_text : ByteArray := prog_1_method_23_code
def yX11_text : MethodName := ⟨RX11, "text", "(I)I"⟩
abbrev cX11_least : ByteArray := prog_1_method_24_code
def yX11_least : MethodName := ⟨RX11, "least", "(I)I"⟩
abbrev cX11_gap : ByteArray := prog_1_method_25_code
def yX11_gap : MethodName := ⟨RX11, "gap", "(III)I"⟩
abbrev cX11_company : ByteArray := prog_1_method_26_code
def yX11_company : MethodName := ⟨RX11, "company", "(II)I"⟩
abbrev cX11_misses : ByteArray := prog_1_method_27_code
def yX11_misses : MethodName := ⟨RX11, "misses", "(II)I"⟩
abbrev cX11_parts : ByteArray := prog_1_method_28_code
def yX11_parts : MethodName := ⟨RX11, "parts", "(II)J"⟩
abbrev cX11_odd : ByteArray := prog_1_method_29_code
def yX11_odd : MethodName := ⟨RX11, "odd", "(I)I"⟩
abbrev cX11_judge : ByteArray := prog_1_method_30_code
def yX11_judge : MethodName := ⟨RX11, "judge", "(I)I"⟩
abbrev cX11_place : ByteArray := prog_1_method_31_code
def yX11_place : MethodName := ⟨RX11, "place", "(II)I"⟩
abbrev cX11_up : ByteArray := prog_1_method_32_code
def yX11_up : MethodName := ⟨RX11, "up", "(I)I"⟩
abbrev cX11_entry : ByteArray := prog_1_method_33_code
def yX11_entry : MethodName := ⟨RX11, "entry", "(IIII)I"⟩
abbrev cX11_same : ByteArray := prog_1_method_34_code
def yX11_same : MethodName := ⟨RX11, "same", "(II)I"⟩
abbrev cX11_voice : ByteArray := prog_1_method_35_code
def yX11_voice : MethodName := ⟨RX11, "voice", "(III)I"⟩
abbrev cX11_trace : ByteArray := prog_1_method_36_code
def yX11_trace : MethodName := ⟨RX11, "trace", "(I)I"⟩
abbrev cX11_sheet : ByteArray := prog_1_method_37_code
def yX11_sheet : MethodName := ⟨RX11, "sheet", "(III)I"⟩
abbrev cX11_put : ByteArray := prog_1_method_38_code
def yX11_put : MethodName := ⟨RX11, "put", "(III)I"⟩
abbrev cX11_move : ByteArray := prog_1_method_39_code
def yX11_move : MethodName := ⟨RX11, "move", "(IIIII)I"⟩
abbrev cX11_write : ByteArray := prog_1_method_40_code
def yX11_write : MethodName := ⟨RX11, "write", "(II)I"⟩
abbrev cX11_image : ByteArray := prog_1_method_41_code
def yX11_image : MethodName := ⟨RX11, "image", "()I"⟩
abbrev cX11_restore : ByteArray := prog_1_method_42_code
def yX11_restore : MethodName := ⟨RX11, "restore", "()I"⟩
abbrev cX11_told : ByteArray := prog_1_method_43_code
def yX11_told : MethodName := ⟨RX11, "told", "(I)I"⟩
abbrev cX11_found : ByteArray := prog_1_method_44_code
def yX11_found : MethodName := ⟨RX11, "found", "(I)I"⟩
abbrev cX11_finding : ByteArray := prog_1_method_45_code
def yX11_finding : MethodName := ⟨RX11, "finding", "(I)I"⟩
abbrev cX11_within : ByteArray := prog_1_method_46_code
def yX11_within : MethodName := ⟨RX11, "within", "(III)Z"⟩
abbrev cX11_isPiece : ByteArray := prog_1_method_47_code
def yX11_isPiece : MethodName := ⟨RX11, "isPiece", "(I)Z"⟩
abbrev cX11_isMark : ByteArray := prog_1_method_48_code
def yX11_isMark : MethodName := ⟨RX11, "isMark", "(I)Z"⟩
abbrev cX11_isBetween : ByteArray := prog_1_method_49_code
def yX11_isBetween : MethodName := ⟨RX11, "isBetween", "(I)Z"⟩
abbrev cX11_areMarks : ByteArray := prog_1_method_50_code
def yX11_areMarks : MethodName := ⟨RX11, "areMarks", "(II)Z"⟩
abbrev cX11_isRunner : ByteArray := prog_1_method_51_code
def yX11_isRunner : MethodName := ⟨RX11, "isRunne\x72", "(I)Z"⟩
abbrev cX11_isGoing : ByteArray := prog_1_method_52_code
def yX11_isGoing : MethodName := ⟨RX11, "isGoing", "(I)Z"⟩
abbrev cX11_isSheet : ByteArray := prog_1_method_53_code
def yX11_isSheet : MethodName := ⟨RX11, "isSheet", "(I)Z"⟩
abbrev cX11_isSet : ByteArray := prog_1_method_54_code
def yX11_isSet : MethodName := ⟨RX11, "isSet", "(I)Z"⟩
abbrev cX11_endsFit : ByteArray := prog_1_method_55_code
def yX11_endsFit : MethodName := ⟨RX11, "endsFit", "(II)Z"⟩
abbrev cX11_numberFits : ByteArray := prog_1_method_56_code
def yX11_numberFits : MethodName := ⟨RX11, "numberFits", "(II)Z"⟩
abbrev cX11_isUnder : ByteArray := prog_1_method_57_code
def yX11_isUnder : MethodName := ⟨RX11, "isUnde\x72", "(II)Z"⟩
abbrev cX11_copy : ByteArray := prog_1_method_58_code
def yX11_copy : MethodName := ⟨RX11, "copy", "([I[I)V"⟩
def RX12 : String := "TrainMileModel"
def TX12 : u_T := fun k => match k with
  | 0 => ("TrainMileModel", "d", "[I", true)
  | 1 => ("TrainMileModel", "keptRow", "[I", true)
  | 2 => ("TrainMileModel", "hasKept", "Z", false)
  | 3 => ("TrainMileModel", "kept", "I", false)
  | 4 => ("TrainMileModel", "found", "[I", true)
  | 5 => ("TrainMileModel", "from", "I", false)
  | 6 => ("TrainMileModel", "size", "I", false)
  | 7 => ("TrainMileModel", "at", "I", false)
  | 8 => ("TrainMileModel", "open", "I", false)
  | 9 => ("TrainMileModel", "bad", "Z", false)
  | 10 => ("TrainMileModel", "named", "[I", true)
  | 11 => ("TrainMileModel", "letters", "[I", true)
  | 12 => ("TrainMileModel", "there", "[I", true)
  | 13 => ("TrainMileModel", "at0", "[I", true)
  | 14 => ("TrainMileModel", "wentOff", "[Z", true)
  | 15 => ("TrainMileModel", "bodyStrength", "I", false)
  | 16 => ("TrainMileModel", "bodyRan", "I", false)
  | 17 => ("TrainMileModel", "bodyFirst", "I", false)
  | 18 => ("TrainMileModel", "bodyLatest", "I", false)
  | 19 => ("TrainMileModel", "gapFrom", "I", false)
  | 20 => ("TrainMileModel", "gapTo", "I", false)
  | 21 => ("TrainMileModel", "sorted", "[I", true)
  | 22 => ("TrainMileModel", "trace", "[I", true)
  | 23 => ("TrainMileModel", "traces", "I", false)
  | 24 => ("TrainMileModel", "kindNow", "I", false)
  | 25 => ("TrainMileModel", "rNow", "I", false)
  | 26 => ("TrainMileModel", "mNow", "I", false)
  | 27 => ("TrainMileModel", "bits", "[I", true)
  | 28 => ("TrainMileModel", "sheetSize", "[I", true)
  | 29 => ("TrainMileModel", "items", "[I", true)
  | _ => ("TrainMileModel", "moved", "[I", true)
def tyX12 : Nat → FieldType := fun k => match k with
  | 0 => .array .int
  | 1 => .array .int
  | 2 => .boolean
  | 3 => .int
  | 4 => .array .int
  | 5 => .int
  | 6 => .int
  | 7 => .int
  | 8 => .int
  | 9 => .boolean
  | 10 => .array .int
  | 11 => .array .int
  | 12 => .array .int
  | 13 => .array .int
  | 14 => .array .boolean
  | 15 => .int
  | 16 => .int
  | 17 => .int
  | 18 => .int
  | 19 => .int
  | 20 => .int
  | 21 => .array .int
  | 22 => .array .int
  | 23 => .int
  | 24 => .int
  | 25 => .int
  | 26 => .int
  | 27 => .array .int
  | 28 => .array .int
  | 29 => .array .int
  | _ => .array .int
theorem nmX12 : ∀ a, a < 31 → ∀ b, b < 31 → a ≠ b → (TX12 a).2.1 ≠ (TX12 b).2.1 := by decide +kernel
theorem tyX12_ok : ∀ k, k < 31 → parseFieldDescriptor (TX12 k).2.2.1 = some (tyX12 k) := by decide +kernel
abbrev cX12_init : ByteArray := prog_14_method_1_code
def yX12_init : MethodName := ⟨RX12, "<init>", "()V"⟩
abbrev cX12_finding : ByteArray := prog_14_method_2_code
def yX12_finding : MethodName := ⟨RX12, "finding", "(I)I"⟩
abbrev cX12_in : ByteArray := prog_14_method_3_code
def yX12_in : MethodName := ⟨RX12, "in", "(III)Z"⟩
abbrev cX12_begins : ByteArray := prog_14_method_4_code
def yX12_begins : MethodName := ⟨RX12, "begins", "(I)V"⟩
abbrev cX12_isMark : ByteArray := prog_14_method_5_code
def yX12_isMark : MethodName := ⟨RX12, "isMark", "(I)Z"⟩
abbrev cX12_isRunner : ByteArray := prog_14_method_6_code
def yX12_isRunner : MethodName := ⟨RX12, "isRunne\x72", "(I)Z"⟩
abbrev cX12_isWay : ByteArray := prog_14_method_7_code
def yX12_isWay : MethodName := ⟨RX12, "isWay", "(I)Z"⟩
abbrev cX12_isGoing : ByteArray := prog_14_method_8_code
def yX12_isGoing : MethodName := ⟨RX12, "isGoing", "(I)Z"⟩
abbrev cX12_wa : ByteArray := prog_14_method_9_code
def yX12_wa : MethodName := ⟨RX12, "wa", "(II)I"⟩
abbrev cX12_go : ByteArray := prog_14_method_10_code
def yX12_go : MethodName := ⟨RX12, "go", "(II)I"⟩
abbrev cX12_strength : ByteArray := prog_14_method_11_code
def yX12_strength : MethodName := ⟨RX12, "strength", "(I)I"⟩
abbrev cX12_heardAt : ByteArray := prog_14_method_12_code
def yX12_heardAt : MethodName := ⟨RX12, "heardAt", "(II)I"⟩
abbrev cX12_becomes : ByteArray := prog_14_method_13_code
def yX12_becomes : MethodName := ⟨RX12, "becomes", "(II)I"⟩
abbrev cX12_byteAt : ByteArray := prog_14_method_14_code
def yX12_byteAt : MethodName := ⟨RX12, "byteAt", "()I"⟩
abbrev cX12_eats : ByteArray := prog_14_method_15_code
def yX12_eats : MethodName := ⟨RX12, "eats", "(I)Z"⟩
abbrev cX12_either : ByteArray := prog_14_method_16_code
def yX12_either : MethodName := ⟨RX12, "eithe\x72", "()I"⟩
abbrev cX12_both : ByteArray := prog_14_method_17_code
def yX12_both : MethodName := ⟨RX12, "both", "()I"⟩
abbrev cX12_relation : ByteArray := prog_14_method_18_code
def yX12_relation : MethodName := ⟨RX12, "relation", "()I"⟩
abbrev cX12_added : ByteArray := prog_14_method_19_code
def yX12_added : MethodName := ⟨RX12, "added", "()I"⟩
abbrev cX12_term : ByteArray := prog_14_method_20_code
def yX12_term : MethodName := ⟨RX12, "term", "()I"⟩
abbrev cX12_single : ByteArray := prog_14_method_21_code
def yX12_single : MethodName := ⟨RX12, "single", "()I"⟩
abbrev cX12_reads : ByteArray := prog_14_method_22_code
def yX12_reads : MethodName := ⟨RX12, "reads", "(II)I"⟩
abbrev cX12_tells : ByteArray := prog_14_method_23_code
def yX12_tells : MethodName := ⟨RX12, "tells", "(I)I"⟩
abbrev cX12_paceOf : ByteArray := prog_14_method_24_code
def yX12_paceOf : MethodName := ⟨RX12, "paceOf", "(IIIII)I"⟩
abbrev cX12_road : ByteArray := prog_14_method_25_code
def yX12_road : MethodName := ⟨RX12, "road", "(I)I"⟩
abbrev cX12_climb : ByteArray := prog_14_method_26_code
def yX12_climb : MethodName := ⟨RX12, "climb", "(II)I"⟩
abbrev cX12_heat : ByteArray := prog_14_method_27_code
def yX12_heat : MethodName := ⟨RX12, "heat", "(I)I"⟩
abbrev cX12_mat : ByteArray := prog_14_method_28_code
def yX12_mat : MethodName := ⟨RX12, "mat", "(IZ)I"⟩
abbrev cX12_deaf : ByteArray := prog_14_method_29_code
def yX12_deaf : MethodName := ⟨RX12, "deaf", "(II)I"⟩
abbrev cX12_way : ByteArray := prog_14_method_30_code
def yX12_way : MethodName := ⟨RX12, "way", "(IIII)I"⟩
abbrev cX12_leaves : ByteArray := prog_14_method_31_code
def yX12_leaves : MethodName := ⟨RX12, "leaves", "(II)I"⟩
abbrev cX12_findThere : ByteArray := prog_14_method_32_code
def yX12_findThere : MethodName := ⟨RX12, "findThere", "(IIII)V"⟩
abbrev cX12_earliest : ByteArray := prog_14_method_33_code
def yX12_earliest : MethodName := ⟨RX12, "earliest", "(IIIII)I"⟩
abbrev cX12_needed : ByteArray := prog_14_method_34_code
def yX12_needed : MethodName := ⟨RX12, "needed", "(II)I"⟩
abbrev cX12_fewest : ByteArray := prog_14_method_35_code
def yX12_fewest : MethodName := ⟨RX12, "fewest", "(I)I"⟩
abbrev cX12_runner : ByteArray := prog_14_method_36_code
def yX12_runner : MethodName := ⟨RX12, "runne\x72", "(II)I"⟩
abbrev cX12_isNumber : ByteArray := prog_14_method_37_code
def yX12_isNumber : MethodName := ⟨RX12, "isNumbe\x72", "(II)Z"⟩
abbrev cX12_looksAtEnd : ByteArray := prog_14_method_38_code
def yX12_looksAtEnd : MethodName := ⟨RX12, "looksAtEnd", "(I)Z"⟩
abbrev cX12_going : ByteArray := prog_14_method_39_code
def yX12_going : MethodName := ⟨RX12, "going", "(IIII)I"⟩
abbrev cX12_forget : ByteArray := prog_14_method_40_code
def yX12_forget : MethodName := ⟨RX12, "forget", "(I)I"⟩
abbrev cX12_above : ByteArray := prog_14_method_41_code
def yX12_above : MethodName := ⟨RX12, "above", "(I)I"⟩
abbrev cX12_as : ByteArray := prog_14_method_42_code
def yX12_as : MethodName := ⟨RX12, "as", "(II)I"⟩
abbrev cX12_goingIs : ByteArray := prog_14_method_43_code
def yX12_goingIs : MethodName := ⟨RX12, "goingIs", "(II)I"⟩
abbrev cX12_draw : ByteArray := prog_14_method_44_code
def yX12_draw : MethodName := ⟨RX12, "draw", "(I)I"⟩
abbrev cX12_piece : ByteArray := prog_14_method_45_code
def yX12_piece : MethodName := ⟨RX12, "piece", "(I)I"⟩
abbrev cX12_goingAt : ByteArray := prog_14_method_46_code
def yX12_goingAt : MethodName := ⟨RX12, "goingAt", "(II)I"⟩
abbrev cX12_runs : ByteArray := prog_14_method_47_code
def yX12_runs : MethodName := ⟨RX12, "runs", "(I)V"⟩
abbrev cX12_carrier : ByteArray := prog_14_method_48_code
def yX12_carrier : MethodName := ⟨RX12, "carrie\x72", "(II)I"⟩
abbrev cX12_isMissed : ByteArray := prog_14_method_49_code
def yX12_isMissed : MethodName := ⟨RX12, "isMissed", "(II)Z"⟩
abbrev cX12_hears : ByteArray := prog_14_method_50_code
def yX12_hears : MethodName := ⟨RX12, "hears", "(I)V"⟩
abbrev cX12_race : ByteArray := prog_14_method_51_code
def yX12_race : MethodName := ⟨RX12, "race", "()I"⟩
abbrev cX12_would : ByteArray := prog_14_method_52_code
def yX12_would : MethodName := ⟨RX12, "would", "(II)I"⟩
abbrev cX12_heard : ByteArray := prog_14_method_53_code
def yX12_heard : MethodName := ⟨RX12, "heard", "(II)I"⟩
abbrev cX12_off : ByteArray := prog_14_method_54_code
def yX12_off : MethodName := ⟨RX12, "off", "(I)I"⟩
abbrev cX12_pace : ByteArray := prog_14_method_55_code
def yX12_pace : MethodName := ⟨RX12, "pace", "(IIIII)I"⟩
abbrev cX12_rowsFrom : ByteArray := prog_14_method_56_code
def yX12_rowsFrom : MethodName := ⟨RX12, "rowsFrom", "(IIIIIIZ)J"⟩
abbrev cX12_odds : ByteArray := prog_14_method_57_code
def yX12_odds : MethodName := ⟨RX12, "odds", "(IIII)I"⟩
abbrev cX12_feed : ByteArray := prog_14_method_58_code
def yX12_feed : MethodName := ⟨RX12, "feed", "(JI)I"⟩
abbrev cX12_text : ByteArray := prog_14_method_59_code
def yX12_text : MethodName := ⟨RX12, "text", "(I)I"⟩
abbrev cX12_least : ByteArray := prog_14_method_60_code
def yX12_least : MethodName := ⟨RX12, "least", "(I)I"⟩
abbrev cX12_findGap : ByteArray := prog_14_method_61_code
def yX12_findGap : MethodName := ⟨RX12, "findGap", "(II)Z"⟩
abbrev cX12_mayRide : ByteArray := prog_14_method_62_code
def yX12_mayRide : MethodName := ⟨RX12, "mayRide", "(IIII)Z"⟩
abbrev cX12_gap : ByteArray := prog_14_method_63_code
def yX12_gap : MethodName := ⟨RX12, "gap", "(III)I"⟩
abbrev cX12_areTogether : ByteArray := prog_14_method_64_code
def yX12_areTogether : MethodName := ⟨RX12, "areTogethe\x72", "(III)Z"⟩
abbrev cX12_company : ByteArray := prog_14_method_65_code
def yX12_company : MethodName := ⟨RX12, "company", "(II)I"⟩
abbrev cX12_isHeardIn : ByteArray := prog_14_method_66_code
def yX12_isHeardIn : MethodName := ⟨RX12, "isHeardIn", "(III)Z"⟩
abbrev cX12_misses : ByteArray := prog_14_method_67_code
def yX12_misses : MethodName := ⟨RX12, "misses", "(II)I"⟩
abbrev cX12_offMiddle : ByteArray := prog_14_method_68_code
def yX12_offMiddle : MethodName := ⟨RX12, "offMiddle", "(III)J"⟩
abbrev cX12_parts : ByteArray := prog_14_method_69_code
def yX12_parts : MethodName := ⟨RX12, "parts", "(II)J"⟩
abbrev cX12_between : ByteArray := prog_14_method_70_code
def yX12_between : MethodName := ⟨RX12, "between", "(III)I"⟩
abbrev cX12_oddOf : ByteArray := prog_14_method_71_code
def yX12_oddOf : MethodName := ⟨RX12, "oddOf", "(I)I"⟩
abbrev cX12_odd : ByteArray := prog_14_method_72_code
def yX12_odd : MethodName := ⟨RX12, "odd", "(I)I"⟩
abbrev cX12_judge : ByteArray := prog_14_method_73_code
def yX12_judge : MethodName := ⟨RX12, "judge", "(I)I"⟩
abbrev cX12_isSet : ByteArray := prog_14_method_74_code
def yX12_isSet : MethodName := ⟨RX12, "isSet", "(I)Z"⟩
abbrev cX12_took : ByteArray := prog_14_method_75_code
def yX12_took : MethodName := ⟨RX12, "took", "(I)I"⟩
abbrev cX12_placeOf : ByteArray := prog_14_method_76_code
def yX12_placeOf : MethodName := ⟨RX12, "placeOf", "(II)I"⟩
abbrev cX12_place : ByteArray := prog_14_method_77_code
def yX12_place : MethodName := ⟨RX12, "place", "(II)I"⟩
abbrev cX12_up : ByteArray := prog_14_method_78_code
def yX12_up : MethodName := ⟨RX12, "up", "(I)I"⟩
abbrev cX12_entry : ByteArray := prog_14_method_79_code
def yX12_entry : MethodName := ⟨RX12, "entry", "(IIII)I"⟩
abbrev cX12_clash : ByteArray := prog_14_method_80_code
def yX12_clash : MethodName := ⟨RX12, "clash", "(III)Z"⟩
abbrev cX12_same : ByteArray := prog_14_method_81_code
def yX12_same : MethodName := ⟨RX12, "same", "(II)I"⟩
abbrev cX12_ran : ByteArray := prog_14_method_82_code
def yX12_ran : MethodName := ⟨RX12, "ran", "(I)V"⟩
abbrev cX12_goingGo : ByteArray := prog_14_method_83_code
def yX12_goingGo : MethodName := ⟨RX12, "goingGo", "(I)I"⟩
abbrev cX12_goIt : ByteArray := prog_14_method_84_code
def yX12_goIt : MethodName := ⟨RX12, "goIt", "(I)I"⟩
abbrev cX12_goingWeigh : ByteArray := prog_14_method_85_code
def yX12_goingWeigh : MethodName := ⟨RX12, "goingWeigh", "(I)I"⟩
abbrev cX12_runWeigh : ByteArray := prog_14_method_86_code
def yX12_runWeigh : MethodName := ⟨RX12, "runWeigh", "(I)I"⟩
abbrev cX12_weighIt : ByteArray := prog_14_method_87_code
def yX12_weighIt : MethodName := ⟨RX12, "weighIt", "(I)I"⟩
abbrev cX12_goingShow : ByteArray := prog_14_method_88_code
def yX12_goingShow : MethodName := ⟨RX12, "goingShow", "(I)I"⟩
abbrev cX12_showIt : ByteArray := prog_14_method_89_code
def yX12_showIt : MethodName := ⟨RX12, "showIt", "(I)I"⟩
abbrev cX12_goingTell : ByteArray := prog_14_method_90_code
def yX12_goingTell : MethodName := ⟨RX12, "goingTell", "(I)I"⟩
abbrev cX12_tellIt : ByteArray := prog_14_method_91_code
def yX12_tellIt : MethodName := ⟨RX12, "tellIt", "(I)I"⟩
abbrev cX12_voice : ByteArray := prog_14_method_92_code
def yX12_voice : MethodName := ⟨RX12, "voice", "(III)I"⟩
abbrev cX12_trace : ByteArray := prog_14_method_93_code
def yX12_trace : MethodName := ⟨RX12, "trace", "(I)I"⟩
abbrev cX12_sheet : ByteArray := prog_14_method_94_code
def yX12_sheet : MethodName := ⟨RX12, "sheet", "(III)I"⟩
abbrev cX12_put : ByteArray := prog_14_method_95_code
def yX12_put : MethodName := ⟨RX12, "put", "(III)I"⟩
abbrev cX12_has : ByteArray := prog_14_method_96_code
def yX12_has : MethodName := ⟨RX12, "has", "(III)Z"⟩
abbrev cX12_move : ByteArray := prog_14_method_97_code
def yX12_move : MethodName := ⟨RX12, "move", "(IIIII)I"⟩
abbrev cX12_narrowed : ByteArray := prog_14_method_98_code
def yX12_narrowed : MethodName := ⟨RX12, "narrowed", "(II)I"⟩
abbrev cX12_write : ByteArray := prog_14_method_99_code
def yX12_write : MethodName := ⟨RX12, "write", "(II)I"⟩
abbrev cX12_image : ByteArray := prog_14_method_100_code
def yX12_image : MethodName := ⟨RX12, "image", "()I"⟩
abbrev cX12_restore : ByteArray := prog_14_method_101_code
def yX12_restore : MethodName := ⟨RX12, "restore", "()I"⟩
abbrev cX12_told : ByteArray := prog_14_method_102_code
def yX12_told : MethodName := ⟨RX12, "told", "(I)I"⟩
abbrev cX12_found : ByteArray := prog_14_method_103_code
def yX12_found : MethodName := ⟨RX12, "found", "(I)I"⟩
def RJ6 : String := "java/lang/Intege\x72"
def TJ6 : u_T := fun k => match k with
  | _ => ("", "", "", false)
def tyJ6 : Nat → FieldType := fun k => match k with
  | _ => .int
theorem nmJ6 : ∀ a, a < 0 → ∀ b, b < 0 → a ≠ b → (TJ6 a).2.1 ≠ (TJ6 b).2.1 := by decide +kernel
theorem tyJ6_ok : ∀ k, k < 0 → parseFieldDescriptor (TJ6 k).2.2.1 = some (tyJ6 k) := by decide +kernel
abbrev cJ6_bitCount_0f7a4 : ByteArray := prog_15_method_49_code
def yJ6_bitCount_0f7a4 : MethodName := ⟨RJ6, "bitCount", "(I)I"⟩
def RJ9 : String := "java/lang/Math"
def TJ9 : u_T := fun k => match k with
  | _ => ("", "", "", false)
def tyJ9 : Nat → FieldType := fun k => match k with
  | _ => .int
theorem nmJ9 : ∀ a, a < 0 → ∀ b, b < 0 → a ≠ b → (TJ9 a).2.1 ≠ (TJ9 b).2.1 := by decide +kernel
theorem tyJ9_ok : ∀ k, k < 0 → parseFieldDescriptor (TJ9 k).2.2.1 = some (tyJ9 k) := by decide +kernel
abbrev cJ9_abs_0f7a4 : ByteArray := prog_16_method_59_code
def yJ9_abs_0f7a4 : MethodName := ⟨RJ9, "abs", "(I)I"⟩
abbrev cJ9_abs_067f4 : ByteArray := prog_16_method_61_code
def yJ9_abs_067f4 : MethodName := ⟨RJ9, "abs", "(J)J"⟩
abbrev cJ9_max_7cf53 : ByteArray := prog_16_method_65_code
def yJ9_max_7cf53 : MethodName := ⟨RJ9, "max", "(II)I"⟩
abbrev cJ9_min_7cf53 : ByteArray := prog_16_method_69_code
def yJ9_min_7cf53 : MethodName := ⟨RJ9, "min", "(II)I"⟩
def RJ10 : String := "java/lang/System"
def TJ10 : u_T := fun k => match k with
  | _ => ("", "", "", false)
def tyJ10 : Nat → FieldType := fun k => match k with
  | _ => .int
theorem nmJ10 : ∀ a, a < 0 → ∀ b, b < 0 → a ≠ b → (TJ10 a).2.1 ≠ (TJ10 b).2.1 := by decide +kernel
theorem tyJ10_ok : ∀ k, k < 0 → parseFieldDescriptor (TJ10 k).2.2.1 = some (tyJ10 k) := by decide +kernel
def RJ7 : String := "java/util/Arrays"
def TJ7 : u_T := fun k => match k with
  | _ => ("", "", "", false)
def tyJ7 : Nat → FieldType := fun k => match k with
  | _ => .int
theorem nmJ7 : ∀ a, a < 0 → ∀ b, b < 0 → a ≠ b → (TJ7 a).2.1 ≠ (TJ7 b).2.1 := by decide +kernel
theorem tyJ7_ok : ∀ k, k < 0 → parseFieldDescriptor (TJ7 k).2.2.1 = some (tyJ7 k) := by decide +kernel
abbrev cJ7_fill_53178 : ByteArray := prog_18_method_103_code
def yJ7_fill_53178 : MethodName := ⟨RJ7, "fill", "([II)V"⟩
def RL : String := "TrainMileLaw"
abbrev cL_law : ByteArray := code
def yL_law : MethodName := ⟨RL, "law", "([I)Z"⟩
abbrev vwCl : List vw_C := [(RX0, TX0, 4), (RX1, TX1, 6), (RX2, TX2, 5), (RX3, TX3, 13), (RX4, TX4, 6), (RX5, TX5, 13), (RX6, TX6, 8), (RX7, TX7, 4), (RX8, TX8, 3), (RX9, TX9, 5), (RX10, TX10, 11), (RX11, TX11, 9), (RX12, TX12, 31)]
