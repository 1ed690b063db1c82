section
-- ===== PART A: goes FIRST, ahead of the names: the tables' words, and 'selects' of the private methods out of them =====
/-- a private method of a class that the tables say can be made, by its rows of tables_1 -/
def lw_okq (q : MethodName × Nat) : Prop := (q.1.cls ≠ "java/lang/invoke/MethodHandle" ∧ q.1.cls ≠ "java/lang/invoke/VarHandle") ∧ Cond.instantiable q.1.cls q.2 ∈ tables_1 ∧ Cond.privateMethod q.1 ∈ tables_1 ∧ Cond.instanceMethod q.1 ∈ tables_1
theorem lw_p0 : lw_okq (⟨"HillSlices", "faultAs", "(I)I"⟩, 6) := ⟨⟨by decide +kernel, by decide +kernel⟩, List.mem_of_getElem? (i := 16) (by decide +kernel), List.mem_of_getElem? (i := 173) (by decide +kernel), List.mem_of_getElem? (i := 174) (by decide +kernel)⟩
theorem lw_p1 : lw_okq (⟨"HillSlices$Pad", "digitAt", "(I)I"⟩, 3) := ⟨⟨by decide +kernel, by decide +kernel⟩, List.mem_of_getElem? (i := 24) (by decide +kernel), List.mem_of_getElem? (i := 272) (by decide +kernel), List.mem_of_getElem? (i := 273) (by decide +kernel)⟩
theorem lw_p2 : lw_okq (⟨"HillSlices", "forgetCuts", "()V"⟩, 6) := ⟨⟨by decide +kernel, by decide +kernel⟩, List.mem_of_getElem? (i := 16) (by decide +kernel), List.mem_of_getElem? (i := 319) (by decide +kernel), List.mem_of_getElem? (i := 320) (by decide +kernel)⟩
theorem lw_p3 : lw_okq (⟨"HillSlices$Hill", "give", "(II)V"⟩, 6) := ⟨⟨by decide +kernel, by decide +kernel⟩, List.mem_of_getElem? (i := 43) (by decide +kernel), List.mem_of_getElem? (i := 347) (by decide +kernel), List.mem_of_getElem? (i := 348) (by decide +kernel)⟩
theorem lw_p4 : lw_okq (⟨"HillSlices", "answerOfCut", "(LHillSlices$Cut;II)I"⟩, 6) := ⟨⟨by decide +kernel, by decide +kernel⟩, List.mem_of_getElem? (i := 16) (by decide +kernel), List.mem_of_getElem? (i := 439) (by decide +kernel), List.mem_of_getElem? (i := 440) (by decide +kernel)⟩
theorem lw_p5 : lw_okq (⟨"HillSlices$Cut", "sumUp", "(ILHillSlices$Hill;)V"⟩, 9) := ⟨⟨by decide +kernel, by decide +kernel⟩, List.mem_of_getElem? (i := 77) (by decide +kernel), List.mem_of_getElem? (i := 447) (by decide +kernel), List.mem_of_getElem? (i := 448) (by decide +kernel)⟩
theorem lw_p6 : lw_okq (⟨"HillSlices$Cut", "isSettled", "()Z"⟩, 9) := ⟨⟨by decide +kernel, by decide +kernel⟩, List.mem_of_getElem? (i := 77) (by decide +kernel), List.mem_of_getElem? (i := 452) (by decide +kernel), List.mem_of_getElem? (i := 453) (by decide +kernel)⟩
theorem lw_p7 : lw_okq (⟨"HillSlices$Cut", "isFound", "()Z"⟩, 9) := ⟨⟨by decide +kernel, by decide +kernel⟩, List.mem_of_getElem? (i := 77) (by decide +kernel), List.mem_of_getElem? (i := 456) (by decide +kernel), List.mem_of_getElem? (i := 457) (by decide +kernel)⟩
theorem lw_p8 : lw_okq (⟨"HillSlices$Cut", "firstArcOfNoUse", "()I"⟩, 9) := ⟨⟨by decide +kernel, by decide +kernel⟩, List.mem_of_getElem? (i := 77) (by decide +kernel), List.mem_of_getElem? (i := 460) (by decide +kernel), List.mem_of_getElem? (i := 461) (by decide +kernel)⟩
theorem lw_p9 : lw_okq (⟨"HillSlices$Cut", "noteShares", "(I)Z"⟩, 9) := ⟨⟨by decide +kernel, by decide +kernel⟩, List.mem_of_getElem? (i := 77) (by decide +kernel), List.mem_of_getElem? (i := 464) (by decide +kernel), List.mem_of_getElem? (i := 465) (by decide +kernel)⟩
theorem lw_p10 : lw_okq (⟨"HillSlices$Cut", "isEnough", "(II)Z"⟩, 9) := ⟨⟨by decide +kernel, by decide +kernel⟩, List.mem_of_getElem? (i := 77) (by decide +kernel), List.mem_of_getElem? (i := 468) (by decide +kernel), List.mem_of_getElem? (i := 469) (by decide +kernel)⟩
theorem lw_p11 : lw_okq (⟨"HillSlices$Cut", "chooseHeirs", "(III)V"⟩, 9) := ⟨⟨by decide +kernel, by decide +kernel⟩, List.mem_of_getElem? (i := 77) (by decide +kernel), List.mem_of_getElem? (i := 473) (by decide +kernel), List.mem_of_getElem? (i := 474) (by decide +kernel)⟩
theorem lw_p12 : lw_okq (⟨"HillSlices$Cut", "isEnvious", "(II)Z"⟩, 9) := ⟨⟨by decide +kernel, by decide +kernel⟩, List.mem_of_getElem? (i := 77) (by decide +kernel), List.mem_of_getElem? (i := 478) (by decide +kernel), List.mem_of_getElem? (i := 479) (by decide +kernel)⟩
theorem lw_p13 : lw_okq (⟨"HillSlices$Cut", "chooseBehind", "(III)V"⟩, 9) := ⟨⟨by decide +kernel, by decide +kernel⟩, List.mem_of_getElem? (i := 77) (by decide +kernel), List.mem_of_getElem? (i := 482) (by decide +kernel), List.mem_of_getElem? (i := 483) (by decide +kernel)⟩
theorem lw_p14 : lw_okq (⟨"HillSlices$Cut", "keep", "(I)V"⟩, 9) := ⟨⟨by decide +kernel, by decide +kernel⟩, List.mem_of_getElem? (i := 77) (by decide +kernel), List.mem_of_getElem? (i := 486) (by decide +kernel), List.mem_of_getElem? (i := 487) (by decide +kernel)⟩
theorem lw_p15 : lw_okq (⟨"HillSlices$Cut", "stepBounds", "(I)Z"⟩, 9) := ⟨⟨by decide +kernel, by decide +kernel⟩, List.mem_of_getElem? (i := 77) (by decide +kernel), List.mem_of_getElem? (i := 491) (by decide +kernel), List.mem_of_getElem? (i := 492) (by decide +kernel)⟩
def lw_privs_1 : List (MethodName × Nat) := [(⟨"HillSlices", "faultAs", "(I)I"⟩, 6), (⟨"HillSlices$Pad", "digitAt", "(I)I"⟩, 3), (⟨"HillSlices", "forgetCuts", "()V"⟩, 6), (⟨"HillSlices$Hill", "give", "(II)V"⟩, 6), (⟨"HillSlices", "answerOfCut", "(LHillSlices$Cut;II)I"⟩, 6), (⟨"HillSlices$Cut", "sumUp", "(ILHillSlices$Hill;)V"⟩, 9), (⟨"HillSlices$Cut", "isSettled", "()Z"⟩, 9), (⟨"HillSlices$Cut", "isFound", "()Z"⟩, 9), (⟨"HillSlices$Cut", "firstArcOfNoUse", "()I"⟩, 9), (⟨"HillSlices$Cut", "noteShares", "(I)Z"⟩, 9), (⟨"HillSlices$Cut", "isEnough", "(II)Z"⟩, 9), (⟨"HillSlices$Cut", "chooseHeirs", "(III)V"⟩, 9), (⟨"HillSlices$Cut", "isEnvious", "(II)Z"⟩, 9), (⟨"HillSlices$Cut", "chooseBehind", "(III)V"⟩, 9), (⟨"HillSlices$Cut", "keep", "(I)V"⟩, 9), (⟨"HillSlices$Cut", "stepBounds", "(I)Z"⟩, 9)]
theorem lw_r1 : ∀ q ∈ lw_privs_1, lw_okq q := List.forall_mem_cons.mpr ⟨lw_p0, List.forall_mem_cons.mpr ⟨lw_p1, List.forall_mem_cons.mpr ⟨lw_p2, List.forall_mem_cons.mpr ⟨lw_p3, List.forall_mem_cons.mpr ⟨lw_p4, List.forall_mem_cons.mpr ⟨lw_p5, List.forall_mem_cons.mpr ⟨lw_p6, List.forall_mem_cons.mpr ⟨lw_p7, List.forall_mem_cons.mpr ⟨lw_p8, List.forall_mem_cons.mpr ⟨lw_p9, List.forall_mem_cons.mpr ⟨lw_p10, List.forall_mem_cons.mpr ⟨lw_p11, List.forall_mem_cons.mpr ⟨lw_p12, List.forall_mem_cons.mpr ⟨lw_p13, List.forall_mem_cons.mpr ⟨lw_p14, List.forall_mem_cons.mpr ⟨lw_p15, fun _ h => absurd h List.not_mem_nil⟩⟩⟩⟩⟩⟩⟩⟩⟩⟩⟩⟩⟩⟩⟩⟩
theorem lw_p16 : lw_okq (⟨"HillSlices", "bestWay", "(IIII)I"⟩, 6) := ⟨⟨by decide +kernel, by decide +kernel⟩, List.mem_of_getElem? (i := 16) (by decide +kernel), List.mem_of_getElem? (i := 523) (by decide +kernel), List.mem_of_getElem? (i := 524) (by decide +kernel)⟩
theorem lw_p17 : lw_okq (⟨"HillSlices", "costOfWay", "(IIII)I"⟩, 6) := ⟨⟨by decide +kernel, by decide +kernel⟩, List.mem_of_getElem? (i := 16) (by decide +kernel), List.mem_of_getElem? (i := 528) (by decide +kernel), List.mem_of_getElem? (i := 529) (by decide +kernel)⟩
theorem lw_p18 : lw_okq (⟨"HillSlices", "costOfRound", "(IIII)I"⟩, 6) := ⟨⟨by decide +kernel, by decide +kernel⟩, List.mem_of_getElem? (i := 16) (by decide +kernel), List.mem_of_getElem? (i := 535) (by decide +kernel), List.mem_of_getElem? (i := 536) (by decide +kernel)⟩
theorem lw_p19 : lw_okq (⟨"HillSlices", "costOfWayBack", "(IIII)I"⟩, 6) := ⟨⟨by decide +kernel, by decide +kernel⟩, List.mem_of_getElem? (i := 16) (by decide +kernel), List.mem_of_getElem? (i := 543) (by decide +kernel), List.mem_of_getElem? (i := 544) (by decide +kernel)⟩
theorem lw_p20 : lw_okq (⟨"HillSlices", "hitByStone", "(II)I"⟩, 6) := ⟨⟨by decide +kernel, by decide +kernel⟩, List.mem_of_getElem? (i := 16) (by decide +kernel), List.mem_of_getElem? (i := 552) (by decide +kernel), List.mem_of_getElem? (i := 553) (by decide +kernel)⟩
theorem lw_p21 : lw_okq (⟨"HillSlices", "sectorBelow", "(II)I"⟩, 6) := ⟨⟨by decide +kernel, by decide +kernel⟩, List.mem_of_getElem? (i := 16) (by decide +kernel), List.mem_of_getElem? (i := 556) (by decide +kernel), List.mem_of_getElem? (i := 557) (by decide +kernel)⟩
theorem lw_p22 : lw_okq (⟨"HillSlices", "endOfStone", "(II)I"⟩, 6) := ⟨⟨by decide +kernel, by decide +kernel⟩, List.mem_of_getElem? (i := 16) (by decide +kernel), List.mem_of_getElem? (i := 561) (by decide +kernel), List.mem_of_getElem? (i := 562) (by decide +kernel)⟩
theorem lw_p23 : lw_okq (⟨"HillSlices", "runOfAvalanche", "(III)I"⟩, 6) := ⟨⟨by decide +kernel, by decide +kernel⟩, List.mem_of_getElem? (i := 16) (by decide +kernel), List.mem_of_getElem? (i := 569) (by decide +kernel), List.mem_of_getElem? (i := 570) (by decide +kernel)⟩
theorem lw_p24 : lw_okq (⟨"HillSlices$Fence", "openSides", "(II)V"⟩, 5) := ⟨⟨by decide +kernel, by decide +kernel⟩, List.mem_of_getElem? (i := 111) (by decide +kernel), List.mem_of_getElem? (i := 598) (by decide +kernel), List.mem_of_getElem? (i := 599) (by decide +kernel)⟩
theorem lw_p25 : lw_okq (⟨"HillSlices$Fence", "seekGoal", "(ILHillSlices$Hill;)I"⟩, 5) := ⟨⟨by decide +kernel, by decide +kernel⟩, List.mem_of_getElem? (i := 111) (by decide +kernel), List.mem_of_getElem? (i := 602) (by decide +kernel), List.mem_of_getElem? (i := 603) (by decide +kernel)⟩
theorem lw_p26 : lw_okq (⟨"HillSlices$Fence", "reach", "(II)V"⟩, 5) := ⟨⟨by decide +kernel, by decide +kernel⟩, List.mem_of_getElem? (i := 111) (by decide +kernel), List.mem_of_getElem? (i := 606) (by decide +kernel), List.mem_of_getElem? (i := 607) (by decide +kernel)⟩
theorem lw_p27 : lw_okq (⟨"HillSlices$Fence", "streamTo", "(I)I"⟩, 5) := ⟨⟨by decide +kernel, by decide +kernel⟩, List.mem_of_getElem? (i := 111) (by decide +kernel), List.mem_of_getElem? (i := 613) (by decide +kernel), List.mem_of_getElem? (i := 614) (by decide +kernel)⟩
theorem lw_p28 : lw_okq (⟨"HillSlices", "yearsOfSpring", "(IIII)I"⟩, 6) := ⟨⟨by decide +kernel, by decide +kernel⟩, List.mem_of_getElem? (i := 16) (by decide +kernel), List.mem_of_getElem? (i := 625) (by decide +kernel), List.mem_of_getElem? (i := 626) (by decide +kernel)⟩
theorem lw_p29 : lw_okq (⟨"HillSlices", "firstYearOfSpring", "(IIII)I"⟩, 6) := ⟨⟨by decide +kernel, by decide +kernel⟩, List.mem_of_getElem? (i := 16) (by decide +kernel), List.mem_of_getElem? (i := 629) (by decide +kernel), List.mem_of_getElem? (i := 630) (by decide +kernel)⟩
theorem lw_p30 : lw_okq (⟨"HillSlices", "boundsAsOne", "(II)I"⟩, 6) := ⟨⟨by decide +kernel, by decide +kernel⟩, List.mem_of_getElem? (i := 16) (by decide +kernel), List.mem_of_getElem? (i := 637) (by decide +kernel), List.mem_of_getElem? (i := 638) (by decide +kernel)⟩
theorem lw_p31 : lw_okq (⟨"HillSlices", "bestWedding", "()I"⟩, 6) := ⟨⟨by decide +kernel, by decide +kernel⟩, List.mem_of_getElem? (i := 16) (by decide +kernel), List.mem_of_getElem? (i := 644) (by decide +kernel), List.mem_of_getElem? (i := 645) (by decide +kernel)⟩
def lw_privs_2 : List (MethodName × Nat) := [(⟨"HillSlices", "bestWay", "(IIII)I"⟩, 6), (⟨"HillSlices", "costOfWay", "(IIII)I"⟩, 6), (⟨"HillSlices", "costOfRound", "(IIII)I"⟩, 6), (⟨"HillSlices", "costOfWayBack", "(IIII)I"⟩, 6), (⟨"HillSlices", "hitByStone", "(II)I"⟩, 6), (⟨"HillSlices", "sectorBelow", "(II)I"⟩, 6), (⟨"HillSlices", "endOfStone", "(II)I"⟩, 6), (⟨"HillSlices", "runOfAvalanche", "(III)I"⟩, 6), (⟨"HillSlices$Fence", "openSides", "(II)V"⟩, 5), (⟨"HillSlices$Fence", "seekGoal", "(ILHillSlices$Hill;)I"⟩, 5), (⟨"HillSlices$Fence", "reach", "(II)V"⟩, 5), (⟨"HillSlices$Fence", "streamTo", "(I)I"⟩, 5), (⟨"HillSlices", "yearsOfSpring", "(IIII)I"⟩, 6), (⟨"HillSlices", "firstYearOfSpring", "(IIII)I"⟩, 6), (⟨"HillSlices", "boundsAsOne", "(II)I"⟩, 6), (⟨"HillSlices", "bestWedding", "()I"⟩, 6)]
theorem lw_r2 : ∀ q ∈ lw_privs_2, lw_okq q := List.forall_mem_cons.mpr ⟨lw_p16, List.forall_mem_cons.mpr ⟨lw_p17, List.forall_mem_cons.mpr ⟨lw_p18, List.forall_mem_cons.mpr ⟨lw_p19, List.forall_mem_cons.mpr ⟨lw_p20, List.forall_mem_cons.mpr ⟨lw_p21, List.forall_mem_cons.mpr ⟨lw_p22, List.forall_mem_cons.mpr ⟨lw_p23, List.forall_mem_cons.mpr ⟨lw_p24, List.forall_mem_cons.mpr ⟨lw_p25, List.forall_mem_cons.mpr ⟨lw_p26, List.forall_mem_cons.mpr ⟨lw_p27, List.forall_mem_cons.mpr ⟨lw_p28, List.forall_mem_cons.mpr ⟨lw_p29, List.forall_mem_cons.mpr ⟨lw_p30, List.forall_mem_cons.mpr ⟨lw_p31, fun _ h => absurd h List.not_mem_nil⟩⟩⟩⟩⟩⟩⟩⟩⟩⟩⟩⟩⟩⟩⟩⟩
theorem lw_p32 : lw_okq (⟨"HillSlices", "narrowestPiece", "()I"⟩, 6) := ⟨⟨by decide +kernel, by decide +kernel⟩, List.mem_of_getElem? (i := 16) (by decide +kernel), List.mem_of_getElem? (i := 648) (by decide +kernel), List.mem_of_getElem? (i := 649) (by decide +kernel)⟩
theorem lw_p33 : lw_okq (⟨"HillSlices", "pieceBehind", "(I)I"⟩, 6) := ⟨⟨by decide +kernel, by decide +kernel⟩, List.mem_of_getElem? (i := 16) (by decide +kernel), List.mem_of_getElem? (i := 652) (by decide +kernel), List.mem_of_getElem? (i := 653) (by decide +kernel)⟩
theorem lw_p34 : lw_okq (⟨"HillSlicesModel", "faultOf", "(I)I"⟩, 22) := ⟨⟨by decide +kernel, by decide +kernel⟩, List.mem_of_getElem? (i := 675) (by decide +kernel), List.mem_of_getElem? (i := 763) (by decide +kernel), List.mem_of_getElem? (i := 764) (by decide +kernel)⟩
theorem lw_p35 : lw_okq (⟨"HillSlicesModel", "sectorsOf", "(I)I"⟩, 22) := ⟨⟨by decide +kernel, by decide +kernel⟩, List.mem_of_getElem? (i := 675) (by decide +kernel), List.mem_of_getElem? (i := 767) (by decide +kernel), List.mem_of_getElem? (i := 768) (by decide +kernel)⟩
theorem lw_p36 : lw_okq (⟨"HillSlicesModel", "keepGeneration", "()V"⟩, 22) := ⟨⟨by decide +kernel, by decide +kernel⟩, List.mem_of_getElem? (i := 675) (by decide +kernel), List.mem_of_getElem? (i := 788) (by decide +kernel), List.mem_of_getElem? (i := 789) (by decide +kernel)⟩
theorem lw_p37 : lw_okq (⟨"HillSlicesModel", "sectors", "(I)I"⟩, 22) := ⟨⟨by decide +kernel, by decide +kernel⟩, List.mem_of_getElem? (i := 675) (by decide +kernel), List.mem_of_getElem? (i := 818) (by decide +kernel), List.mem_of_getElem? (i := 819) (by decide +kernel)⟩
theorem lw_p38 : lw_okq (⟨"HillSlicesModel", "shareOf", "(II)I"⟩, 22) := ⟨⟨by decide +kernel, by decide +kernel⟩, List.mem_of_getElem? (i := 675) (by decide +kernel), List.mem_of_getElem? (i := 831) (by decide +kernel), List.mem_of_getElem? (i := 832) (by decide +kernel)⟩
theorem lw_p39 : lw_okq (⟨"HillSlicesModel", "sectorWorth", "(II)I"⟩, 22) := ⟨⟨by decide +kernel, by decide +kernel⟩, List.mem_of_getElem? (i := 675) (by decide +kernel), List.mem_of_getElem? (i := 838) (by decide +kernel), List.mem_of_getElem? (i := 839) (by decide +kernel)⟩
theorem lw_p40 : lw_okq (⟨"HillSlicesModel", "layCut", "(IZ)Z"⟩, 22) := ⟨⟨by decide +kernel, by decide +kernel⟩, List.mem_of_getElem? (i := 675) (by decide +kernel), List.mem_of_getElem? (i := 850) (by decide +kernel), List.mem_of_getElem? (i := 851) (by decide +kernel)⟩
theorem lw_p41 : lw_okq (⟨"HillSlicesModel", "layAhead", "()V"⟩, 22) := ⟨⟨by decide +kernel, by decide +kernel⟩, List.mem_of_getElem? (i := 675) (by decide +kernel), List.mem_of_getElem? (i := 854) (by decide +kernel), List.mem_of_getElem? (i := 855) (by decide +kernel)⟩
theorem lw_p42 : lw_okq (⟨"HillSlicesModel", "layOwners", "(II)Z"⟩, 22) := ⟨⟨by decide +kernel, by decide +kernel⟩, List.mem_of_getElem? (i := 675) (by decide +kernel), List.mem_of_getElem? (i := 858) (by decide +kernel), List.mem_of_getElem? (i := 859) (by decide +kernel)⟩
theorem lw_p43 : lw_okq (⟨"HillSlicesModel", "leastShare", "(I)I"⟩, 22) := ⟨⟨by decide +kernel, by decide +kernel⟩, List.mem_of_getElem? (i := 675) (by decide +kernel), List.mem_of_getElem? (i := 862) (by decide +kernel), List.mem_of_getElem? (i := 863) (by decide +kernel)⟩
theorem lw_p44 : lw_okq (⟨"HillSlicesModel", "arcWorth", "(III)I"⟩, 22) := ⟨⟨by decide +kernel, by decide +kernel⟩, List.mem_of_getElem? (i := 675) (by decide +kernel), List.mem_of_getElem? (i := 866) (by decide +kernel), List.mem_of_getElem? (i := 867) (by decide +kernel)⟩
theorem lw_p45 : lw_okq (⟨"HillSlicesModel", "isFair", "(I)Z"⟩, 22) := ⟨⟨by decide +kernel, by decide +kernel⟩, List.mem_of_getElem? (i := 675) (by decide +kernel), List.mem_of_getElem? (i := 870) (by decide +kernel), List.mem_of_getElem? (i := 871) (by decide +kernel)⟩
theorem lw_p46 : lw_okq (⟨"HillSlicesModel", "keepCut", "(I)V"⟩, 22) := ⟨⟨by decide +kernel, by decide +kernel⟩, List.mem_of_getElem? (i := 675) (by decide +kernel), List.mem_of_getElem? (i := 874) (by decide +kernel), List.mem_of_getElem? (i := 875) (by decide +kernel)⟩
theorem lw_p47 : lw_okq (⟨"HillSlicesModel", "nextBounds", "(I)Z"⟩, 22) := ⟨⟨by decide +kernel, by decide +kernel⟩, List.mem_of_getElem? (i := 675) (by decide +kernel), List.mem_of_getElem? (i := 878) (by decide +kernel), List.mem_of_getElem? (i := 879) (by decide +kernel)⟩
def lw_privs_3 : List (MethodName × Nat) := [(⟨"HillSlices", "narrowestPiece", "()I"⟩, 6), (⟨"HillSlices", "pieceBehind", "(I)I"⟩, 6), (⟨"HillSlicesModel", "faultOf", "(I)I"⟩, 22), (⟨"HillSlicesModel", "sectorsOf", "(I)I"⟩, 22), (⟨"HillSlicesModel", "keepGeneration", "()V"⟩, 22), (⟨"HillSlicesModel", "sectors", "(I)I"⟩, 22), (⟨"HillSlicesModel", "shareOf", "(II)I"⟩, 22), (⟨"HillSlicesModel", "sectorWorth", "(II)I"⟩, 22), (⟨"HillSlicesModel", "layCut", "(IZ)Z"⟩, 22), (⟨"HillSlicesModel", "layAhead", "()V"⟩, 22), (⟨"HillSlicesModel", "layOwners", "(II)Z"⟩, 22), (⟨"HillSlicesModel", "leastShare", "(I)I"⟩, 22), (⟨"HillSlicesModel", "arcWorth", "(III)I"⟩, 22), (⟨"HillSlicesModel", "isFair", "(I)Z"⟩, 22), (⟨"HillSlicesModel", "keepCut", "(I)V"⟩, 22), (⟨"HillSlicesModel", "nextBounds", "(I)Z"⟩, 22)]
theorem lw_r3 : ∀ q ∈ lw_privs_3, lw_okq q := List.forall_mem_cons.mpr ⟨lw_p32, List.forall_mem_cons.mpr ⟨lw_p33, List.forall_mem_cons.mpr ⟨lw_p34, List.forall_mem_cons.mpr ⟨lw_p35, List.forall_mem_cons.mpr ⟨lw_p36, List.forall_mem_cons.mpr ⟨lw_p37, List.forall_mem_cons.mpr ⟨lw_p38, List.forall_mem_cons.mpr ⟨lw_p39, List.forall_mem_cons.mpr ⟨lw_p40, List.forall_mem_cons.mpr ⟨lw_p41, List.forall_mem_cons.mpr ⟨lw_p42, List.forall_mem_cons.mpr ⟨lw_p43, List.forall_mem_cons.mpr ⟨lw_p44, List.forall_mem_cons.mpr ⟨lw_p45, List.forall_mem_cons.mpr ⟨lw_p46, List.forall_mem_cons.mpr ⟨lw_p47, fun _ h => absurd h List.not_mem_nil⟩⟩⟩⟩⟩⟩⟩⟩⟩⟩⟩⟩⟩⟩⟩⟩
theorem lw_p48 : lw_okq (⟨"HillSlicesModel", "toldCut", "(IIZI)I"⟩, 22) := ⟨⟨by decide +kernel, by decide +kernel⟩, List.mem_of_getElem? (i := 675) (by decide +kernel), List.mem_of_getElem? (i := 882) (by decide +kernel), List.mem_of_getElem? (i := 883) (by decide +kernel)⟩
theorem lw_p49 : lw_okq (⟨"HillSlicesModel", "wayCost", "(IIIIZ)I"⟩, 22) := ⟨⟨by decide +kernel, by decide +kernel⟩, List.mem_of_getElem? (i := 675) (by decide +kernel), List.mem_of_getElem? (i := 902) (by decide +kernel), List.mem_of_getElem? (i := 903) (by decide +kernel)⟩
theorem lw_p50 : lw_okq (⟨"HillSlicesModel", "hitBy", "(II)I"⟩, 22) := ⟨⟨by decide +kernel, by decide +kernel⟩, List.mem_of_getElem? (i := 675) (by decide +kernel), List.mem_of_getElem? (i := 916) (by decide +kernel), List.mem_of_getElem? (i := 917) (by decide +kernel)⟩
theorem lw_p51 : lw_okq (⟨"HillSlicesModel", "goOne", "(I)Z"⟩, 22) := ⟨⟨by decide +kernel, by decide +kernel⟩, List.mem_of_getElem? (i := 675) (by decide +kernel), List.mem_of_getElem? (i := 932) (by decide +kernel), List.mem_of_getElem? (i := 933) (by decide +kernel)⟩
theorem lw_p52 : lw_okq (⟨"HillSlicesModel", "begins", "(II)Z"⟩, 22) := ⟨⟨by decide +kernel, by decide +kernel⟩, List.mem_of_getElem? (i := 675) (by decide +kernel), List.mem_of_getElem? (i := 936) (by decide +kernel), List.mem_of_getElem? (i := 937) (by decide +kernel)⟩
theorem lw_p53 : lw_okq (⟨"HillSlicesModel", "goes", "(II)I"⟩, 22) := ⟨⟨by decide +kernel, by decide +kernel⟩, List.mem_of_getElem? (i := 675) (by decide +kernel), List.mem_of_getElem? (i := 940) (by decide +kernel), List.mem_of_getElem? (i := 941) (by decide +kernel)⟩
theorem lw_p54 : lw_okq (⟨"HillSlicesModel", "ends", "(II)Z"⟩, 22) := ⟨⟨by decide +kernel, by decide +kernel⟩, List.mem_of_getElem? (i := 675) (by decide +kernel), List.mem_of_getElem? (i := 944) (by decide +kernel), List.mem_of_getElem? (i := 945) (by decide +kernel)⟩
theorem lw_p55 : lw_okq (⟨"HillSlicesModel", "go", "(III)V"⟩, 22) := ⟨⟨by decide +kernel, by decide +kernel⟩, List.mem_of_getElem? (i := 675) (by decide +kernel), List.mem_of_getElem? (i := 948) (by decide +kernel), List.mem_of_getElem? (i := 949) (by decide +kernel)⟩
theorem lw_p56 : lw_okq (⟨"HillSlicesModel", "boundsBy", "(II)I"⟩, 22) := ⟨⟨by decide +kernel, by decide +kernel⟩, List.mem_of_getElem? (i := 675) (by decide +kernel), List.mem_of_getElem? (i := 960) (by decide +kernel), List.mem_of_getElem? (i := 961) (by decide +kernel)⟩
theorem lw_p57 : lw_okq (⟨"HillSlicesModel", "bestWedding", "()I"⟩, 22) := ⟨⟨by decide +kernel, by decide +kernel⟩, List.mem_of_getElem? (i := 675) (by decide +kernel), List.mem_of_getElem? (i := 964) (by decide +kernel), List.mem_of_getElem? (i := 965) (by decide +kernel)⟩
theorem lw_p58 : lw_okq (⟨"HillSlicesModel", "narrowest", "()I"⟩, 22) := ⟨⟨by decide +kernel, by decide +kernel⟩, List.mem_of_getElem? (i := 675) (by decide +kernel), List.mem_of_getElem? (i := 968) (by decide +kernel), List.mem_of_getElem? (i := 969) (by decide +kernel)⟩
def lw_privs_4 : List (MethodName × Nat) := [(⟨"HillSlicesModel", "toldCut", "(IIZI)I"⟩, 22), (⟨"HillSlicesModel", "wayCost", "(IIIIZ)I"⟩, 22), (⟨"HillSlicesModel", "hitBy", "(II)I"⟩, 22), (⟨"HillSlicesModel", "goOne", "(I)Z"⟩, 22), (⟨"HillSlicesModel", "begins", "(II)Z"⟩, 22), (⟨"HillSlicesModel", "goes", "(II)I"⟩, 22), (⟨"HillSlicesModel", "ends", "(II)Z"⟩, 22), (⟨"HillSlicesModel", "go", "(III)V"⟩, 22), (⟨"HillSlicesModel", "boundsBy", "(II)I"⟩, 22), (⟨"HillSlicesModel", "bestWedding", "()I"⟩, 22), (⟨"HillSlicesModel", "narrowest", "()I"⟩, 22)]
theorem lw_r4 : ∀ q ∈ lw_privs_4, lw_okq q := List.forall_mem_cons.mpr ⟨lw_p48, List.forall_mem_cons.mpr ⟨lw_p49, List.forall_mem_cons.mpr ⟨lw_p50, List.forall_mem_cons.mpr ⟨lw_p51, List.forall_mem_cons.mpr ⟨lw_p52, List.forall_mem_cons.mpr ⟨lw_p53, List.forall_mem_cons.mpr ⟨lw_p54, List.forall_mem_cons.mpr ⟨lw_p55, List.forall_mem_cons.mpr ⟨lw_p56, List.forall_mem_cons.mpr ⟨lw_p57, List.forall_mem_cons.mpr ⟨lw_p58, fun _ h => absurd h List.not_mem_nil⟩⟩⟩⟩⟩⟩⟩⟩⟩⟩⟩
def lw_privs : List (MethodName × Nat) := lw_privs_1 ++ (lw_privs_2 ++ (lw_privs_3 ++ (lw_privs_4)))
def lw_tbl : List Cond := k2_sels lw_privs ++ tables_1
theorem lw_privs_ok : ∀ q ∈ lw_privs, lw_okq q := by
  show ∀ q ∈ lw_privs_1 ++ (lw_privs_2 ++ (lw_privs_3 ++ (lw_privs_4))), lw_okq q
  exact List.forall_mem_append.mpr ⟨lw_r1, List.forall_mem_append.mpr ⟨lw_r2, List.forall_mem_append.mpr ⟨lw_r3, lw_r4⟩⟩⟩

/-! ===== BEGIN words of one list among another's, by their places ===== -/
theorem goodIn_r {big : List Cond} (ws : List Cond) (ps : List Nat) (hp : ws = ps.filterMap (fun i => big[i]?)) (h : ws.all goodWord = true) : GoodIn big ws := by
  intro w hw
  have h1 := List.all_eq_true.mp h w hw
  rw [hp] at hw
  obtain ⟨i, -, hi⟩ := List.mem_filterMap.mp hw
  have hm : w ∈ big := by first | exact List.mem_of_getElem? hi | exact List.getElem?_mem hi
  exact ⟨hm, good_of_word h1⟩
theorem goodIn_app {big a b : List Cond} (ha : GoodIn big a) (hb : GoodIn big b) : GoodIn big (a ++ b) := fun w h => (List.mem_append.mp h).elim (ha w) (hb w)
theorem goodIn_ca {big a b : List Cond} {c : Cond} (ha : GoodIn big (c :: a)) (hb : GoodIn big b) : GoodIn big (c :: (a ++ b)) := fun w h => (List.mem_cons.mp h).elim (fun e => ha w (List.mem_cons.mpr (Or.inl e))) (fun h => (List.mem_append.mp h).elim (fun h => ha w (List.mem_cons.mpr (Or.inr h))) (hb w))
theorem goodIn_sub {big ws : List Cond} (hm : ∀ w ∈ ws, w ∈ big) (h : ws.all goodWord = true) : GoodIn big ws := fun w hw => ⟨hm w hw, good_of_word (List.all_eq_true.mp h w hw)⟩
/-! ===== END ===== -/

/-! ===== BEGIN printed: names, fields, word lists, decode rows ===== -/
def RX0 : String := "HillSlices$Cut"
def TX0 : u_T := fun k => match k with
  | 0 => ("HillSlices$Cut", "fair", "Z", true)
  | 1 => ("HillSlices$Cut", "sums", "[I", true)
  | 2 => ("HillSlices$Cut", "shares", "[I", true)
  | 3 => ("HillSlices$Cut", "begins", "[I", true)
  | 4 => ("HillSlices$Cut", "heirs", "[I", true)
  | 5 => ("HillSlices$Cut", "foundBegins", "[I", true)
  | 6 => ("HillSlices$Cut", "foundHeirs", "[I", true)
  | 7 => ("HillSlices$Cut", "n", "I", false)
  | _ => ("HillSlices$Cut", "leastShare", "I", false)
def tyX0 : Nat → FieldType := fun k => match k with
  | 0 => .boolean
  | 1 => .array .int
  | 2 => .array .int
  | 3 => .array .int
  | 4 => .array .int
  | 5 => .array .int
  | 6 => .array .int
  | 7 => .int
  | _ => .int
abbrev wsX00 : List Cond := u_ws RX0 TX0 9
theorem nmX0 : ∀ a, a < 9 → ∀ b, b < 9 → a ≠ b → (TX0 a).2.1 ≠ (TX0 b).2.1 := by decide +kernel
theorem tyX0_ok : ∀ k, k < 9 → parseFieldDescriptor (TX0 k).2.2.1 = some (tyX0 k) := by decide +kernel
abbrev cX0_init : ByteArray := prog_2_method_1_code
def yX0_init : MethodName := ⟨RX0, "<init>", "(Z)V"⟩
abbrev cX0_forget : ByteArray := prog_2_method_2_code
def yX0_forget : MethodName := ⟨RX0, "forget", "()V"⟩
abbrev cX0_isFound : ByteArray := prog_2_method_3_code
def yX0_isFound : MethodName := ⟨RX0, "isFound", "()Z"⟩
abbrev cX0_answer : ByteArray := prog_2_method_4_code
def yX0_answer : MethodName := ⟨RX0, "answer", "(I)I"⟩
abbrev cX0_searchAmong : ByteArray := prog_2_method_5_code
def yX0_searchAmong : MethodName := ⟨RX0, "searchAmong", "(ILHillSlices$Hill;)V"⟩
abbrev cX0_sumUp : ByteArray := prog_2_method_6_code
def yX0_sumUp : MethodName := ⟨RX0, "sumUp", "(ILHillSlices$Hill;)V"⟩
abbrev cX0_isSettled : ByteArray := prog_2_method_7_code
def yX0_isSettled : MethodName := ⟨RX0, "isSettled", "()Z"⟩
abbrev cX0_stepBounds : ByteArray := prog_2_method_8_code
def yX0_stepBounds : MethodName := ⟨RX0, "stepBounds", "(I)Z"⟩
abbrev cX0_firstArcOfNoUse : ByteArray := prog_2_method_9_code
def yX0_firstArcOfNoUse : MethodName := ⟨RX0, "firstArcOfNoUse", "()I"⟩
abbrev cX0_noteShares : ByteArray := prog_2_method_10_code
def yX0_noteShares : MethodName := ⟨RX0, "noteShares", "(I)Z"⟩
abbrev cX0_isEnough : ByteArray := prog_2_method_11_code
def yX0_isEnough : MethodName := ⟨RX0, "isEnough", "(II)Z"⟩
abbrev cX0_chooseHeirs : ByteArray := prog_2_method_12_code
def yX0_chooseHeirs : MethodName := ⟨RX0, "chooseHeirs", "(III)V"⟩
abbrev cX0_chooseBehind : ByteArray := prog_2_method_13_code
def yX0_chooseBehind : MethodName := ⟨RX0, "chooseBehind", "(III)V"⟩
abbrev cX0_isEnvious : ByteArray := prog_2_method_14_code
def yX0_isEnvious : MethodName := ⟨RX0, "isEnvious", "(II)Z"⟩
abbrev cX0_keep : ByteArray := prog_2_method_15_code
def yX0_keep : MethodName := ⟨RX0, "keep", "(I)V"⟩
def RX1 : String := "HillSlices$Fence"
def TX1 : u_T := fun k => match k with
  | 0 => ("HillSlices$Fence", "room", "[I", true)
  | 1 => ("HillSlices$Fence", "came", "[I", true)
  | 2 => ("HillSlices$Fence", "queue", "[I", true)
  | 3 => ("HillSlices$Fence", "goals", "[Z", true)
  | _ => ("HillSlices$Fence", "queued", "I", false)
def tyX1 : Nat → FieldType := fun k => match k with
  | 0 => .array .int
  | 1 => .array .int
  | 2 => .array .int
  | 3 => .array .boolean
  | _ => .int
abbrev wsX10 : List Cond := u_ws RX1 TX1 5
theorem nmX1 : ∀ a, a < 5 → ∀ b, b < 5 → a ≠ b → (TX1 a).2.1 ≠ (TX1 b).2.1 := by decide +kernel
theorem tyX1_ok : ∀ k, k < 5 → parseFieldDescriptor (TX1 k).2.2.1 = some (tyX1 k) := by decide +kernel
abbrev cX1_init : ByteArray := prog_3_method_1_code
def yX1_init : MethodName := ⟨RX1, "<init>", "()V"⟩
abbrev cX1_lengthFor : ByteArray := prog_3_method_2_code
def yX1_lengthFor : MethodName := ⟨RX1, "lengthFor", "(ILHillSlices$Hill;)I"⟩
abbrev cX1_openSides : ByteArray := prog_3_method_3_code
def yX1_openSides : MethodName := ⟨RX1, "openSides", "(II)V"⟩
abbrev cX1_seekGoal : ByteArray := prog_3_method_4_code
def yX1_seekGoal : MethodName := ⟨RX1, "seekGoal", "(ILHillSlices$Hill;)I"⟩
abbrev cX1_reach : ByteArray := prog_3_method_5_code
def yX1_reach : MethodName := ⟨RX1, "reach", "(II)V"⟩
abbrev cX1_beside : ByteArray := prog_3_method_6_code
def yX1_beside : MethodName := ⟨RX1, "beside", "(II)I"⟩
abbrev cX1_opposite : ByteArray := prog_3_method_7_code
def yX1_opposite : MethodName := ⟨RX1, "opposite", "(I)I"⟩
abbrev cX1_streamTo : ByteArray := prog_3_method_8_code
def yX1_streamTo : MethodName := ⟨RX1, "streamTo", "(I)I"⟩
def RX2 : String := "HillSlices$Hill"
def TX2 : u_T := fun k => match k with
  | 0 => ("HillSlices$Hill", "sorts", "[I", true)
  | 1 => ("HillSlices$Hill", "owners", "[I", true)
  | 2 => ("HillSlices$Hill", "worths", "[I", true)
  | 3 => ("HillSlices$Hill", "gave", "[I", true)
  | 4 => ("HillSlices$Hill", "generation", "I", false)
  | _ => ("HillSlices$Hill", "toll", "I", false)
def tyX2 : Nat → FieldType := fun k => match k with
  | 0 => .array .int
  | 1 => .array .int
  | 2 => .array .int
  | 3 => .array .int
  | 4 => .int
  | _ => .int
abbrev wsX20 : List Cond := u_ws RX2 TX2 6
theorem nmX2 : ∀ a, a < 6 → ∀ b, b < 6 → a ≠ b → (TX2 a).2.1 ≠ (TX2 b).2.1 := by decide +kernel
theorem tyX2_ok : ∀ k, k < 6 → parseFieldDescriptor (TX2 k).2.2.1 = some (tyX2 k) := by decide +kernel
abbrev cX2_init : ByteArray := prog_4_method_1_code
def yX2_init : MethodName := ⟨RX2, "<init>", "()V"⟩
abbrev cX2_copyFrom : ByteArray := prog_4_method_2_code
def yX2_copyFrom : MethodName := ⟨RX2, "copyFrom", "(LHillSlices$Hill;)V"⟩
abbrev cX2_sortAt : ByteArray := prog_4_method_3_code
def yX2_sortAt : MethodName := ⟨RX2, "sortAt", "(II)I"⟩
abbrev cX2_setRing : ByteArray := prog_4_method_4_code
def yX2_setRing : MethodName := ⟨RX2, "setRing", "(I[I)V"⟩
abbrev cX2_sectorsOfSort : ByteArray := prog_4_method_5_code
def yX2_sectorsOfSort : MethodName := ⟨RX2, "sectorsOfSort", "(II)I"⟩
abbrev cX2_ownerBehind : ByteArray := prog_4_method_6_code
def yX2_ownerBehind : MethodName := ⟨RX2, "ownerBehind", "(II)I"⟩
abbrev cX2_ownerOf : ByteArray := prog_4_method_7_code
def yX2_ownerOf : MethodName := ⟨RX2, "ownerOf", "(I)I"⟩
abbrev cX2_sectorsOf : ByteArray := prog_4_method_8_code
def yX2_sectorsOf : MethodName := ⟨RX2, "sectorsOf", "(I)I"⟩
abbrev cX2_ownersOf : ByteArray := prog_4_method_9_code
def yX2_ownersOf : MethodName := ⟨RX2, "ownersOf", "(I)I"⟩
abbrev cX2_setSlices : ByteArray := prog_4_method_10_code
def yX2_setSlices : MethodName := ⟨RX2, "setSlices", "([I)V"⟩
abbrev cX2_beginGeneration : ByteArray := prog_4_method_11_code
def yX2_beginGeneration : MethodName := ⟨RX2, "beginGeneration", "()V"⟩
abbrev cX2_give : ByteArray := prog_4_method_12_code
def yX2_give : MethodName := ⟨RX2, "give", "(II)V"⟩
abbrev cX2_giveAway : ByteArray := prog_4_method_13_code
def yX2_giveAway : MethodName := ⟨RX2, "giveAway", "(I[I)V"⟩
abbrev cX2_join : ByteArray := prog_4_method_14_code
def yX2_join : MethodName := ⟨RX2, "join", "(II)V"⟩
abbrev cX2_setWorth : ByteArray := prog_4_method_15_code
def yX2_setWorth : MethodName := ⟨RX2, "setWorth", "(III)I"⟩
abbrev cX2_shareOfSector : ByteArray := prog_4_method_16_code
def yX2_shareOfSector : MethodName := ⟨RX2, "shareOfSector", "(II)I"⟩
abbrev cX2_shareOf : ByteArray := prog_4_method_17_code
def yX2_shareOf : MethodName := ⟨RX2, "shareOf", "(II)I"⟩
abbrev cX2_hasRight : ByteArray := prog_4_method_18_code
def yX2_hasRight : MethodName := ⟨RX2, "hasRight", "(II)Z"⟩
abbrev cX2_setRight : ByteArray := prog_4_method_19_code
def yX2_setRight : MethodName := ⟨RX2, "setRight", "(IIZ)Z"⟩
abbrev cX2_isFreeFor : ByteArray := prog_4_method_20_code
def yX2_isFreeFor : MethodName := ⟨RX2, "isFreeFor", "(II)Z"⟩
def RX3 : String := "HillSlices$Pad"
def TX3 : u_T := fun k => match k with
  | 0 => ("HillSlices$Pad", "signs", "[C", true)
  | 1 => ("HillSlices$Pad", "row", "[I", true)
  | _ => ("HillSlices$Pad", "count", "I", false)
def tyX3 : Nat → FieldType := fun k => match k with
  | 0 => .array .char
  | 1 => .array .int
  | _ => .int
abbrev wsX30 : List Cond := u_ws RX3 TX3 3
theorem nmX3 : ∀ a, a < 3 → ∀ b, b < 3 → a ≠ b → (TX3 a).2.1 ≠ (TX3 b).2.1 := by decide +kernel
theorem tyX3_ok : ∀ k, k < 3 → parseFieldDescriptor (TX3 k).2.2.1 = some (tyX3 k) := by decide +kernel
abbrev cX3_init : ByteArray := prog_5_method_1_code
def yX3_init : MethodName := ⟨RX3, "<init>", "()V"⟩
abbrev cX3_add : ByteArray := prog_5_method_2_code
def yX3_add : MethodName := ⟨RX3, "add", "(C)I"⟩
abbrev cX3_empty : ByteArray := prog_5_method_3_code
def yX3_empty : MethodName := ⟨RX3, "empty", "()I"⟩
abbrev cX3_hasAt : ByteArray := prog_5_method_4_code
def yX3_hasAt : MethodName := ⟨RX3, "hasAt", "(IC)Z"⟩
abbrev cX3_letterAt : ByteArray := prog_5_method_5_code
def yX3_letterAt : MethodName := ⟨RX3, "letterAt", "(ILjava/lang/String;)I"⟩
abbrev cX3_digitAt : ByteArray := prog_5_method_6_code
def yX3_digitAt : MethodName := ⟨RX3, "digitAt", "(I)I"⟩
abbrev cX3_faultOfRuns : ByteArray := prog_5_method_7_code
def yX3_faultOfRuns : MethodName := ⟨RX3, "faultOfRuns", "(Ljava/lang/String;II)I"⟩
abbrev cX3_readRuns : ByteArray := prog_5_method_8_code
def yX3_readRuns : MethodName := ⟨RX3, "readRuns", "(Ljava/lang/String;I)[I"⟩
def RX4 : String := "HillSlices"
def TX4 : u_T := fun k => match k with
  | 0 => ("HillSlices", "pad", "LHillSlices$Pad;", true)
  | 1 => ("HillSlices", "hill", "LHillSlices$Hill;", true)
  | 2 => ("HillSlices", "images", "[LHillSlices$Hill;", true)
  | 3 => ("HillSlices", "fairCut", "LHillSlices$Cut;", true)
  | 4 => ("HillSlices", "bestCut", "LHillSlices$Cut;", true)
  | _ => ("HillSlices", "leastFence", "LHillSlices$Fence;", true)
def tyX4 : Nat → FieldType := fun k => match k with
  | 0 => .object "HillSlices$Pad"
  | 1 => .object "HillSlices$Hill"
  | 2 => .array (.object "HillSlices$Hill")
  | 3 => .object "HillSlices$Cut"
  | 4 => .object "HillSlices$Cut"
  | _ => .object "HillSlices$Fence"
abbrev wsX40 : List Cond := u_ws RX4 TX4 6
theorem nmX4 : ∀ a, a < 6 → ∀ b, b < 6 → a ≠ b → (TX4 a).2.1 ≠ (TX4 b).2.1 := by decide +kernel
theorem tyX4_ok : ∀ k, k < 6 → parseFieldDescriptor (TX4 k).2.2.1 = some (tyX4 k) := by decide +kernel
abbrev cX4_init : ByteArray := prog_1_method_1_code
def yX4_init : MethodName := ⟨RX4, "<init>", "()V"⟩
abbrev cX4_say : ByteArray := prog_1_method_2_code
def yX4_say : MethodName := ⟨RX4, "say", "(I)I"⟩
abbrev cX4_wipe : ByteArray := prog_1_method_3_code
def yX4_wipe : MethodName := ⟨RX4, "wipe", "()I"⟩
abbrev cX4_fault : ByteArray := prog_1_method_4_code
def yX4_fault : MethodName := ⟨RX4, "fault", "(I)I"⟩
abbrev cX4_ring : ByteArray := prog_1_method_5_code
def yX4_ring : MethodName := ⟨RX4, "ring", "(I)I"⟩
abbrev cX4_slices : ByteArray := prog_1_method_6_code
def yX4_slices : MethodName := ⟨RX4, "slices", "()I"⟩
abbrev cX4_will : ByteArray := prog_1_method_7_code
def yX4_will : MethodName := ⟨RX4, "will", "()I"⟩
abbrev cX4_wedding : ByteArray := prog_1_method_8_code
def yX4_wedding : MethodName := ⟨RX4, "wedding", "(II)I"⟩
abbrev cX4_cell : ByteArray := prog_1_method_9_code
def yX4_cell : MethodName := ⟨RX4, "cell", "(II)I"⟩
abbrev cX4_was : ByteArray := prog_1_method_10_code
def yX4_was : MethodName := ⟨RX4, "was", "(II)I"⟩
abbrev cX4_has : ByteArray := prog_1_method_11_code
def yX4_has : MethodName := ⟨RX4, "has", "(I)I"⟩
abbrev cX4_worth : ByteArray := prog_1_method_12_code
def yX4_worth : MethodName := ⟨RX4, "worth", "(III)I"⟩
abbrev cX4_share : ByteArray := prog_1_method_13_code
def yX4_share : MethodName := ⟨RX4, "share", "(II)I"⟩
abbrev cX4_envies : ByteArray := prog_1_method_14_code
def yX4_envies : MethodName := ⟨RX4, "envies", "(I)I"⟩
abbrev cX4_fair : ByteArray := prog_1_method_15_code
def yX4_fair : MethodName := ⟨RX4, "fair", "(II)I"⟩
abbrev cX4_best : ByteArray := prog_1_method_16_code
def yX4_best : MethodName := ⟨RX4, "best", "(II)I"⟩
abbrev cX4_toll : ByteArray := prog_1_method_17_code
def yX4_toll : MethodName := ⟨RX4, "toll", "(I)I"⟩
abbrev cX4_right : ByteArray := prog_1_method_18_code
def yX4_right : MethodName := ⟨RX4, "right", "(IIZ)I"⟩
abbrev cX4_way : ByteArray := prog_1_method_19_code
def yX4_way : MethodName := ⟨RX4, "way", "(IIII)I"⟩
abbrev cX4_stone : ByteArray := prog_1_method_20_code
def yX4_stone : MethodName := ⟨RX4, "stone", "(III)I"⟩
abbrev cX4_avalanche : ByteArray := prog_1_method_21_code
def yX4_avalanche : MethodName := ⟨RX4, "avalanche", "(III)I"⟩
abbrev cX4_rolls : ByteArray := prog_1_method_22_code
def yX4_rolls : MethodName := ⟨RX4, "rolls", "(I)I"⟩
abbrev cX4_fence : ByteArray := prog_1_method_23_code
def yX4_fence : MethodName := ⟨RX4, "fence", "(I)I"⟩
abbrev cX4_spring : ByteArray := prog_1_method_24_code
def yX4_spring : MethodName := ⟨RX4, "spring", "(IIII)I"⟩
abbrev cX4_bounds : ByteArray := prog_1_method_25_code
def yX4_bounds : MethodName := ⟨RX4, "bounds", "(I)I"⟩
abbrev cX4_image : ByteArray := prog_1_method_26_code
def yX4_image : MethodName := ⟨RX4, "image", "(I)I"⟩
abbrev cX4_restore : ByteArray := prog_1_method_27_code
def yX4_restore : MethodName := ⟨RX4, "restore", "(I)I"⟩
abbrev cX4_told : ByteArray := prog_1_method_28_code
def yX4_told : MethodName := ⟨RX4, "told", "(I)I"⟩
abbrev cX4_isRing : ByteArray := prog_1_method_29_code
def yX4_isRing : MethodName := ⟨RX4, "isRing", "(I)Z"⟩
abbrev cX4_isSector : ByteArray := prog_1_method_30_code
def yX4_isSector : MethodName := ⟨RX4, "isSector", "(I)Z"⟩
abbrev cX4_isHeir : ByteArray := prog_1_method_31_code
def yX4_isHeir : MethodName := ⟨RX4, "isHeir", "(I)Z"⟩
abbrev cX4_isImage : ByteArray := prog_1_method_32_code
def yX4_isImage : MethodName := ⟨RX4, "isImage", "(I)Z"⟩
abbrev cX4_areTwoHeirs : ByteArray := prog_1_method_33_code
def yX4_areTwoHeirs : MethodName := ⟨RX4, "areTwoHeirs", "(II)Z"⟩
abbrev cX4_sortOfCode : ByteArray := prog_1_method_34_code
def yX4_sortOfCode : MethodName := ⟨RX4, "sortOfCode", "(I)I"⟩
abbrev cX4_faultAs : ByteArray := prog_1_method_35_code
def yX4_faultAs : MethodName := ⟨RX4, "faultAs", "(I)I"⟩
abbrev cX4_answerOfCut : ByteArray := prog_1_method_36_code
def yX4_answerOfCut : MethodName := ⟨RX4, "answerOfCut", "(LHillSlices$Cut;II)I"⟩
abbrev cX4_forgetCuts : ByteArray := prog_1_method_37_code
def yX4_forgetCuts : MethodName := ⟨RX4, "forgetCuts", "()V"⟩
abbrev cX4_bestWay : ByteArray := prog_1_method_38_code
def yX4_bestWay : MethodName := ⟨RX4, "bestWay", "(IIII)I"⟩
abbrev cX4_costOfWay : ByteArray := prog_1_method_39_code
def yX4_costOfWay : MethodName := ⟨RX4, "costOfWay", "(IIII)I"⟩
abbrev cX4_costOfWayBack : ByteArray := prog_1_method_40_code
def yX4_costOfWayBack : MethodName := ⟨RX4, "costOfWayBack", "(IIII)I"⟩
abbrev cX4_costOfClimb : ByteArray := prog_1_method_41_code
def yX4_costOfClimb : MethodName := ⟨RX4, "costOfClimb", "(I)I"⟩
abbrev cX4_costOfRound : ByteArray := prog_1_method_42_code
def yX4_costOfRound : MethodName := ⟨RX4, "costOfRound", "(IIII)I"⟩
abbrev cX4_sectorBelow : ByteArray := prog_1_method_43_code
def yX4_sectorBelow : MethodName := ⟨RX4, "sectorBelow", "(II)I"⟩
abbrev cX4_hitByStone : ByteArray := prog_1_method_44_code
def yX4_hitByStone : MethodName := ⟨RX4, "hitByStone", "(II)I"⟩
abbrev cX4_endOfStone : ByteArray := prog_1_method_45_code
def yX4_endOfStone : MethodName := ⟨RX4, "endOfStone", "(II)I"⟩
abbrev cX4_runOfAvalanche : ByteArray := prog_1_method_46_code
def yX4_runOfAvalanche : MethodName := ⟨RX4, "runOfAvalanche", "(III)I"⟩
abbrev cX4_withThoseBeside : ByteArray := prog_1_method_47_code
def yX4_withThoseBeside : MethodName := ⟨RX4, "withThoseBeside", "(I)I"⟩
abbrev cX4_yearsOfSpring : ByteArray := prog_1_method_48_code
def yX4_yearsOfSpring : MethodName := ⟨RX4, "yearsOfSpring", "(IIII)I"⟩
abbrev cX4_firstYearOfSpring : ByteArray := prog_1_method_49_code
def yX4_firstYearOfSpring : MethodName := ⟨RX4, "firstYearOfSpring", "(IIII)I"⟩
abbrev cX4_boundsAsOne : ByteArray := prog_1_method_50_code
def yX4_boundsAsOne : MethodName := ⟨RX4, "boundsAsOne", "(II)I"⟩
abbrev cX4_asOne : ByteArray := prog_1_method_51_code
def yX4_asOne : MethodName := ⟨RX4, "asOne", "(III)I"⟩
abbrev cX4_bestWedding : ByteArray := prog_1_method_52_code
def yX4_bestWedding : MethodName := ⟨RX4, "bestWedding", "()I"⟩
abbrev cX4_narrowestPiece : ByteArray := prog_1_method_53_code
def yX4_narrowestPiece : MethodName := ⟨RX4, "narrowestPiece", "()I"⟩
abbrev cX4_pieceBehind : ByteArray := prog_1_method_54_code
def yX4_pieceBehind : MethodName := ⟨RX4, "pieceBehind", "(I)I"⟩
def RX5 : String := "HillSlicesModel"
def TX5 : u_T := fun k => match k with
  | 0 => ("HillSlicesModel", "signs", "I", false)
  | 1 => ("HillSlicesModel", "pad", "[I", true)
  | 2 => ("HillSlicesModel", "sort", "[I", true)
  | 3 => ("HillSlicesModel", "heir", "[I", true)
  | 4 => ("HillSlicesModel", "generations", "I", false)
  | 5 => ("HillSlicesModel", "was", "[I", true)
  | 6 => ("HillSlicesModel", "worth", "[I", true)
  | 7 => ("HillSlicesModel", "toll", "I", false)
  | 8 => ("HillSlicesModel", "rights", "[I", true)
  | 9 => ("HillSlicesModel", "ahead", "[I", true)
  | 10 => ("HillSlicesModel", "bound", "[I", true)
  | 11 => ("HillSlicesModel", "owner", "[I", true)
  | 12 => ("HillSlicesModel", "foundBound", "[I", true)
  | 13 => ("HillSlicesModel", "foundOwner", "[I", true)
  | 14 => ("HillSlicesModel", "foundLeast", "I", false)
  | 15 => ("HillSlicesModel", "stops", "I", false)
  | 16 => ("HillSlicesModel", "beside", "[I", true)
  | 17 => ("HillSlicesModel", "upward", "[I", true)
  | 18 => ("HillSlicesModel", "from", "[I", true)
  | 19 => ("HillSlicesModel", "queue", "[I", true)
  | 20 => ("HillSlicesModel", "image", "[I", true)
  | _ => ("HillSlicesModel", "isKept", "[Z", true)
def tyX5 : Nat → FieldType := fun k => match k with
  | 0 => .int
  | 1 => .array .int
  | 2 => .array .int
  | 3 => .array .int
  | 4 => .int
  | 5 => .array .int
  | 6 => .array .int
  | 7 => .int
  | 8 => .array .int
  | 9 => .array .int
  | 10 => .array .int
  | 11 => .array .int
  | 12 => .array .int
  | 13 => .array .int
  | 14 => .int
  | 15 => .int
  | 16 => .array .int
  | 17 => .array .int
  | 18 => .array .int
  | 19 => .array .int
  | 20 => .array .int
  | _ => .array .boolean
abbrev wsX50 : List Cond := u_ws RX5 TX5 22
theorem nmX5 : ∀ a, a < 22 → ∀ b, b < 22 → a ≠ b → (TX5 a).2.1 ≠ (TX5 b).2.1 := by decide +kernel
theorem tyX5_ok : ∀ k, k < 22 → parseFieldDescriptor (TX5 k).2.2.1 = some (tyX5 k) := by decide +kernel
abbrev cX5_init : ByteArray := prog_7_method_1_code
def yX5_init : MethodName := ⟨RX5, "<init>", "()V"⟩
abbrev cX5_in : ByteArray := prog_7_method_2_code
def yX5_in : MethodName := ⟨RX5, "in", "(III)Z"⟩
abbrev cX5_isHeir : ByteArray := prog_7_method_3_code
def yX5_isHeir : MethodName := ⟨RX5, "isHeir", "(I)Z"⟩
abbrev cX5_isSector : ByteArray := prog_7_method_4_code
def yX5_isSector : MethodName := ⟨RX5, "isSector", "(I)Z"⟩
abbrev cX5_isRing : ByteArray := prog_7_method_5_code
def yX5_isRing : MethodName := ⟨RX5, "isRing", "(I)Z"⟩
abbrev cX5_hasBit : ByteArray := prog_7_method_6_code
def yX5_hasBit : MethodName := ⟨RX5, "hasBit", "(II)Z"⟩
abbrev cX5_next : ByteArray := prog_7_method_7_code
def yX5_next : MethodName := ⟨RX5, "next", "(I)I"⟩
abbrev cX5_before : ByteArray := prog_7_method_8_code
def yX5_before : MethodName := ⟨RX5, "before", "(I)I"⟩
abbrev cX5_say : ByteArray := prog_7_method_9_code
def yX5_say : MethodName := ⟨RX5, "say", "(I)I"⟩
abbrev cX5_wipe : ByteArray := prog_7_method_10_code
def yX5_wipe : MethodName := ⟨RX5, "wipe", "()I"⟩
abbrev cX5_sortOf : ByteArray := prog_7_method_11_code
def yX5_sortOf : MethodName := ⟨RX5, "sortOf", "(I)I"⟩
abbrev cX5_sectorsOf : ByteArray := prog_7_method_12_code
def yX5_sectorsOf : MethodName := ⟨RX5, "sectorsOf", "(I)I"⟩
abbrev cX5_isLetter : ByteArray := prog_7_method_13_code
def yX5_isLetter : MethodName := ⟨RX5, "isLetter", "(II)Z"⟩
abbrev cX5_faultOf : ByteArray := prog_7_method_14_code
def yX5_faultOf : MethodName := ⟨RX5, "faultOf", "(I)I"⟩
abbrev cX5_fault : ByteArray := prog_7_method_15_code
def yX5_fault : MethodName := ⟨RX5, "fault", "(I)I"⟩
abbrev cX5_ring : ByteArray := prog_7_method_16_code
def yX5_ring : MethodName := ⟨RX5, "ring", "(I)I"⟩
abbrev cX5_keepGeneration : ByteArray := prog_7_method_17_code
def yX5_keepGeneration : MethodName := ⟨RX5, "keepGeneration", "()V"⟩
abbrev cX5_slices : ByteArray := prog_7_method_18_code
def yX5_slices : MethodName := ⟨RX5, "slices", "()I"⟩
abbrev cX5_will : ByteArray := prog_7_method_19_code
def yX5_will : MethodName := ⟨RX5, "will", "()I"⟩
abbrev cX5_wedding : ByteArray := prog_7_method_20_code
def yX5_wedding : MethodName := ⟨RX5, "wedding", "(II)I"⟩
abbrev cX5_cell : ByteArray := prog_7_method_21_code
def yX5_cell : MethodName := ⟨RX5, "cell", "(II)I"⟩
abbrev cX5_was : ByteArray := prog_7_method_22_code
def yX5_was : MethodName := ⟨RX5, "was", "(II)I"⟩
abbrev cX5_sectors : ByteArray := prog_7_method_23_code
def yX5_sectors : MethodName := ⟨RX5, "sectors", "(I)I"⟩
abbrev cX5_has : ByteArray := prog_7_method_24_code
def yX5_has : MethodName := ⟨RX5, "has", "(I)I"⟩
abbrev cX5_worth : ByteArray := prog_7_method_25_code
def yX5_worth : MethodName := ⟨RX5, "worth", "(III)I"⟩
abbrev cX5_sectorWorth : ByteArray := prog_7_method_26_code
def yX5_sectorWorth : MethodName := ⟨RX5, "sectorWorth", "(II)I"⟩
abbrev cX5_shareOf : ByteArray := prog_7_method_27_code
def yX5_shareOf : MethodName := ⟨RX5, "shareOf", "(II)I"⟩
abbrev cX5_share : ByteArray := prog_7_method_28_code
def yX5_share : MethodName := ⟨RX5, "share", "(II)I"⟩
abbrev cX5_envies : ByteArray := prog_7_method_29_code
def yX5_envies : MethodName := ⟨RX5, "envies", "(I)I"⟩
abbrev cX5_layAhead : ByteArray := prog_7_method_30_code
def yX5_layAhead : MethodName := ⟨RX5, "layAhead", "()V"⟩
abbrev cX5_arcWorth : ByteArray := prog_7_method_31_code
def yX5_arcWorth : MethodName := ⟨RX5, "arcWorth", "(III)I"⟩
abbrev cX5_isFair : ByteArray := prog_7_method_32_code
def yX5_isFair : MethodName := ⟨RX5, "isFair", "(I)Z"⟩
abbrev cX5_leastShare : ByteArray := prog_7_method_33_code
def yX5_leastShare : MethodName := ⟨RX5, "leastShare", "(I)I"⟩
abbrev cX5_nextBounds : ByteArray := prog_7_method_34_code
def yX5_nextBounds : MethodName := ⟨RX5, "nextBounds", "(I)Z"⟩
abbrev cX5_layOwners : ByteArray := prog_7_method_35_code
def yX5_layOwners : MethodName := ⟨RX5, "layOwners", "(II)Z"⟩
abbrev cX5_keepCut : ByteArray := prog_7_method_36_code
def yX5_keepCut : MethodName := ⟨RX5, "keepCut", "(I)V"⟩
abbrev cX5_layCut : ByteArray := prog_7_method_37_code
def yX5_layCut : MethodName := ⟨RX5, "layCut", "(IZ)Z"⟩
abbrev cX5_toldCut : ByteArray := prog_7_method_38_code
def yX5_toldCut : MethodName := ⟨RX5, "toldCut", "(IIZI)I"⟩
abbrev cX5_fair : ByteArray := prog_7_method_39_code
def yX5_fair : MethodName := ⟨RX5, "fair", "(II)I"⟩
abbrev cX5_best : ByteArray := prog_7_method_40_code
def yX5_best : MethodName := ⟨RX5, "best", "(II)I"⟩
abbrev cX5_toll : ByteArray := prog_7_method_41_code
def yX5_toll : MethodName := ⟨RX5, "toll", "(I)I"⟩
abbrev cX5_right : ByteArray := prog_7_method_42_code
def yX5_right : MethodName := ⟨RX5, "right", "(IIZ)I"⟩
abbrev cX5_wayCost : ByteArray := prog_7_method_43_code
def yX5_wayCost : MethodName := ⟨RX5, "wayCost", "(IIIIZ)I"⟩
abbrev cX5_way : ByteArray := prog_7_method_44_code
def yX5_way : MethodName := ⟨RX5, "way", "(IIII)I"⟩
abbrev cX5_hitBy : ByteArray := prog_7_method_45_code
def yX5_hitBy : MethodName := ⟨RX5, "hitBy", "(II)I"⟩
abbrev cX5_stone : ByteArray := prog_7_method_46_code
def yX5_stone : MethodName := ⟨RX5, "stone", "(III)I"⟩
abbrev cX5_avalanche : ByteArray := prog_7_method_47_code
def yX5_avalanche : MethodName := ⟨RX5, "avalanche", "(III)I"⟩
abbrev cX5_rolls : ByteArray := prog_7_method_48_code
def yX5_rolls : MethodName := ⟨RX5, "rolls", "(I)I"⟩
abbrev cX5_begins : ByteArray := prog_7_method_49_code
def yX5_begins : MethodName := ⟨RX5, "begins", "(II)Z"⟩
abbrev cX5_ends : ByteArray := prog_7_method_50_code
def yX5_ends : MethodName := ⟨RX5, "ends", "(II)Z"⟩
abbrev cX5_goes : ByteArray := prog_7_method_51_code
def yX5_goes : MethodName := ⟨RX5, "goes", "(II)I"⟩
abbrev cX5_go : ByteArray := prog_7_method_52_code
def yX5_go : MethodName := ⟨RX5, "go", "(III)V"⟩
abbrev cX5_goOne : ByteArray := prog_7_method_53_code
def yX5_goOne : MethodName := ⟨RX5, "goOne", "(I)Z"⟩
abbrev cX5_fence : ByteArray := prog_7_method_54_code
def yX5_fence : MethodName := ⟨RX5, "fence", "(I)I"⟩
abbrev cX5_spring : ByteArray := prog_7_method_55_code
def yX5_spring : MethodName := ⟨RX5, "spring", "(IIII)I"⟩
abbrev cX5_boundsBy : ByteArray := prog_7_method_56_code
def yX5_boundsBy : MethodName := ⟨RX5, "boundsBy", "(II)I"⟩
abbrev cX5_bestWedding : ByteArray := prog_7_method_57_code
def yX5_bestWedding : MethodName := ⟨RX5, "bestWedding", "()I"⟩
abbrev cX5_narrowest : ByteArray := prog_7_method_58_code
def yX5_narrowest : MethodName := ⟨RX5, "narrowest", "()I"⟩
abbrev cX5_bounds : ByteArray := prog_7_method_59_code
def yX5_bounds : MethodName := ⟨RX5, "bounds", "(I)I"⟩
abbrev cX5_image : ByteArray := prog_7_method_60_code
def yX5_image : MethodName := ⟨RX5, "image", "(I)I"⟩
abbrev cX5_restore : ByteArray := prog_7_method_61_code
def yX5_restore : MethodName := ⟨RX5, "restore", "(I)I"⟩
abbrev cX5_told : ByteArray := prog_7_method_62_code
def yX5_told : MethodName := ⟨RX5, "told", "(I)I"⟩
def RJ11 : String := "java/lang/Character"
def TJ11 : u_T := fun k => match k with
  | _ => ("", "", "", false)
def tyJ11 : Nat → FieldType := fun k => match k with
  | _ => .int
abbrev wsJ110 : List Cond := u_ws RJ11 TJ11 0
theorem nmJ11 : ∀ a, a < 0 → ∀ b, b < 0 → a ≠ b → (TJ11 a).2.1 ≠ (TJ11 b).2.1 := by decide +kernel
theorem tyJ11_ok : ∀ k, k < 0 → parseFieldDescriptor (TJ11 k).2.2.1 = some (tyJ11 k) := by decide +kernel
abbrev cJ11_isValidCodePoint_9a6ad : ByteArray := prog_8_method_11_code
def yJ11_isValidCodePoint_9a6ad : MethodName := ⟨RJ11, "isValidCodePoint", "(I)Z"⟩
abbrev cJ11_highSurrogate_5068e : ByteArray := prog_8_method_28_code
def yJ11_highSurrogate_5068e : MethodName := ⟨RJ11, "highSurrogate", "(I)C"⟩
abbrev cJ11_lowSurrogate_5068e : ByteArray := prog_8_method_29_code
def yJ11_lowSurrogate_5068e : MethodName := ⟨RJ11, "lowSurrogate", "(I)C"⟩
def RJ6 : String := "java/lang/Integer"
def TJ6 : u_T := fun k => match k with
  | _ => ("", "", "", false)
def tyJ6 : Nat → FieldType := fun k => match k with
  | _ => .int
abbrev wsJ60 : List Cond := u_ws RJ6 TJ6 0
theorem nmJ6 : ∀ a, a < 0 → ∀ b, b < 0 → a ≠ b → (TJ6 a).2.1 ≠ (TJ6 b).2.1 := by decide +kernel
theorem tyJ6_ok : ∀ k, k < 0 → parseFieldDescriptor (TJ6 k).2.2.1 = some (tyJ6 k) := by decide +kernel
abbrev cJ6_bitCount_0f7a4 : ByteArray := prog_9_method_49_code
def yJ6_bitCount_0f7a4 : MethodName := ⟨RJ6, "bitCount", "(I)I"⟩
def RJ9 : String := "java/lang/Math"
def TJ9 : u_T := fun k => match k with
  | _ => ("", "", "", false)
def tyJ9 : Nat → FieldType := fun k => match k with
  | _ => .int
abbrev wsJ90 : List Cond := u_ws RJ9 TJ9 0
theorem nmJ9 : ∀ a, a < 0 → ∀ b, b < 0 → a ≠ b → (TJ9 a).2.1 ≠ (TJ9 b).2.1 := by decide +kernel
theorem tyJ9_ok : ∀ k, k < 0 → parseFieldDescriptor (TJ9 k).2.2.1 = some (tyJ9 k) := by decide +kernel
abbrev cJ9_max_7cf53 : ByteArray := prog_10_method_65_code
def yJ9_max_7cf53 : MethodName := ⟨RJ9, "max", "(II)I"⟩
abbrev cJ9_min_7cf53 : ByteArray := prog_10_method_69_code
def yJ9_min_7cf53 : MethodName := ⟨RJ9, "min", "(II)I"⟩
def RJ0 : String := "java/lang/String"
def TJ0 : u_T := fun k => match k with
  | _ => ("", "", "", false)
def tyJ0 : Nat → FieldType := fun k => match k with
  | _ => .int
abbrev wsJ00 : List Cond := u_ws RJ0 TJ0 0
theorem nmJ0 : ∀ a, a < 0 → ∀ b, b < 0 → a ≠ b → (TJ0 a).2.1 ≠ (TJ0 b).2.1 := by decide +kernel
theorem tyJ0_ok : ∀ k, k < 0 → parseFieldDescriptor (TJ0 k).2.2.1 = some (tyJ0 k) := by decide +kernel
abbrev cJ0_length_8abf5 : ByteArray := prog_11_method_54_code
def yJ0_length_8abf5 : MethodName := ⟨RJ0, "length", "()I"⟩
abbrev cJ0_charAt_5068e : ByteArray := prog_11_method_56_code
def yJ0_charAt_5068e : MethodName := ⟨RJ0, "charAt", "(I)C"⟩
abbrev cJ0_indexOf_0f7a4 : ByteArray := prog_11_method_79_code
def yJ0_indexOf_0f7a4 : MethodName := ⟨RJ0, "indexOf", "(I)I"⟩
abbrev cJ0_indexOf_7cf53 : ByteArray := prog_11_method_80_code
def yJ0_indexOf_7cf53 : MethodName := ⟨RJ0, "indexOf", "(II)I"⟩
abbrev cJ0_coder_7d493 : ByteArray := prog_11_method_152_code
def yJ0_coder_7d493 : MethodName := ⟨RJ0, "coder", "()B"⟩
abbrev cJ0_isLatin1_aae02 : ByteArray := prog_11_method_154_code
def yJ0_isLatin1_aae02 : MethodName := ⟨RJ0, "isLatin1", "()Z"⟩
abbrev cJ0_checkIndex_df160 : ByteArray := prog_11_method_155_code
def yJ0_checkIndex_df160 : MethodName := ⟨RJ0, "checkIndex", "(II)V"⟩
abbrev cJ0_checkBoundsBeginEnd_23922 : ByteArray := prog_11_method_158_code
def yJ0_checkBoundsBeginEnd_23922 : MethodName := ⟨RJ0, "checkBoundsBeginEnd", "(III)V"⟩
def RJ1 : String := "java/lang/StringLatin1"
def TJ1 : u_T := fun k => match k with
  | _ => ("", "", "", false)
def tyJ1 : Nat → FieldType := fun k => match k with
  | _ => .int
abbrev wsJ10 : List Cond := u_ws RJ1 TJ1 0
theorem nmJ1 : ∀ a, a < 0 → ∀ b, b < 0 → a ≠ b → (TJ1 a).2.1 ≠ (TJ1 b).2.1 := by decide +kernel
theorem tyJ1_ok : ∀ k, k < 0 → parseFieldDescriptor (TJ1 k).2.2.1 = some (tyJ1 k) := by decide +kernel
abbrev cJ1_charAt_3b067 : ByteArray := prog_12_method_2_code
def yJ1_charAt_3b067 : MethodName := ⟨RJ1, "charAt", "([BI)C"⟩
abbrev cJ1_canEncode_9a6ad : ByteArray := prog_12_method_4_code
def yJ1_canEncode_9a6ad : MethodName := ⟨RJ1, "canEncode", "(I)Z"⟩
abbrev cJ1_indexOf_4cfef : ByteArray := prog_12_method_22_code
def yJ1_indexOf_4cfef : MethodName := ⟨RJ1, "indexOf", "([BIII)I"⟩
abbrev cJ1_indexOfChar_4cfef : ByteArray := prog_12_method_23_code
def yJ1_indexOfChar_4cfef : MethodName := ⟨RJ1, "indexOfChar", "([BIII)I"⟩
def RJ2 : String := "java/lang/StringUTF16"
def TJ2 : u_T := fun k => match k with
  | _ => ("", "", "", false)
def tyJ2 : Nat → FieldType := fun k => match k with
  | _ => .int
abbrev wsJ20 : List Cond := u_ws RJ2 TJ2 0
theorem nmJ2 : ∀ a, a < 0 → ∀ b, b < 0 → a ≠ b → (TJ2 a).2.1 ≠ (TJ2 b).2.1 := by decide +kernel
theorem tyJ2_ok : ∀ k, k < 0 → parseFieldDescriptor (TJ2 k).2.2.1 = some (tyJ2 k) := by decide +kernel
abbrev cJ2_getChar_3b067 : ByteArray := prog_13_method_5_code
def yJ2_getChar_3b067 : MethodName := ⟨RJ2, "getChar", "([BI)C"⟩
abbrev cJ2_length_9d52b : ByteArray := prog_13_method_6_code
def yJ2_length_9d52b : MethodName := ⟨RJ2, "length", "([B)I"⟩
abbrev cJ2_indexOf_4cfef : ByteArray := prog_13_method_40_code
def yJ2_indexOf_4cfef : MethodName := ⟨RJ2, "indexOf", "([BIII)I"⟩
abbrev cJ2_indexOfChar_4cfef : ByteArray := prog_13_method_47_code
def yJ2_indexOfChar_4cfef : MethodName := ⟨RJ2, "indexOfChar", "([BIII)I"⟩
abbrev cJ2_indexOfCharUnsafe_4cfef : ByteArray := prog_13_method_48_code
def yJ2_indexOfCharUnsafe_4cfef : MethodName := ⟨RJ2, "indexOfCharUnsafe", "([BIII)I"⟩
abbrev cJ2_indexOfSupplementary_4cfef : ByteArray := prog_13_method_49_code
def yJ2_indexOfSupplementary_4cfef : MethodName := ⟨RJ2, "indexOfSupplementary", "([BIII)I"⟩
abbrev cJ2_charAt_3b067 : ByteArray := prog_13_method_83_code
def yJ2_charAt_3b067 : MethodName := ⟨RJ2, "charAt", "([BI)C"⟩
abbrev cJ2_checkIndex_2214a : ByteArray := prog_13_method_91_code
def yJ2_checkIndex_2214a : MethodName := ⟨RJ2, "checkIndex", "(I[B)V"⟩
abbrev cJ2_checkBoundsBeginEnd_d044e : ByteArray := prog_13_method_93_code
def yJ2_checkBoundsBeginEnd_d044e : MethodName := ⟨RJ2, "checkBoundsBeginEnd", "(II[B)V"⟩
def RJ10 : String := "java/lang/System"
def TJ10 : u_T := fun k => match k with
  | _ => ("", "", "", false)
def tyJ10 : Nat → FieldType := fun k => match k with
  | _ => .int
abbrev wsJ100 : List Cond := u_ws RJ10 TJ10 0
theorem nmJ10 : ∀ a, a < 0 → ∀ b, b < 0 → a ≠ b → (TJ10 a).2.1 ≠ (TJ10 b).2.1 := by decide +kernel
theorem tyJ10_ok : ∀ k, k < 0 → parseFieldDescriptor (TJ10 k).2.2.1 = some (tyJ10 k) := by decide +kernel
def RJ3 : String := "jdk/internal/util/Preconditions"
def TJ3 : u_T := fun k => match k with
  | _ => ("", "", "", false)
def tyJ3 : Nat → FieldType := fun k => match k with
  | _ => .int
abbrev wsJ30 : List Cond := u_ws RJ3 TJ3 0
theorem nmJ3 : ∀ a, a < 0 → ∀ b, b < 0 → a ≠ b → (TJ3 a).2.1 ≠ (TJ3 b).2.1 := by decide +kernel
theorem tyJ3_ok : ∀ k, k < 0 → parseFieldDescriptor (TJ3 k).2.2.1 = some (tyJ3 k) := by decide +kernel
abbrev cJ3_checkIndex_8e157 : ByteArray := prog_15_method_11_code
def yJ3_checkIndex_8e157 : MethodName := ⟨RJ3, "checkIndex", "(IILjava/util/function/BiFunction;)I"⟩
abbrev cJ3_checkFromToIndex_8c36e : ByteArray := prog_15_method_12_code
def yJ3_checkFromToIndex_8c36e : MethodName := ⟨RJ3, "checkFromToIndex", "(IIILjava/util/function/BiFunction;)I"⟩
def RL : String := "HillSlicesLaw"
abbrev cL_law : ByteArray := code
def yL_law : MethodName := ⟨RL, "law", "([I)Z"⟩
def wsX0_init : List Cond := .code yX0_init cX0_init 2 none :: ([.methodLink RX0 3 objectInit, .instanceMethod objectInit, .code objectInit ⟨#[0xb1]⟩ 1 none, .arrayClass .int, .fieldLink RX0 11 "HillSlices$Cut" "sums" "[I", .fieldLink RX0 15 "HillSlices$Cut" "shares" "[I", .fieldLink RX0 18 "HillSlices$Cut" "begins" "[I", .fieldLink RX0 21 "HillSlices$Cut" "heirs" "[I", .fieldLink RX0 24 "HillSlices$Cut" "foundBegins" "[I", .fieldLink RX0 27 "HillSlices$Cut" "foundHeirs" "[I", .fieldLink RX0 30 "HillSlices$Cut" "fair" "Z"] ++ wsX00)
def wsX0_forget : List Cond := .code yX0_forget cX0_forget 1 none :: ([.fieldLink RX0 34 "HillSlices$Cut" "n" "I"] ++ wsX00)
def wsX0_isFound : List Cond := .code yX0_isFound cX0_isFound 1 (some .boolean) :: ([.fieldLink RX0 38 "HillSlices$Cut" "leastShare" "I"] ++ wsX00)
def wsX0_answer : List Cond := .code yX0_answer cX0_answer 2 (some .int) :: ([.fieldLink RX0 30 "HillSlices$Cut" "fair" "Z", .fieldLink RX0 38 "HillSlices$Cut" "leastShare" "I", .fieldLink RX0 34 "HillSlices$Cut" "n" "I", .fieldLink RX0 24 "HillSlices$Cut" "foundBegins" "[I", .fieldLink RX0 27 "HillSlices$Cut" "foundHeirs" "[I", .methodLink RX0 41 yX0_isFound, .instanceMethod yX0_isFound, .selects RX0 yX0_isFound yX0_isFound, .initialized RX0, .code yX0_isFound cX0_isFound 1 (some .boolean)] ++ wsX00)
def wsX2_sortAt : List Cond := .code yX2_sortAt cX2_sortAt 3 (some .int) :: ([.fieldLink RX2 9 "HillSlices$Hill" "sorts" "[I"] ++ wsX20)
def wsX2_shareOfSector : List Cond := .code yX2_shareOfSector cX2_shareOfSector 5 (some .int) :: ([.fieldLink RX2 18 "HillSlices$Hill" "worths" "[I", .methodLink RX2 43 yX2_sortAt, .instanceMethod yX2_sortAt, .selects RX2 yX2_sortAt yX2_sortAt, .initialized RX2, .code yX2_sortAt cX2_sortAt 3 (some .int), .fieldLink RX2 9 "HillSlices$Hill" "sorts" "[I"] ++ wsX20)
def wsX0_sumUp : List Cond := .code yX0_sumUp cX0_sumUp 5 none :: ([.fieldLink RX0 11 "HillSlices$Cut" "sums" "[I", .methodLink RX0 71 yX2_shareOfSector, .instanceMethod yX2_shareOfSector, .selects RX2 yX2_shareOfSector yX2_shareOfSector, .initialized RX2, .code yX2_shareOfSector cX2_shareOfSector 5 (some .int), .fieldLink RX2 18 "HillSlices$Hill" "worths" "[I", .methodLink RX2 43 yX2_sortAt, .instanceMethod yX2_sortAt, .selects RX2 yX2_sortAt yX2_sortAt, .code yX2_sortAt cX2_sortAt 3 (some .int), .fieldLink RX2 9 "HillSlices$Hill" "sorts" "[I"] ++ wsX00 ++ wsX20)
def wsX0_isSettled : List Cond := .code yX0_isSettled cX0_isSettled 1 (some .boolean) :: ([.fieldLink RX0 30 "HillSlices$Cut" "fair" "Z", .methodLink RX0 41 yX0_isFound, .instanceMethod yX0_isFound, .selects RX0 yX0_isFound yX0_isFound, .initialized RX0, .code yX0_isFound cX0_isFound 1 (some .boolean), .fieldLink RX0 38 "HillSlices$Cut" "leastShare" "I"] ++ wsX00)
def wsX0_isEnough : List Cond := .code yX0_isEnough cX0_isEnough 3 (some .boolean) :: ([.fieldLink RX0 30 "HillSlices$Cut" "fair" "Z", .fieldLink RX0 34 "HillSlices$Cut" "n" "I", .fieldLink RX0 11 "HillSlices$Cut" "sums" "[I", .fieldLink RX0 38 "HillSlices$Cut" "leastShare" "I"] ++ wsX00)
def wsX0_noteShares : List Cond := .code yX0_noteShares cX0_noteShares 6 (some .boolean) :: ([.fieldLink RX0 34 "HillSlices$Cut" "n" "I", .fieldLink RX0 18 "HillSlices$Cut" "begins" "[I", .fieldLink RX0 11 "HillSlices$Cut" "sums" "[I", .fieldLink RX0 15 "HillSlices$Cut" "shares" "[I", .methodLink RX0 79 yX0_isEnough, .instanceMethod yX0_isEnough, .selects RX0 yX0_isEnough yX0_isEnough, .initialized RX0, .code yX0_isEnough cX0_isEnough 3 (some .boolean), .fieldLink RX0 30 "HillSlices$Cut" "fair" "Z", .fieldLink RX0 38 "HillSlices$Cut" "leastShare" "I"] ++ wsX00)
def wsX0_firstArcOfNoUse : List Cond := .code yX0_firstArcOfNoUse cX0_firstArcOfNoUse 2 (some .int) :: ([.fieldLink RX0 34 "HillSlices$Cut" "n" "I", .methodLink RX0 76 yX0_noteShares, .instanceMethod yX0_noteShares, .selects RX0 yX0_noteShares yX0_noteShares, .initialized RX0, .code yX0_noteShares cX0_noteShares 6 (some .boolean), .fieldLink RX0 18 "HillSlices$Cut" "begins" "[I", .fieldLink RX0 11 "HillSlices$Cut" "sums" "[I", .fieldLink RX0 15 "HillSlices$Cut" "shares" "[I", .methodLink RX0 79 yX0_isEnough, .instanceMethod yX0_isEnough, .selects RX0 yX0_isEnough yX0_isEnough, .code yX0_isEnough cX0_isEnough 3 (some .boolean), .fieldLink RX0 30 "HillSlices$Cut" "fair" "Z", .fieldLink RX0 38 "HillSlices$Cut" "leastShare" "I"] ++ wsX00)
def wsX0_keep : List Cond := .code yX0_keep cX0_keep 2 none :: ([.fieldLink RX0 38 "HillSlices$Cut" "leastShare" "I", .fieldLink RX0 18 "HillSlices$Cut" "begins" "[I", .fieldLink RX0 24 "HillSlices$Cut" "foundBegins" "[I", .fieldLink RX0 34 "HillSlices$Cut" "n" "I", .methodLink RX0 93 arraycopyName, .native arraycopyName, .static arraycopyName, .initialized "java/lang/System", .fieldLink RX0 21 "HillSlices$Cut" "heirs" "[I", .fieldLink RX0 27 "HillSlices$Cut" "foundHeirs" "[I"] ++ wsX00)
def wsX0_isEnvious : List Cond := .code yX0_isEnvious cX0_isEnvious 5 (some .boolean) :: ([.fieldLink RX0 34 "HillSlices$Cut" "n" "I", .fieldLink RX0 15 "HillSlices$Cut" "shares" "[I"] ++ wsX00)
def wsX0_chooseBehind_r1 : List Cond := [Cond.fieldLink RX0 34 "HillSlices$Cut" "n" "I", Cond.methodLink RX0 57 yX0_chooseHeirs, Cond.instanceMethod yX0_chooseHeirs, Cond.selects RX0 yX0_chooseHeirs yX0_chooseHeirs, Cond.initialized RX0, Cond.methodLink RX0 89 yX0_keep, Cond.instanceMethod yX0_keep, Cond.selects RX0 yX0_keep yX0_keep, Cond.code yX0_keep cX0_keep 2 none, Cond.fieldLink RX0 38 "HillSlices$Cut" "leastShare" "I", Cond.fieldLink RX0 18 "HillSlices$Cut" "begins" "[I", Cond.fieldLink RX0 24 "HillSlices$Cut" "foundBegins" "[I", Cond.methodLink RX0 93 arraycopyName, Cond.native arraycopyName, Cond.static arraycopyName, Cond.initialized "java/lang/System", Cond.fieldLink RX0 21 "HillSlices$Cut" "heirs" "[I", Cond.fieldLink RX0 27 "HillSlices$Cut" "foundHeirs" "[I", Cond.code yX0_chooseHeirs cX0_chooseHeirs 8 none, Cond.fieldLink RX0 15 "HillSlices$Cut" "shares" "[I", Cond.methodLink RX0 61 Lib.Math.min.name, Cond.static Lib.Math.min.name, Cond.initialized "java/lang/Math", Cond.code Lib.Math.min.name Lib.Math.min.code 2 (some .int)]
def wsX0_chooseBehind_r2 : List Cond := [Cond.fieldLink RX0 30 "HillSlices$Cut" "fair" "Z", Cond.methodLink RX0 49 yX0_isSettled, Cond.instanceMethod yX0_isSettled, Cond.selects RX0 yX0_isSettled yX0_isSettled, Cond.code yX0_isSettled cX0_isSettled 1 (some .boolean), Cond.methodLink RX0 41 yX0_isFound, Cond.instanceMethod yX0_isFound, Cond.selects RX0 yX0_isFound yX0_isFound, Cond.code yX0_isFound cX0_isFound 1 (some .boolean), Cond.methodLink RX0 83 yX0_isEnvious, Cond.instanceMethod yX0_isEnvious, Cond.selects RX0 yX0_isEnvious yX0_isEnvious, Cond.code yX0_isEnvious cX0_isEnvious 5 (some .boolean), Cond.methodLink RX0 86 yX0_chooseBehind, Cond.instanceMethod yX0_chooseBehind, Cond.selects RX0 yX0_chooseBehind yX0_chooseBehind]
def wsX0_chooseBehind : List Cond := .code yX0_chooseBehind cX0_chooseBehind 4 none :: ((wsX0_chooseBehind_r1 ++ wsX0_chooseBehind_r2) ++ wsX00)
def wsX0_chooseHeirs_r1 : List Cond := [Cond.fieldLink RX0 34 "HillSlices$Cut" "n" "I", Cond.fieldLink RX0 15 "HillSlices$Cut" "shares" "[I", Cond.methodLink RX0 61 Lib.Math.min.name, Cond.static Lib.Math.min.name, Cond.initialized "java/lang/Math", Cond.code Lib.Math.min.name Lib.Math.min.code 2 (some .int), Cond.fieldLink RX0 30 "HillSlices$Cut" "fair" "Z", Cond.fieldLink RX0 38 "HillSlices$Cut" "leastShare" "I", Cond.fieldLink RX0 21 "HillSlices$Cut" "heirs" "[I", Cond.methodLink RX0 49 yX0_isSettled, Cond.instanceMethod yX0_isSettled, Cond.selects RX0 yX0_isSettled yX0_isSettled, Cond.initialized RX0, Cond.code yX0_isSettled cX0_isSettled 1 (some .boolean), Cond.methodLink RX0 41 yX0_isFound, Cond.instanceMethod yX0_isFound, Cond.selects RX0 yX0_isFound yX0_isFound, Cond.code yX0_isFound cX0_isFound 1 (some .boolean), Cond.methodLink RX0 83 yX0_isEnvious, Cond.instanceMethod yX0_isEnvious, Cond.selects RX0 yX0_isEnvious yX0_isEnvious, Cond.code yX0_isEnvious cX0_isEnvious 5 (some .boolean), Cond.methodLink RX0 86 yX0_chooseBehind, Cond.instanceMethod yX0_chooseBehind]
def wsX0_chooseHeirs_r2 : List Cond := [Cond.selects RX0 yX0_chooseBehind yX0_chooseBehind, Cond.code yX0_chooseBehind cX0_chooseBehind 4 none, Cond.methodLink RX0 57 yX0_chooseHeirs, Cond.instanceMethod yX0_chooseHeirs, Cond.selects RX0 yX0_chooseHeirs yX0_chooseHeirs, Cond.methodLink RX0 89 yX0_keep, Cond.instanceMethod yX0_keep, Cond.selects RX0 yX0_keep yX0_keep, Cond.code yX0_keep cX0_keep 2 none, Cond.fieldLink RX0 18 "HillSlices$Cut" "begins" "[I", Cond.fieldLink RX0 24 "HillSlices$Cut" "foundBegins" "[I", Cond.methodLink RX0 93 arraycopyName, Cond.native arraycopyName, Cond.static arraycopyName, Cond.initialized "java/lang/System", Cond.fieldLink RX0 27 "HillSlices$Cut" "foundHeirs" "[I"]
def wsX0_chooseHeirs : List Cond := .code yX0_chooseHeirs cX0_chooseHeirs 8 none :: ((wsX0_chooseHeirs_r1 ++ wsX0_chooseHeirs_r2) ++ wsX00)
def wsX0_stepBounds : List Cond := .code yX0_stepBounds cX0_stepBounds 4 (some .boolean) :: ([.fieldLink RX0 18 "HillSlices$Cut" "begins" "[I", .fieldLink RX0 34 "HillSlices$Cut" "n" "I"] ++ wsX00)
def wsX0_searchAmong_r1 : List Cond := [Cond.fieldLink RX0 34 "HillSlices$Cut" "n" "I", Cond.fieldLink RX0 38 "HillSlices$Cut" "leastShare" "I", Cond.fieldLink RX0 18 "HillSlices$Cut" "begins" "[I", Cond.constant RX0 56 (1073741824), Cond.methodLink RX0 61 Lib.Math.min.name, Cond.static Lib.Math.min.name, Cond.initialized "java/lang/Math", Cond.code Lib.Math.min.name Lib.Math.min.code 2 (some .int), Cond.methodLink RX0 45 yX0_sumUp, Cond.instanceMethod yX0_sumUp, Cond.selects RX0 yX0_sumUp yX0_sumUp, Cond.initialized RX0, Cond.code yX0_sumUp cX0_sumUp 5 none, Cond.fieldLink RX0 11 "HillSlices$Cut" "sums" "[I", Cond.methodLink RX0 71 yX2_shareOfSector, Cond.instanceMethod yX2_shareOfSector, Cond.selects RX2 yX2_shareOfSector yX2_shareOfSector, Cond.initialized RX2, Cond.code yX2_shareOfSector cX2_shareOfSector 5 (some .int), Cond.fieldLink RX2 18 "HillSlices$Hill" "worths" "[I", Cond.methodLink RX2 43 yX2_sortAt, Cond.instanceMethod yX2_sortAt, Cond.selects RX2 yX2_sortAt yX2_sortAt, Cond.code yX2_sortAt cX2_sortAt 3 (some .int)]
def wsX0_searchAmong_r2 : List Cond := [Cond.fieldLink RX2 9 "HillSlices$Hill" "sorts" "[I", Cond.methodLink RX0 49 yX0_isSettled, Cond.instanceMethod yX0_isSettled, Cond.selects RX0 yX0_isSettled yX0_isSettled, Cond.code yX0_isSettled cX0_isSettled 1 (some .boolean), Cond.fieldLink RX0 30 "HillSlices$Cut" "fair" "Z", Cond.methodLink RX0 41 yX0_isFound, Cond.instanceMethod yX0_isFound, Cond.selects RX0 yX0_isFound yX0_isFound, Cond.code yX0_isFound cX0_isFound 1 (some .boolean), Cond.methodLink RX0 52 yX0_firstArcOfNoUse, Cond.instanceMethod yX0_firstArcOfNoUse, Cond.selects RX0 yX0_firstArcOfNoUse yX0_firstArcOfNoUse, Cond.code yX0_firstArcOfNoUse cX0_firstArcOfNoUse 2 (some .int), Cond.methodLink RX0 76 yX0_noteShares, Cond.instanceMethod yX0_noteShares, Cond.selects RX0 yX0_noteShares yX0_noteShares, Cond.code yX0_noteShares cX0_noteShares 6 (some .boolean), Cond.fieldLink RX0 15 "HillSlices$Cut" "shares" "[I", Cond.methodLink RX0 79 yX0_isEnough, Cond.instanceMethod yX0_isEnough, Cond.selects RX0 yX0_isEnough yX0_isEnough, Cond.code yX0_isEnough cX0_isEnough 3 (some .boolean), Cond.methodLink RX0 57 yX0_chooseHeirs]
def wsX0_searchAmong_r3 : List Cond := [Cond.instanceMethod yX0_chooseHeirs, Cond.selects RX0 yX0_chooseHeirs yX0_chooseHeirs, Cond.code yX0_chooseHeirs cX0_chooseHeirs 8 none, Cond.fieldLink RX0 21 "HillSlices$Cut" "heirs" "[I", Cond.methodLink RX0 83 yX0_isEnvious, Cond.instanceMethod yX0_isEnvious, Cond.selects RX0 yX0_isEnvious yX0_isEnvious, Cond.code yX0_isEnvious cX0_isEnvious 5 (some .boolean), Cond.methodLink RX0 86 yX0_chooseBehind, Cond.instanceMethod yX0_chooseBehind, Cond.selects RX0 yX0_chooseBehind yX0_chooseBehind, Cond.code yX0_chooseBehind cX0_chooseBehind 4 none, Cond.methodLink RX0 89 yX0_keep, Cond.instanceMethod yX0_keep, Cond.selects RX0 yX0_keep yX0_keep, Cond.code yX0_keep cX0_keep 2 none, Cond.fieldLink RX0 24 "HillSlices$Cut" "foundBegins" "[I", Cond.methodLink RX0 93 arraycopyName, Cond.native arraycopyName, Cond.static arraycopyName, Cond.initialized "java/lang/System", Cond.fieldLink RX0 27 "HillSlices$Cut" "foundHeirs" "[I", Cond.methodLink RX0 67 yX0_stepBounds, Cond.instanceMethod yX0_stepBounds]
def wsX0_searchAmong_r4 : List Cond := [Cond.selects RX0 yX0_stepBounds yX0_stepBounds, Cond.code yX0_stepBounds cX0_stepBounds 4 (some .boolean)]
def wsX0_searchAmong : List Cond := .code yX0_searchAmong cX0_searchAmong 6 none :: ((wsX0_searchAmong_r1 ++ (wsX0_searchAmong_r2 ++ (wsX0_searchAmong_r3 ++ wsX0_searchAmong_r4))) ++ wsX00 ++ wsX20)
def wsX1_init : List Cond := .code yX1_init cX1_init 1 none :: ([.methodLink RX1 3 objectInit, .instanceMethod objectInit, .code objectInit ⟨#[0xb1]⟩ 1 none, .arrayClass .int, .fieldLink RX1 11 "HillSlices$Fence" "room" "[I", .fieldLink RX1 15 "HillSlices$Fence" "came" "[I", .fieldLink RX1 18 "HillSlices$Fence" "queue" "[I", .arrayClass .boolean, .fieldLink RX1 21 "HillSlices$Fence" "goals" "[Z"] ++ wsX10)
def wsX2_ownerBehind : List Cond := .code yX2_ownerBehind cX2_ownerBehind 3 (some .int) :: ([.fieldLink RX2 15 "HillSlices$Hill" "owners" "[I"] ++ wsX20)
def wsX2_ownerOf : List Cond := .code yX2_ownerOf cX2_ownerOf 2 (some .int) :: ([.fieldLink RX2 40 "HillSlices$Hill" "generation" "I", .methodLink RX2 47 yX2_ownerBehind, .instanceMethod yX2_ownerBehind, .selects RX2 yX2_ownerBehind yX2_ownerBehind, .initialized RX2, .code yX2_ownerBehind cX2_ownerBehind 3 (some .int), .fieldLink RX2 15 "HillSlices$Hill" "owners" "[I"] ++ wsX20)
def wsX1_openSides : List Cond := .code yX1_openSides cX1_openSides 3 none :: ([.fieldLink RX1 11 "HillSlices$Fence" "room" "[I"] ++ wsX10)
def wsX1_reach : List Cond := .code yX1_reach cX1_reach 3 none :: ([.fieldLink RX1 15 "HillSlices$Fence" "came" "[I", .fieldLink RX1 46 "HillSlices$Fence" "queued" "I", .fieldLink RX1 18 "HillSlices$Fence" "queue" "[I"] ++ wsX10)
def wsX1_beside : List Cond := .code yX1_beside cX1_beside 4 (some .int) :: ([])
def wsX1_seekGoal_r1 : List Cond := [Cond.fieldLink RX1 46 "HillSlices$Fence" "queued" "I", Cond.fieldLink RX1 15 "HillSlices$Fence" "came" "[I", Cond.fieldLink RX1 18 "HillSlices$Fence" "queue" "[I", Cond.fieldLink RX1 21 "HillSlices$Fence" "goals" "[Z", Cond.fieldLink RX1 11 "HillSlices$Fence" "room" "[I", Cond.methodLink RX1 25 yX2_sortAt, Cond.instanceMethod yX2_sortAt, Cond.selects RX2 yX2_sortAt yX2_sortAt, Cond.initialized RX2, Cond.code yX2_sortAt cX2_sortAt 3 (some .int), Cond.fieldLink RX2 9 "HillSlices$Hill" "sorts" "[I", Cond.methodLink RX1 31 yX2_ownerOf, Cond.instanceMethod yX2_ownerOf, Cond.selects RX2 yX2_ownerOf yX2_ownerOf, Cond.code yX2_ownerOf cX2_ownerOf 2 (some .int), Cond.fieldLink RX2 40 "HillSlices$Hill" "generation" "I", Cond.methodLink RX2 47 yX2_ownerBehind, Cond.instanceMethod yX2_ownerBehind, Cond.selects RX2 yX2_ownerBehind yX2_ownerBehind, Cond.code yX2_ownerBehind cX2_ownerBehind 3 (some .int), Cond.fieldLink RX2 15 "HillSlices$Hill" "owners" "[I", Cond.methodLink RX1 50 yX1_reach, Cond.instanceMethod yX1_reach, Cond.selects RX1 yX1_reach yX1_reach]
def wsX1_seekGoal_r2 : List Cond := [Cond.initialized RX1, Cond.code yX1_reach cX1_reach 3 none, Cond.methodLink RX1 53 yX1_beside, Cond.static yX1_beside, Cond.code yX1_beside cX1_beside 4 (some .int)]
def wsX1_seekGoal : List Cond := .code yX1_seekGoal cX1_seekGoal 6 (some .int) :: ((wsX1_seekGoal_r1 ++ wsX1_seekGoal_r2) ++ wsX10 ++ wsX20)
def wsX1_opposite : List Cond := .code yX1_opposite cX1_opposite 1 (some .int) :: ([])
def wsX1_streamTo : List Cond := .code yX1_streamTo cX1_streamTo 6 (some .int) :: ([.fieldLink RX1 15 "HillSlices$Fence" "came" "[I", .fieldLink RX1 11 "HillSlices$Fence" "room" "[I", .methodLink RX1 59 Lib.Math.min.name, .static Lib.Math.min.name, .initialized "java/lang/Math", .code Lib.Math.min.name Lib.Math.min.code 2 (some .int), .methodLink RX1 56 yX1_opposite, .static yX1_opposite, .initialized RX1, .code yX1_opposite cX1_opposite 1 (some .int), .methodLink RX1 53 yX1_beside, .static yX1_beside, .code yX1_beside cX1_beside 4 (some .int)] ++ wsX10)
def wsX1_lengthFor_r1 : List Cond := [Cond.fieldLink RX1 21 "HillSlices$Fence" "goals" "[Z", Cond.methodLink RX1 25 yX2_sortAt, Cond.instanceMethod yX2_sortAt, Cond.selects RX2 yX2_sortAt yX2_sortAt, Cond.initialized RX2, Cond.code yX2_sortAt cX2_sortAt 3 (some .int), Cond.fieldLink RX2 9 "HillSlices$Hill" "sorts" "[I", Cond.methodLink RX1 31 yX2_ownerOf, Cond.instanceMethod yX2_ownerOf, Cond.selects RX2 yX2_ownerOf yX2_ownerOf, Cond.code yX2_ownerOf cX2_ownerOf 2 (some .int), Cond.fieldLink RX2 40 "HillSlices$Hill" "generation" "I", Cond.methodLink RX2 47 yX2_ownerBehind, Cond.instanceMethod yX2_ownerBehind, Cond.selects RX2 yX2_ownerBehind yX2_ownerBehind, Cond.code yX2_ownerBehind cX2_ownerBehind 3 (some .int), Cond.fieldLink RX2 15 "HillSlices$Hill" "owners" "[I", Cond.methodLink RX1 35 yX1_openSides, Cond.instanceMethod yX1_openSides, Cond.selects RX1 yX1_openSides yX1_openSides, Cond.initialized RX1, Cond.code yX1_openSides cX1_openSides 3 none, Cond.fieldLink RX1 11 "HillSlices$Fence" "room" "[I", Cond.methodLink RX1 39 yX1_seekGoal]
def wsX1_lengthFor_r2 : List Cond := [Cond.instanceMethod yX1_seekGoal, Cond.selects RX1 yX1_seekGoal yX1_seekGoal, Cond.code yX1_seekGoal cX1_seekGoal 6 (some .int), Cond.fieldLink RX1 46 "HillSlices$Fence" "queued" "I", Cond.fieldLink RX1 15 "HillSlices$Fence" "came" "[I", Cond.fieldLink RX1 18 "HillSlices$Fence" "queue" "[I", Cond.methodLink RX1 50 yX1_reach, Cond.instanceMethod yX1_reach, Cond.selects RX1 yX1_reach yX1_reach, Cond.code yX1_reach cX1_reach 3 none, Cond.methodLink RX1 53 yX1_beside, Cond.static yX1_beside, Cond.code yX1_beside cX1_beside 4 (some .int), Cond.methodLink RX1 43 yX1_streamTo, Cond.instanceMethod yX1_streamTo, Cond.selects RX1 yX1_streamTo yX1_streamTo, Cond.code yX1_streamTo cX1_streamTo 6 (some .int), Cond.methodLink RX1 59 Lib.Math.min.name, Cond.static Lib.Math.min.name, Cond.initialized "java/lang/Math", Cond.code Lib.Math.min.name Lib.Math.min.code 2 (some .int), Cond.methodLink RX1 56 yX1_opposite, Cond.static yX1_opposite, Cond.code yX1_opposite cX1_opposite 1 (some .int)]
def wsX1_lengthFor : List Cond := .code yX1_lengthFor cX1_lengthFor 6 (some .int) :: ((wsX1_lengthFor_r1 ++ wsX1_lengthFor_r2) ++ wsX10 ++ wsX20)
def wsX2_init : List Cond := .code yX2_init cX2_init 2 none :: ([.methodLink RX2 3 objectInit, .instanceMethod objectInit, .code objectInit ⟨#[0xb1]⟩ 1 none, .arrayClass .int, .fieldLink RX2 9 "HillSlices$Hill" "sorts" "[I", .fieldLink RX2 15 "HillSlices$Hill" "owners" "[I", .fieldLink RX2 18 "HillSlices$Hill" "worths" "[I", .fieldLink RX2 21 "HillSlices$Hill" "gave" "[I", .fieldLink RX2 24 "HillSlices$Hill" "toll" "I"] ++ wsX20)
def wsX2_copyFrom : List Cond := .code yX2_copyFrom cX2_copyFrom 2 none :: ([.fieldLink RX2 9 "HillSlices$Hill" "sorts" "[I", .methodLink RX2 34 arraycopyName, .native arraycopyName, .static arraycopyName, .initialized "java/lang/System", .fieldLink RX2 15 "HillSlices$Hill" "owners" "[I", .fieldLink RX2 18 "HillSlices$Hill" "worths" "[I", .fieldLink RX2 21 "HillSlices$Hill" "gave" "[I", .fieldLink RX2 40 "HillSlices$Hill" "generation" "I", .fieldLink RX2 24 "HillSlices$Hill" "toll" "I"] ++ wsX20)
def wsX2_setRing : List Cond := .code yX2_setRing cX2_setRing 3 none :: ([.fieldLink RX2 9 "HillSlices$Hill" "sorts" "[I", .methodLink RX2 34 arraycopyName, .native arraycopyName, .static arraycopyName, .initialized "java/lang/System"] ++ wsX20)
def wsX2_sectorsOfSort : List Cond := .code yX2_sectorsOfSort cX2_sectorsOfSort 5 (some .int) :: ([.methodLink RX2 43 yX2_sortAt, .instanceMethod yX2_sortAt, .selects RX2 yX2_sortAt yX2_sortAt, .initialized RX2, .code yX2_sortAt cX2_sortAt 3 (some .int), .fieldLink RX2 9 "HillSlices$Hill" "sorts" "[I"] ++ wsX20)
def wsX2_sectorsOf : List Cond := .code yX2_sectorsOf cX2_sectorsOf 4 (some .int) :: ([.methodLink RX2 50 yX2_ownerOf, .instanceMethod yX2_ownerOf, .selects RX2 yX2_ownerOf yX2_ownerOf, .initialized RX2, .code yX2_ownerOf cX2_ownerOf 2 (some .int), .fieldLink RX2 40 "HillSlices$Hill" "generation" "I", .methodLink RX2 47 yX2_ownerBehind, .instanceMethod yX2_ownerBehind, .selects RX2 yX2_ownerBehind yX2_ownerBehind, .code yX2_ownerBehind cX2_ownerBehind 3 (some .int), .fieldLink RX2 15 "HillSlices$Hill" "owners" "[I"] ++ wsX20)
def wsX2_ownersOf : List Cond := .code yX2_ownersOf cX2_ownersOf 4 (some .int) :: ([.methodLink RX2 50 yX2_ownerOf, .instanceMethod yX2_ownerOf, .selects RX2 yX2_ownerOf yX2_ownerOf, .initialized RX2, .code yX2_ownerOf cX2_ownerOf 2 (some .int), .fieldLink RX2 40 "HillSlices$Hill" "generation" "I", .methodLink RX2 47 yX2_ownerBehind, .instanceMethod yX2_ownerBehind, .selects RX2 yX2_ownerBehind yX2_ownerBehind, .code yX2_ownerBehind cX2_ownerBehind 3 (some .int), .fieldLink RX2 15 "HillSlices$Hill" "owners" "[I"] ++ wsX20)
def wsX2_setSlices : List Cond := .code yX2_setSlices cX2_setSlices 2 none :: ([.fieldLink RX2 40 "HillSlices$Hill" "generation" "I", .fieldLink RX2 15 "HillSlices$Hill" "owners" "[I", .methodLink RX2 34 arraycopyName, .native arraycopyName, .static arraycopyName, .initialized "java/lang/System"] ++ wsX20)
def wsX2_beginGeneration : List Cond := .code yX2_beginGeneration cX2_beginGeneration 1 none :: ([.fieldLink RX2 15 "HillSlices$Hill" "owners" "[I", .fieldLink RX2 40 "HillSlices$Hill" "generation" "I", .methodLink RX2 34 arraycopyName, .native arraycopyName, .static arraycopyName, .initialized "java/lang/System"] ++ wsX20)
def wsX2_give : List Cond := .code yX2_give cX2_give 3 none :: ([.fieldLink RX2 15 "HillSlices$Hill" "owners" "[I", .fieldLink RX2 40 "HillSlices$Hill" "generation" "I"] ++ wsX20)
def wsX2_giveAway : List Cond := .code yX2_giveAway cX2_giveAway 5 none :: ([.methodLink RX2 50 yX2_ownerOf, .instanceMethod yX2_ownerOf, .selects RX2 yX2_ownerOf yX2_ownerOf, .initialized RX2, .code yX2_ownerOf cX2_ownerOf 2 (some .int), .fieldLink RX2 40 "HillSlices$Hill" "generation" "I", .methodLink RX2 47 yX2_ownerBehind, .instanceMethod yX2_ownerBehind, .selects RX2 yX2_ownerBehind yX2_ownerBehind, .code yX2_ownerBehind cX2_ownerBehind 3 (some .int), .fieldLink RX2 15 "HillSlices$Hill" "owners" "[I", .methodLink RX2 54 yX2_give, .instanceMethod yX2_give, .selects RX2 yX2_give yX2_give, .code yX2_give cX2_give 3 none] ++ wsX20)
def wsX2_join : List Cond := .code yX2_join cX2_join 4 none :: ([.methodLink RX2 50 yX2_ownerOf, .instanceMethod yX2_ownerOf, .selects RX2 yX2_ownerOf yX2_ownerOf, .initialized RX2, .code yX2_ownerOf cX2_ownerOf 2 (some .int), .fieldLink RX2 40 "HillSlices$Hill" "generation" "I", .methodLink RX2 47 yX2_ownerBehind, .instanceMethod yX2_ownerBehind, .selects RX2 yX2_ownerBehind yX2_ownerBehind, .code yX2_ownerBehind cX2_ownerBehind 3 (some .int), .fieldLink RX2 15 "HillSlices$Hill" "owners" "[I", .methodLink RX2 54 yX2_give, .instanceMethod yX2_give, .selects RX2 yX2_give yX2_give, .code yX2_give cX2_give 3 none] ++ wsX20)
def wsX2_setWorth : List Cond := .code yX2_setWorth cX2_setWorth 5 (some .int) :: ([.fieldLink RX2 18 "HillSlices$Hill" "worths" "[I"] ++ wsX20)
def wsX2_shareOf : List Cond := .code yX2_shareOf cX2_shareOf 5 (some .int) :: ([.methodLink RX2 58 yX2_shareOfSector, .instanceMethod yX2_shareOfSector, .selects RX2 yX2_shareOfSector yX2_shareOfSector, .initialized RX2, .code yX2_shareOfSector cX2_shareOfSector 5 (some .int), .fieldLink RX2 18 "HillSlices$Hill" "worths" "[I", .methodLink RX2 43 yX2_sortAt, .instanceMethod yX2_sortAt, .selects RX2 yX2_sortAt yX2_sortAt, .code yX2_sortAt cX2_sortAt 3 (some .int), .fieldLink RX2 9 "HillSlices$Hill" "sorts" "[I"] ++ wsX20)
def wsX2_hasRight : List Cond := .code yX2_hasRight cX2_hasRight 3 (some .boolean) :: ([.fieldLink RX2 21 "HillSlices$Hill" "gave" "[I"] ++ wsX20)
def wsX2_setRight : List Cond := .code yX2_setRight cX2_setRight 6 (some .boolean) :: ([.fieldLink RX2 21 "HillSlices$Hill" "gave" "[I", .methodLink RX2 61 yX2_hasRight, .instanceMethod yX2_hasRight, .selects RX2 yX2_hasRight yX2_hasRight, .initialized RX2, .code yX2_hasRight cX2_hasRight 3 (some .boolean)] ++ wsX20)
def wsX2_isFreeFor : List Cond := .code yX2_isFreeFor cX2_isFreeFor 4 (some .boolean) :: ([.methodLink RX2 50 yX2_ownerOf, .instanceMethod yX2_ownerOf, .selects RX2 yX2_ownerOf yX2_ownerOf, .initialized RX2, .code yX2_ownerOf cX2_ownerOf 2 (some .int), .fieldLink RX2 40 "HillSlices$Hill" "generation" "I", .methodLink RX2 47 yX2_ownerBehind, .instanceMethod yX2_ownerBehind, .selects RX2 yX2_ownerBehind yX2_ownerBehind, .code yX2_ownerBehind cX2_ownerBehind 3 (some .int), .fieldLink RX2 15 "HillSlices$Hill" "owners" "[I", .methodLink RX2 61 yX2_hasRight, .instanceMethod yX2_hasRight, .selects RX2 yX2_hasRight yX2_hasRight, .code yX2_hasRight cX2_hasRight 3 (some .boolean), .fieldLink RX2 21 "HillSlices$Hill" "gave" "[I"] ++ wsX20)
def wsX3_init : List Cond := .code yX3_init cX3_init 1 none :: ([.methodLink RX3 3 objectInit, .instanceMethod objectInit, .code objectInit ⟨#[0xb1]⟩ 1 none, .arrayClass .char, .fieldLink RX3 9 "HillSlices$Pad" "signs" "[C", .arrayClass .int, .fieldLink RX3 15 "HillSlices$Pad" "row" "[I"] ++ wsX30)
def wsX3_add : List Cond := .code yX3_add cX3_add 2 (some .int) :: ([.fieldLink RX3 19 "HillSlices$Pad" "count" "I", .fieldLink RX3 9 "HillSlices$Pad" "signs" "[C"] ++ wsX30)
def wsX3_empty : List Cond := .code yX3_empty cX3_empty 2 (some .int) :: ([.fieldLink RX3 19 "HillSlices$Pad" "count" "I"] ++ wsX30)
def wsX3_hasAt : List Cond := .code yX3_hasAt cX3_hasAt 3 (some .boolean) :: ([.fieldLink RX3 19 "HillSlices$Pad" "count" "I", .fieldLink RX3 9 "HillSlices$Pad" "signs" "[C"] ++ wsX30)
def wsJ0_isLatin1_aae02 : List Cond := .code yJ0_isLatin1_aae02 cJ0_isLatin1_aae02 1 (some .boolean) :: ([.fieldLink RJ0 38 "java/lang/String" "COMPACT_STRINGS" "Z", .fieldLink RJ0 15 "java/lang/String" "coder" "B"])
def wsJ0_coder_7d493 : List Cond := .code yJ0_coder_7d493 cJ0_coder_7d493 1 (some .byte) :: ([.fieldLink RJ0 38 "java/lang/String" "COMPACT_STRINGS" "Z", .fieldLink RJ0 15 "java/lang/String" "coder" "B"])
def wsJ0_length_8abf5 : List Cond := .code yJ0_length_8abf5 cJ0_length_8abf5 1 (some .int) :: ([.fieldLink RJ0 9 "java/lang/String" "value" "[B", .methodLink RJ0 335 yJ0_coder_7d493, .instanceMethod yJ0_coder_7d493, .selects RJ0 yJ0_coder_7d493 yJ0_coder_7d493, .initialized RJ0, .code yJ0_coder_7d493 cJ0_coder_7d493 1 (some .byte), .fieldLink RJ0 38 "java/lang/String" "COMPACT_STRINGS" "Z", .fieldLink RJ0 15 "java/lang/String" "coder" "B"])
def wsJ1_canEncode_9a6ad : List Cond := .code yJ1_canEncode_9a6ad cJ1_canEncode_9a6ad 1 (some .boolean) :: ([])
def wsJ1_indexOfChar_4cfef : List Cond := .code yJ1_indexOfChar_4cfef cJ1_indexOfChar_4cfef 6 (some .int) :: ([])
def wsJ1_indexOf_4cfef : List Cond := .code yJ1_indexOf_4cfef cJ1_indexOf_4cfef 4 (some .int) :: ([.methodLink RJ1 92 Lib.Math.max.name, .static Lib.Math.max.name, .initialized "java/lang/Math", .code Lib.Math.max.name Lib.Math.max.code 2 (some .int), .methodLink RJ1 38 Lib.Math.min.name, .static Lib.Math.min.name, .code Lib.Math.min.name Lib.Math.min.code 2 (some .int), .methodLink RJ1 88 yJ1_canEncode_9a6ad, .static yJ1_canEncode_9a6ad, .initialized RJ1, .code yJ1_canEncode_9a6ad cJ1_canEncode_9a6ad 1 (some .boolean), .methodLink RJ1 95 yJ1_indexOfChar_4cfef, .static yJ1_indexOfChar_4cfef, .code yJ1_indexOfChar_4cfef cJ1_indexOfChar_4cfef 6 (some .int)])
def wsJ2_length_9d52b : List Cond := .code yJ2_length_9d52b cJ2_length_9d52b 1 (some .int) :: ([])
def wsJ3_checkFromToIndex_8c36e : List Cond := .code yJ3_checkFromToIndex_8c36e cJ3_checkFromToIndex_8c36e 4 (some .int) :: ([])
def wsJ0_checkBoundsBeginEnd_23922 : List Cond := .code yJ0_checkBoundsBeginEnd_23922 cJ0_checkBoundsBeginEnd_23922 3 none :: ([.fieldLink RJ0 1053 "jdk/internal/util/Preconditions" "SIOOBE_FORMATTER" "Ljava/util/function/BiFunction;", .methodLink RJ0 1062 yJ3_checkFromToIndex_8c36e, .static yJ3_checkFromToIndex_8c36e, .initialized RJ3, .code yJ3_checkFromToIndex_8c36e cJ3_checkFromToIndex_8c36e 4 (some .int)])
def wsJ2_checkBoundsBeginEnd_d044e : List Cond := .code yJ2_checkBoundsBeginEnd_d044e cJ2_checkBoundsBeginEnd_d044e 3 none :: ([.methodLink RJ2 48 yJ2_length_9d52b, .static yJ2_length_9d52b, .initialized RJ2, .code yJ2_length_9d52b cJ2_length_9d52b 1 (some .int), .methodLink RJ2 241 yJ0_checkBoundsBeginEnd_23922, .static yJ0_checkBoundsBeginEnd_23922, .initialized RJ0, .code yJ0_checkBoundsBeginEnd_23922 cJ0_checkBoundsBeginEnd_23922 3 none, .fieldLink RJ0 1053 "jdk/internal/util/Preconditions" "SIOOBE_FORMATTER" "Ljava/util/function/BiFunction;", .methodLink RJ0 1062 yJ3_checkFromToIndex_8c36e, .static yJ3_checkFromToIndex_8c36e, .initialized RJ3, .code yJ3_checkFromToIndex_8c36e cJ3_checkFromToIndex_8c36e 4 (some .int)])
def wsJ2_getChar_3b067 : List Cond := .code yJ2_getChar_3b067 cJ2_getChar_3b067 2 (some .char) :: ([.fieldLink RJ2 44 "java/lang/StringUTF16" "$assertionsDisabled" "Z", .fieldLink RJ2 59 "java/lang/StringUTF16" "HI_BYTE_SHIFT" "I", .fieldLink RJ2 63 "java/lang/StringUTF16" "LO_BYTE_SHIFT" "I", .methodLink RJ2 48 yJ2_length_9d52b, .static yJ2_length_9d52b, .initialized RJ2, .code yJ2_length_9d52b cJ2_length_9d52b 1 (some .int)])
def wsJ2_indexOfCharUnsafe_4cfef : List Cond := .code yJ2_indexOfCharUnsafe_4cfef cJ2_indexOfCharUnsafe_4cfef 5 (some .int) :: ([.methodLink RJ2 71 yJ2_getChar_3b067, .static yJ2_getChar_3b067, .initialized RJ2, .code yJ2_getChar_3b067 cJ2_getChar_3b067 2 (some .char), .fieldLink RJ2 44 "java/lang/StringUTF16" "$assertionsDisabled" "Z", .fieldLink RJ2 59 "java/lang/StringUTF16" "HI_BYTE_SHIFT" "I", .fieldLink RJ2 63 "java/lang/StringUTF16" "LO_BYTE_SHIFT" "I", .methodLink RJ2 48 yJ2_length_9d52b, .static yJ2_length_9d52b, .code yJ2_length_9d52b cJ2_length_9d52b 1 (some .int)])
def wsJ2_indexOfChar_4cfef_r1 : List Cond := [Cond.methodLink RJ2 96 yJ2_checkBoundsBeginEnd_d044e, Cond.static yJ2_checkBoundsBeginEnd_d044e, Cond.initialized RJ2, Cond.code yJ2_checkBoundsBeginEnd_d044e cJ2_checkBoundsBeginEnd_d044e 3 none, Cond.methodLink RJ2 48 yJ2_length_9d52b, Cond.static yJ2_length_9d52b, Cond.code yJ2_length_9d52b cJ2_length_9d52b 1 (some .int), Cond.methodLink RJ2 241 yJ0_checkBoundsBeginEnd_23922, Cond.static yJ0_checkBoundsBeginEnd_23922, Cond.initialized RJ0, Cond.code yJ0_checkBoundsBeginEnd_23922 cJ0_checkBoundsBeginEnd_23922 3 none, Cond.fieldLink RJ0 1053 "jdk/internal/util/Preconditions" "SIOOBE_FORMATTER" "Ljava/util/function/BiFunction;", Cond.methodLink RJ0 1062 yJ3_checkFromToIndex_8c36e, Cond.static yJ3_checkFromToIndex_8c36e, Cond.initialized RJ3, Cond.code yJ3_checkFromToIndex_8c36e cJ3_checkFromToIndex_8c36e 4 (some .int), Cond.methodLink RJ2 244 yJ2_indexOfCharUnsafe_4cfef, Cond.static yJ2_indexOfCharUnsafe_4cfef, Cond.code yJ2_indexOfCharUnsafe_4cfef cJ2_indexOfCharUnsafe_4cfef 5 (some .int), Cond.methodLink RJ2 71 yJ2_getChar_3b067, Cond.static yJ2_getChar_3b067, Cond.code yJ2_getChar_3b067 cJ2_getChar_3b067 2 (some .char), Cond.fieldLink RJ2 44 "java/lang/StringUTF16" "$assertionsDisabled" "Z", Cond.fieldLink RJ2 59 "java/lang/StringUTF16" "HI_BYTE_SHIFT" "I"]
def wsJ2_indexOfChar_4cfef_r2 : List Cond := [Cond.fieldLink RJ2 63 "java/lang/StringUTF16" "LO_BYTE_SHIFT" "I"]
def wsJ2_indexOfChar_4cfef : List Cond := .code yJ2_indexOfChar_4cfef cJ2_indexOfChar_4cfef 4 (some .int) :: ((wsJ2_indexOfChar_4cfef_r1 ++ wsJ2_indexOfChar_4cfef_r2))
def wsJ11_isValidCodePoint_9a6ad : List Cond := .code yJ11_isValidCodePoint_9a6ad cJ11_isValidCodePoint_9a6ad 2 (some .boolean) :: ([])
def wsJ11_highSurrogate_5068e : List Cond := .code yJ11_highSurrogate_5068e cJ11_highSurrogate_5068e 1 (some .char) :: ([.constant RJ11 110 (55232)])
def wsJ11_lowSurrogate_5068e : List Cond := .code yJ11_lowSurrogate_5068e cJ11_lowSurrogate_5068e 1 (some .char) :: ([.constant RJ11 76 (56320)])
def wsJ2_indexOfSupplementary_4cfef_r1 : List Cond := [Cond.methodLink RJ2 164 yJ11_isValidCodePoint_9a6ad, Cond.static yJ11_isValidCodePoint_9a6ad, Cond.initialized RJ11, Cond.code yJ11_isValidCodePoint_9a6ad cJ11_isValidCodePoint_9a6ad 2 (some .boolean), Cond.methodLink RJ2 157 yJ11_highSurrogate_5068e, Cond.static yJ11_highSurrogate_5068e, Cond.code yJ11_highSurrogate_5068e cJ11_highSurrogate_5068e 1 (some .char), Cond.constant RJ11 110 (55232), Cond.methodLink RJ2 161 yJ11_lowSurrogate_5068e, Cond.static yJ11_lowSurrogate_5068e, Cond.code yJ11_lowSurrogate_5068e cJ11_lowSurrogate_5068e 1 (some .char), Cond.constant RJ11 76 (56320), Cond.methodLink RJ2 96 yJ2_checkBoundsBeginEnd_d044e, Cond.static yJ2_checkBoundsBeginEnd_d044e, Cond.initialized RJ2, Cond.code yJ2_checkBoundsBeginEnd_d044e cJ2_checkBoundsBeginEnd_d044e 3 none, Cond.methodLink RJ2 48 yJ2_length_9d52b, Cond.static yJ2_length_9d52b, Cond.code yJ2_length_9d52b cJ2_length_9d52b 1 (some .int), Cond.methodLink RJ2 241 yJ0_checkBoundsBeginEnd_23922, Cond.static yJ0_checkBoundsBeginEnd_23922, Cond.initialized RJ0, Cond.code yJ0_checkBoundsBeginEnd_23922 cJ0_checkBoundsBeginEnd_23922 3 none, Cond.fieldLink RJ0 1053 "jdk/internal/util/Preconditions" "SIOOBE_FORMATTER" "Ljava/util/function/BiFunction;"]
def wsJ2_indexOfSupplementary_4cfef_r2 : List Cond := [Cond.methodLink RJ0 1062 yJ3_checkFromToIndex_8c36e, Cond.static yJ3_checkFromToIndex_8c36e, Cond.initialized RJ3, Cond.code yJ3_checkFromToIndex_8c36e cJ3_checkFromToIndex_8c36e 4 (some .int), Cond.methodLink RJ2 71 yJ2_getChar_3b067, Cond.static yJ2_getChar_3b067, Cond.code yJ2_getChar_3b067 cJ2_getChar_3b067 2 (some .char), Cond.fieldLink RJ2 44 "java/lang/StringUTF16" "$assertionsDisabled" "Z", Cond.fieldLink RJ2 59 "java/lang/StringUTF16" "HI_BYTE_SHIFT" "I", Cond.fieldLink RJ2 63 "java/lang/StringUTF16" "LO_BYTE_SHIFT" "I"]
def wsJ2_indexOfSupplementary_4cfef : List Cond := .code yJ2_indexOfSupplementary_4cfef cJ2_indexOfSupplementary_4cfef 7 (some .int) :: ((wsJ2_indexOfSupplementary_4cfef_r1 ++ wsJ2_indexOfSupplementary_4cfef_r2))
def wsJ2_indexOf_4cfef_r1 : List Cond := [Cond.methodLink RJ2 224 Lib.Math.max.name, Cond.static Lib.Math.max.name, Cond.initialized "java/lang/Math", Cond.code Lib.Math.max.name Lib.Math.max.code 2 (some .int), Cond.methodLink RJ2 183 Lib.Math.min.name, Cond.static Lib.Math.min.name, Cond.code Lib.Math.min.name Lib.Math.min.code 2 (some .int), Cond.constant RJ2 227 (65536), Cond.methodLink RJ2 228 yJ2_indexOfChar_4cfef, Cond.static yJ2_indexOfChar_4cfef, Cond.initialized RJ2, Cond.code yJ2_indexOfChar_4cfef cJ2_indexOfChar_4cfef 4 (some .int), Cond.methodLink RJ2 96 yJ2_checkBoundsBeginEnd_d044e, Cond.static yJ2_checkBoundsBeginEnd_d044e, Cond.code yJ2_checkBoundsBeginEnd_d044e cJ2_checkBoundsBeginEnd_d044e 3 none, Cond.methodLink RJ2 48 yJ2_length_9d52b, Cond.static yJ2_length_9d52b, Cond.code yJ2_length_9d52b cJ2_length_9d52b 1 (some .int), Cond.methodLink RJ2 241 yJ0_checkBoundsBeginEnd_23922, Cond.static yJ0_checkBoundsBeginEnd_23922, Cond.initialized RJ0, Cond.code yJ0_checkBoundsBeginEnd_23922 cJ0_checkBoundsBeginEnd_23922 3 none, Cond.fieldLink RJ0 1053 "jdk/internal/util/Preconditions" "SIOOBE_FORMATTER" "Ljava/util/function/BiFunction;", Cond.methodLink RJ0 1062 yJ3_checkFromToIndex_8c36e]
def wsJ2_indexOf_4cfef_r2 : List Cond := [Cond.static yJ3_checkFromToIndex_8c36e, Cond.initialized RJ3, Cond.code yJ3_checkFromToIndex_8c36e cJ3_checkFromToIndex_8c36e 4 (some .int), Cond.methodLink RJ2 244 yJ2_indexOfCharUnsafe_4cfef, Cond.static yJ2_indexOfCharUnsafe_4cfef, Cond.code yJ2_indexOfCharUnsafe_4cfef cJ2_indexOfCharUnsafe_4cfef 5 (some .int), Cond.methodLink RJ2 71 yJ2_getChar_3b067, Cond.static yJ2_getChar_3b067, Cond.code yJ2_getChar_3b067 cJ2_getChar_3b067 2 (some .char), Cond.fieldLink RJ2 44 "java/lang/StringUTF16" "$assertionsDisabled" "Z", Cond.fieldLink RJ2 59 "java/lang/StringUTF16" "HI_BYTE_SHIFT" "I", Cond.fieldLink RJ2 63 "java/lang/StringUTF16" "LO_BYTE_SHIFT" "I", Cond.methodLink RJ2 232 yJ2_indexOfSupplementary_4cfef, Cond.static yJ2_indexOfSupplementary_4cfef, Cond.code yJ2_indexOfSupplementary_4cfef cJ2_indexOfSupplementary_4cfef 7 (some .int), Cond.methodLink RJ2 164 yJ11_isValidCodePoint_9a6ad, Cond.static yJ11_isValidCodePoint_9a6ad, Cond.initialized RJ11, Cond.code yJ11_isValidCodePoint_9a6ad cJ11_isValidCodePoint_9a6ad 2 (some .boolean), Cond.methodLink RJ2 157 yJ11_highSurrogate_5068e, Cond.static yJ11_highSurrogate_5068e, Cond.code yJ11_highSurrogate_5068e cJ11_highSurrogate_5068e 1 (some .char), Cond.constant RJ11 110 (55232), Cond.methodLink RJ2 161 yJ11_lowSurrogate_5068e]
def wsJ2_indexOf_4cfef_r3 : List Cond := [Cond.static yJ11_lowSurrogate_5068e, Cond.code yJ11_lowSurrogate_5068e cJ11_lowSurrogate_5068e 1 (some .char), Cond.constant RJ11 76 (56320)]
def wsJ2_indexOf_4cfef : List Cond := .code yJ2_indexOf_4cfef cJ2_indexOf_4cfef 4 (some .int) :: ((wsJ2_indexOf_4cfef_r1 ++ (wsJ2_indexOf_4cfef_r2 ++ wsJ2_indexOf_4cfef_r3)))
def wsJ0_indexOf_7cf53_r1 : List Cond := [Cond.fieldLink RJ0 9 "java/lang/String" "value" "[B", Cond.methodLink RJ0 492 yJ0_isLatin1_aae02, Cond.instanceMethod yJ0_isLatin1_aae02, Cond.selects RJ0 yJ0_isLatin1_aae02 yJ0_isLatin1_aae02, Cond.initialized RJ0, Cond.code yJ0_isLatin1_aae02 cJ0_isLatin1_aae02 1 (some .boolean), Cond.fieldLink RJ0 38 "java/lang/String" "COMPACT_STRINGS" "Z", Cond.fieldLink RJ0 15 "java/lang/String" "coder" "B", Cond.methodLink RJ0 505 yJ0_length_8abf5, Cond.instanceMethod yJ0_length_8abf5, Cond.selects RJ0 yJ0_length_8abf5 yJ0_length_8abf5, Cond.code yJ0_length_8abf5 cJ0_length_8abf5 1 (some .int), Cond.methodLink RJ0 335 yJ0_coder_7d493, Cond.instanceMethod yJ0_coder_7d493, Cond.selects RJ0 yJ0_coder_7d493 yJ0_coder_7d493, Cond.code yJ0_coder_7d493 cJ0_coder_7d493 1 (some .byte), Cond.methodLink RJ0 637 yJ1_indexOf_4cfef, Cond.static yJ1_indexOf_4cfef, Cond.initialized RJ1, Cond.code yJ1_indexOf_4cfef cJ1_indexOf_4cfef 4 (some .int), Cond.methodLink RJ1 92 Lib.Math.max.name, Cond.static Lib.Math.max.name, Cond.initialized "java/lang/Math", Cond.code Lib.Math.max.name Lib.Math.max.code 2 (some .int)]
def wsJ0_indexOf_7cf53_r2 : List Cond := [Cond.methodLink RJ1 38 Lib.Math.min.name, Cond.static Lib.Math.min.name, Cond.code Lib.Math.min.name Lib.Math.min.code 2 (some .int), Cond.methodLink RJ1 88 yJ1_canEncode_9a6ad, Cond.static yJ1_canEncode_9a6ad, Cond.code yJ1_canEncode_9a6ad cJ1_canEncode_9a6ad 1 (some .boolean), Cond.methodLink RJ1 95 yJ1_indexOfChar_4cfef, Cond.static yJ1_indexOfChar_4cfef, Cond.code yJ1_indexOfChar_4cfef cJ1_indexOfChar_4cfef 6 (some .int), Cond.methodLink RJ0 640 yJ2_indexOf_4cfef, Cond.static yJ2_indexOf_4cfef, Cond.initialized RJ2, Cond.code yJ2_indexOf_4cfef cJ2_indexOf_4cfef 4 (some .int), Cond.methodLink RJ2 224 Lib.Math.max.name, Cond.methodLink RJ2 183 Lib.Math.min.name, Cond.constant RJ2 227 (65536), Cond.methodLink RJ2 228 yJ2_indexOfChar_4cfef, Cond.static yJ2_indexOfChar_4cfef, Cond.code yJ2_indexOfChar_4cfef cJ2_indexOfChar_4cfef 4 (some .int), Cond.methodLink RJ2 96 yJ2_checkBoundsBeginEnd_d044e, Cond.static yJ2_checkBoundsBeginEnd_d044e, Cond.code yJ2_checkBoundsBeginEnd_d044e cJ2_checkBoundsBeginEnd_d044e 3 none, Cond.methodLink RJ2 48 yJ2_length_9d52b, Cond.static yJ2_length_9d52b]
def wsJ0_indexOf_7cf53_r3 : List Cond := [Cond.code yJ2_length_9d52b cJ2_length_9d52b 1 (some .int), Cond.methodLink RJ2 241 yJ0_checkBoundsBeginEnd_23922, Cond.static yJ0_checkBoundsBeginEnd_23922, Cond.code yJ0_checkBoundsBeginEnd_23922 cJ0_checkBoundsBeginEnd_23922 3 none, Cond.fieldLink RJ0 1053 "jdk/internal/util/Preconditions" "SIOOBE_FORMATTER" "Ljava/util/function/BiFunction;", Cond.methodLink RJ0 1062 yJ3_checkFromToIndex_8c36e, Cond.static yJ3_checkFromToIndex_8c36e, Cond.initialized RJ3, Cond.code yJ3_checkFromToIndex_8c36e cJ3_checkFromToIndex_8c36e 4 (some .int), Cond.methodLink RJ2 244 yJ2_indexOfCharUnsafe_4cfef, Cond.static yJ2_indexOfCharUnsafe_4cfef, Cond.code yJ2_indexOfCharUnsafe_4cfef cJ2_indexOfCharUnsafe_4cfef 5 (some .int), Cond.methodLink RJ2 71 yJ2_getChar_3b067, Cond.static yJ2_getChar_3b067, Cond.code yJ2_getChar_3b067 cJ2_getChar_3b067 2 (some .char), Cond.fieldLink RJ2 44 "java/lang/StringUTF16" "$assertionsDisabled" "Z", Cond.fieldLink RJ2 59 "java/lang/StringUTF16" "HI_BYTE_SHIFT" "I", Cond.fieldLink RJ2 63 "java/lang/StringUTF16" "LO_BYTE_SHIFT" "I", Cond.methodLink RJ2 232 yJ2_indexOfSupplementary_4cfef, Cond.static yJ2_indexOfSupplementary_4cfef, Cond.code yJ2_indexOfSupplementary_4cfef cJ2_indexOfSupplementary_4cfef 7 (some .int), Cond.methodLink RJ2 164 yJ11_isValidCodePoint_9a6ad, Cond.static yJ11_isValidCodePoint_9a6ad, Cond.initialized RJ11]
def wsJ0_indexOf_7cf53_r4 : List Cond := [Cond.code yJ11_isValidCodePoint_9a6ad cJ11_isValidCodePoint_9a6ad 2 (some .boolean), Cond.methodLink RJ2 157 yJ11_highSurrogate_5068e, Cond.static yJ11_highSurrogate_5068e, Cond.code yJ11_highSurrogate_5068e cJ11_highSurrogate_5068e 1 (some .char), Cond.constant RJ11 110 (55232), Cond.methodLink RJ2 161 yJ11_lowSurrogate_5068e, Cond.static yJ11_lowSurrogate_5068e, Cond.code yJ11_lowSurrogate_5068e cJ11_lowSurrogate_5068e 1 (some .char), Cond.constant RJ11 76 (56320)]
def wsJ0_indexOf_7cf53 : List Cond := .code yJ0_indexOf_7cf53 cJ0_indexOf_7cf53 3 (some .int) :: ((wsJ0_indexOf_7cf53_r1 ++ (wsJ0_indexOf_7cf53_r2 ++ (wsJ0_indexOf_7cf53_r3 ++ wsJ0_indexOf_7cf53_r4))))
def wsJ0_indexOf_0f7a4_r1 : List Cond := [Cond.methodLink RJ0 633 yJ0_indexOf_7cf53, Cond.instanceMethod yJ0_indexOf_7cf53, Cond.selects RJ0 yJ0_indexOf_7cf53 yJ0_indexOf_7cf53, Cond.initialized RJ0, Cond.code yJ0_indexOf_7cf53 cJ0_indexOf_7cf53 3 (some .int), Cond.fieldLink RJ0 9 "java/lang/String" "value" "[B", Cond.methodLink RJ0 492 yJ0_isLatin1_aae02, Cond.instanceMethod yJ0_isLatin1_aae02, Cond.selects RJ0 yJ0_isLatin1_aae02 yJ0_isLatin1_aae02, Cond.code yJ0_isLatin1_aae02 cJ0_isLatin1_aae02 1 (some .boolean), Cond.fieldLink RJ0 38 "java/lang/String" "COMPACT_STRINGS" "Z", Cond.fieldLink RJ0 15 "java/lang/String" "coder" "B", Cond.methodLink RJ0 505 yJ0_length_8abf5, Cond.instanceMethod yJ0_length_8abf5, Cond.selects RJ0 yJ0_length_8abf5 yJ0_length_8abf5, Cond.code yJ0_length_8abf5 cJ0_length_8abf5 1 (some .int), Cond.methodLink RJ0 335 yJ0_coder_7d493, Cond.instanceMethod yJ0_coder_7d493, Cond.selects RJ0 yJ0_coder_7d493 yJ0_coder_7d493, Cond.code yJ0_coder_7d493 cJ0_coder_7d493 1 (some .byte), Cond.methodLink RJ0 637 yJ1_indexOf_4cfef, Cond.static yJ1_indexOf_4cfef, Cond.initialized RJ1, Cond.code yJ1_indexOf_4cfef cJ1_indexOf_4cfef 4 (some .int)]
def wsJ0_indexOf_0f7a4_r2 : List Cond := [Cond.methodLink RJ1 92 Lib.Math.max.name, Cond.static Lib.Math.max.name, Cond.initialized "java/lang/Math", Cond.code Lib.Math.max.name Lib.Math.max.code 2 (some .int), Cond.methodLink RJ1 38 Lib.Math.min.name, Cond.static Lib.Math.min.name, Cond.code Lib.Math.min.name Lib.Math.min.code 2 (some .int), Cond.methodLink RJ1 88 yJ1_canEncode_9a6ad, Cond.static yJ1_canEncode_9a6ad, Cond.code yJ1_canEncode_9a6ad cJ1_canEncode_9a6ad 1 (some .boolean), Cond.methodLink RJ1 95 yJ1_indexOfChar_4cfef, Cond.static yJ1_indexOfChar_4cfef, Cond.code yJ1_indexOfChar_4cfef cJ1_indexOfChar_4cfef 6 (some .int), Cond.methodLink RJ0 640 yJ2_indexOf_4cfef, Cond.static yJ2_indexOf_4cfef, Cond.initialized RJ2, Cond.code yJ2_indexOf_4cfef cJ2_indexOf_4cfef 4 (some .int), Cond.methodLink RJ2 224 Lib.Math.max.name, Cond.methodLink RJ2 183 Lib.Math.min.name, Cond.constant RJ2 227 (65536), Cond.methodLink RJ2 228 yJ2_indexOfChar_4cfef, Cond.static yJ2_indexOfChar_4cfef, Cond.code yJ2_indexOfChar_4cfef cJ2_indexOfChar_4cfef 4 (some .int), Cond.methodLink RJ2 96 yJ2_checkBoundsBeginEnd_d044e]
def wsJ0_indexOf_0f7a4_r3 : List Cond := [Cond.static yJ2_checkBoundsBeginEnd_d044e, Cond.code yJ2_checkBoundsBeginEnd_d044e cJ2_checkBoundsBeginEnd_d044e 3 none, Cond.methodLink RJ2 48 yJ2_length_9d52b, Cond.static yJ2_length_9d52b, Cond.code yJ2_length_9d52b cJ2_length_9d52b 1 (some .int), Cond.methodLink RJ2 241 yJ0_checkBoundsBeginEnd_23922, Cond.static yJ0_checkBoundsBeginEnd_23922, Cond.code yJ0_checkBoundsBeginEnd_23922 cJ0_checkBoundsBeginEnd_23922 3 none, Cond.fieldLink RJ0 1053 "jdk/internal/util/Preconditions" "SIOOBE_FORMATTER" "Ljava/util/function/BiFunction;", Cond.methodLink RJ0 1062 yJ3_checkFromToIndex_8c36e, Cond.static yJ3_checkFromToIndex_8c36e, Cond.initialized RJ3, Cond.code yJ3_checkFromToIndex_8c36e cJ3_checkFromToIndex_8c36e 4 (some .int), Cond.methodLink RJ2 244 yJ2_indexOfCharUnsafe_4cfef, Cond.static yJ2_indexOfCharUnsafe_4cfef, Cond.code yJ2_indexOfCharUnsafe_4cfef cJ2_indexOfCharUnsafe_4cfef 5 (some .int), Cond.methodLink RJ2 71 yJ2_getChar_3b067, Cond.static yJ2_getChar_3b067, Cond.code yJ2_getChar_3b067 cJ2_getChar_3b067 2 (some .char), Cond.fieldLink RJ2 44 "java/lang/StringUTF16" "$assertionsDisabled" "Z", Cond.fieldLink RJ2 59 "java/lang/StringUTF16" "HI_BYTE_SHIFT" "I", Cond.fieldLink RJ2 63 "java/lang/StringUTF16" "LO_BYTE_SHIFT" "I", Cond.methodLink RJ2 232 yJ2_indexOfSupplementary_4cfef, Cond.static yJ2_indexOfSupplementary_4cfef]
def wsJ0_indexOf_0f7a4_r4 : List Cond := [Cond.code yJ2_indexOfSupplementary_4cfef cJ2_indexOfSupplementary_4cfef 7 (some .int), Cond.methodLink RJ2 164 yJ11_isValidCodePoint_9a6ad, Cond.static yJ11_isValidCodePoint_9a6ad, Cond.initialized RJ11, Cond.code yJ11_isValidCodePoint_9a6ad cJ11_isValidCodePoint_9a6ad 2 (some .boolean), Cond.methodLink RJ2 157 yJ11_highSurrogate_5068e, Cond.static yJ11_highSurrogate_5068e, Cond.code yJ11_highSurrogate_5068e cJ11_highSurrogate_5068e 1 (some .char), Cond.constant RJ11 110 (55232), Cond.methodLink RJ2 161 yJ11_lowSurrogate_5068e, Cond.static yJ11_lowSurrogate_5068e, Cond.code yJ11_lowSurrogate_5068e cJ11_lowSurrogate_5068e 1 (some .char), Cond.constant RJ11 76 (56320)]
def wsJ0_indexOf_0f7a4 : List Cond := .code yJ0_indexOf_0f7a4 cJ0_indexOf_0f7a4 2 (some .int) :: ((wsJ0_indexOf_0f7a4_r1 ++ (wsJ0_indexOf_0f7a4_r2 ++ (wsJ0_indexOf_0f7a4_r3 ++ wsJ0_indexOf_0f7a4_r4))))
def wsX3_letterAt_r1 : List Cond := [Cond.fieldLink RX3 19 "HillSlices$Pad" "count" "I", Cond.fieldLink RX3 9 "HillSlices$Pad" "signs" "[C", Cond.methodLink RX3 23 yJ0_indexOf_0f7a4, Cond.instanceMethod yJ0_indexOf_0f7a4, Cond.selects RJ0 yJ0_indexOf_0f7a4 yJ0_indexOf_0f7a4, Cond.initialized RJ0, Cond.code yJ0_indexOf_0f7a4 cJ0_indexOf_0f7a4 2 (some .int), Cond.methodLink RJ0 633 yJ0_indexOf_7cf53, Cond.instanceMethod yJ0_indexOf_7cf53, Cond.selects RJ0 yJ0_indexOf_7cf53 yJ0_indexOf_7cf53, Cond.code yJ0_indexOf_7cf53 cJ0_indexOf_7cf53 3 (some .int), Cond.fieldLink RJ0 9 "java/lang/String" "value" "[B", Cond.methodLink RJ0 492 yJ0_isLatin1_aae02, Cond.instanceMethod yJ0_isLatin1_aae02, Cond.selects RJ0 yJ0_isLatin1_aae02 yJ0_isLatin1_aae02, Cond.code yJ0_isLatin1_aae02 cJ0_isLatin1_aae02 1 (some .boolean), Cond.fieldLink RJ0 38 "java/lang/String" "COMPACT_STRINGS" "Z", Cond.fieldLink RJ0 15 "java/lang/String" "coder" "B", Cond.methodLink RJ0 505 yJ0_length_8abf5, Cond.instanceMethod yJ0_length_8abf5, Cond.selects RJ0 yJ0_length_8abf5 yJ0_length_8abf5, Cond.code yJ0_length_8abf5 cJ0_length_8abf5 1 (some .int), Cond.methodLink RJ0 335 yJ0_coder_7d493, Cond.instanceMethod yJ0_coder_7d493]
def wsX3_letterAt_r2 : List Cond := [Cond.selects RJ0 yJ0_coder_7d493 yJ0_coder_7d493, Cond.code yJ0_coder_7d493 cJ0_coder_7d493 1 (some .byte), Cond.methodLink RJ0 637 yJ1_indexOf_4cfef, Cond.static yJ1_indexOf_4cfef, Cond.initialized RJ1, Cond.code yJ1_indexOf_4cfef cJ1_indexOf_4cfef 4 (some .int), Cond.methodLink RJ1 92 Lib.Math.max.name, Cond.static Lib.Math.max.name, Cond.initialized "java/lang/Math", Cond.code Lib.Math.max.name Lib.Math.max.code 2 (some .int), Cond.methodLink RJ1 38 Lib.Math.min.name, Cond.static Lib.Math.min.name, Cond.code Lib.Math.min.name Lib.Math.min.code 2 (some .int), Cond.methodLink RJ1 88 yJ1_canEncode_9a6ad, Cond.static yJ1_canEncode_9a6ad, Cond.code yJ1_canEncode_9a6ad cJ1_canEncode_9a6ad 1 (some .boolean), Cond.methodLink RJ1 95 yJ1_indexOfChar_4cfef, Cond.static yJ1_indexOfChar_4cfef, Cond.code yJ1_indexOfChar_4cfef cJ1_indexOfChar_4cfef 6 (some .int), Cond.methodLink RJ0 640 yJ2_indexOf_4cfef, Cond.static yJ2_indexOf_4cfef, Cond.initialized RJ2, Cond.code yJ2_indexOf_4cfef cJ2_indexOf_4cfef 4 (some .int), Cond.methodLink RJ2 224 Lib.Math.max.name]
def wsX3_letterAt_r3 : List Cond := [Cond.methodLink RJ2 183 Lib.Math.min.name, Cond.constant RJ2 227 (65536), Cond.methodLink RJ2 228 yJ2_indexOfChar_4cfef, Cond.static yJ2_indexOfChar_4cfef, Cond.code yJ2_indexOfChar_4cfef cJ2_indexOfChar_4cfef 4 (some .int), Cond.methodLink RJ2 96 yJ2_checkBoundsBeginEnd_d044e, Cond.static yJ2_checkBoundsBeginEnd_d044e, Cond.code yJ2_checkBoundsBeginEnd_d044e cJ2_checkBoundsBeginEnd_d044e 3 none, Cond.methodLink RJ2 48 yJ2_length_9d52b, Cond.static yJ2_length_9d52b, Cond.code yJ2_length_9d52b cJ2_length_9d52b 1 (some .int), Cond.methodLink RJ2 241 yJ0_checkBoundsBeginEnd_23922, Cond.static yJ0_checkBoundsBeginEnd_23922, Cond.code yJ0_checkBoundsBeginEnd_23922 cJ0_checkBoundsBeginEnd_23922 3 none, Cond.fieldLink RJ0 1053 "jdk/internal/util/Preconditions" "SIOOBE_FORMATTER" "Ljava/util/function/BiFunction;", Cond.methodLink RJ0 1062 yJ3_checkFromToIndex_8c36e, Cond.static yJ3_checkFromToIndex_8c36e, Cond.initialized RJ3, Cond.code yJ3_checkFromToIndex_8c36e cJ3_checkFromToIndex_8c36e 4 (some .int), Cond.methodLink RJ2 244 yJ2_indexOfCharUnsafe_4cfef, Cond.static yJ2_indexOfCharUnsafe_4cfef, Cond.code yJ2_indexOfCharUnsafe_4cfef cJ2_indexOfCharUnsafe_4cfef 5 (some .int), Cond.methodLink RJ2 71 yJ2_getChar_3b067, Cond.static yJ2_getChar_3b067]
def wsX3_letterAt_r4 : List Cond := [Cond.code yJ2_getChar_3b067 cJ2_getChar_3b067 2 (some .char), Cond.fieldLink RJ2 44 "java/lang/StringUTF16" "$assertionsDisabled" "Z", Cond.fieldLink RJ2 59 "java/lang/StringUTF16" "HI_BYTE_SHIFT" "I", Cond.fieldLink RJ2 63 "java/lang/StringUTF16" "LO_BYTE_SHIFT" "I", Cond.methodLink RJ2 232 yJ2_indexOfSupplementary_4cfef, Cond.static yJ2_indexOfSupplementary_4cfef, Cond.code yJ2_indexOfSupplementary_4cfef cJ2_indexOfSupplementary_4cfef 7 (some .int), Cond.methodLink RJ2 164 yJ11_isValidCodePoint_9a6ad, Cond.static yJ11_isValidCodePoint_9a6ad, Cond.initialized RJ11, Cond.code yJ11_isValidCodePoint_9a6ad cJ11_isValidCodePoint_9a6ad 2 (some .boolean), Cond.methodLink RJ2 157 yJ11_highSurrogate_5068e, Cond.static yJ11_highSurrogate_5068e, Cond.code yJ11_highSurrogate_5068e cJ11_highSurrogate_5068e 1 (some .char), Cond.constant RJ11 110 (55232), Cond.methodLink RJ2 161 yJ11_lowSurrogate_5068e, Cond.static yJ11_lowSurrogate_5068e, Cond.code yJ11_lowSurrogate_5068e cJ11_lowSurrogate_5068e 1 (some .char), Cond.constant RJ11 76 (56320)]
def wsX3_letterAt : List Cond := .code yX3_letterAt cX3_letterAt 3 (some .int) :: ((wsX3_letterAt_r1 ++ (wsX3_letterAt_r2 ++ (wsX3_letterAt_r3 ++ wsX3_letterAt_r4))) ++ wsX30)
def wsX3_digitAt : List Cond := .code yX3_digitAt cX3_digitAt 3 (some .int) :: ([.fieldLink RX3 19 "HillSlices$Pad" "count" "I", .fieldLink RX3 9 "HillSlices$Pad" "signs" "[C"] ++ wsX30)
def wsX3_faultOfRuns_r1 : List Cond := [Cond.fieldLink RX3 19 "HillSlices$Pad" "count" "I", Cond.methodLink RX3 29 yX3_letterAt, Cond.instanceMethod yX3_letterAt, Cond.selects RX3 yX3_letterAt yX3_letterAt, Cond.initialized RX3, Cond.code yX3_letterAt cX3_letterAt 3 (some .int), Cond.fieldLink RX3 9 "HillSlices$Pad" "signs" "[C", Cond.methodLink RX3 23 yJ0_indexOf_0f7a4, Cond.instanceMethod yJ0_indexOf_0f7a4, Cond.selects RJ0 yJ0_indexOf_0f7a4 yJ0_indexOf_0f7a4, Cond.initialized RJ0, Cond.code yJ0_indexOf_0f7a4 cJ0_indexOf_0f7a4 2 (some .int), Cond.methodLink RJ0 633 yJ0_indexOf_7cf53, Cond.instanceMethod yJ0_indexOf_7cf53, Cond.selects RJ0 yJ0_indexOf_7cf53 yJ0_indexOf_7cf53, Cond.code yJ0_indexOf_7cf53 cJ0_indexOf_7cf53 3 (some .int), Cond.fieldLink RJ0 9 "java/lang/String" "value" "[B", Cond.methodLink RJ0 492 yJ0_isLatin1_aae02, Cond.instanceMethod yJ0_isLatin1_aae02, Cond.selects RJ0 yJ0_isLatin1_aae02 yJ0_isLatin1_aae02, Cond.code yJ0_isLatin1_aae02 cJ0_isLatin1_aae02 1 (some .boolean), Cond.fieldLink RJ0 38 "java/lang/String" "COMPACT_STRINGS" "Z", Cond.fieldLink RJ0 15 "java/lang/String" "coder" "B", Cond.methodLink RJ0 505 yJ0_length_8abf5]
def wsX3_faultOfRuns_r2 : List Cond := [Cond.instanceMethod yJ0_length_8abf5, Cond.selects RJ0 yJ0_length_8abf5 yJ0_length_8abf5, Cond.code yJ0_length_8abf5 cJ0_length_8abf5 1 (some .int), Cond.methodLink RJ0 335 yJ0_coder_7d493, Cond.instanceMethod yJ0_coder_7d493, Cond.selects RJ0 yJ0_coder_7d493 yJ0_coder_7d493, Cond.code yJ0_coder_7d493 cJ0_coder_7d493 1 (some .byte), Cond.methodLink RJ0 637 yJ1_indexOf_4cfef, Cond.static yJ1_indexOf_4cfef, Cond.initialized RJ1, Cond.code yJ1_indexOf_4cfef cJ1_indexOf_4cfef 4 (some .int), Cond.methodLink RJ1 92 Lib.Math.max.name, Cond.static Lib.Math.max.name, Cond.initialized "java/lang/Math", Cond.code Lib.Math.max.name Lib.Math.max.code 2 (some .int), Cond.methodLink RJ1 38 Lib.Math.min.name, Cond.static Lib.Math.min.name, Cond.code Lib.Math.min.name Lib.Math.min.code 2 (some .int), Cond.methodLink RJ1 88 yJ1_canEncode_9a6ad, Cond.static yJ1_canEncode_9a6ad, Cond.code yJ1_canEncode_9a6ad cJ1_canEncode_9a6ad 1 (some .boolean), Cond.methodLink RJ1 95 yJ1_indexOfChar_4cfef, Cond.static yJ1_indexOfChar_4cfef, Cond.code yJ1_indexOfChar_4cfef cJ1_indexOfChar_4cfef 6 (some .int)]
def wsX3_faultOfRuns_r3 : List Cond := [Cond.methodLink RJ0 640 yJ2_indexOf_4cfef, Cond.static yJ2_indexOf_4cfef, Cond.initialized RJ2, Cond.code yJ2_indexOf_4cfef cJ2_indexOf_4cfef 4 (some .int), Cond.methodLink RJ2 224 Lib.Math.max.name, Cond.methodLink RJ2 183 Lib.Math.min.name, Cond.constant RJ2 227 (65536), Cond.methodLink RJ2 228 yJ2_indexOfChar_4cfef, Cond.static yJ2_indexOfChar_4cfef, Cond.code yJ2_indexOfChar_4cfef cJ2_indexOfChar_4cfef 4 (some .int), Cond.methodLink RJ2 96 yJ2_checkBoundsBeginEnd_d044e, Cond.static yJ2_checkBoundsBeginEnd_d044e, Cond.code yJ2_checkBoundsBeginEnd_d044e cJ2_checkBoundsBeginEnd_d044e 3 none, Cond.methodLink RJ2 48 yJ2_length_9d52b, Cond.static yJ2_length_9d52b, Cond.code yJ2_length_9d52b cJ2_length_9d52b 1 (some .int), Cond.methodLink RJ2 241 yJ0_checkBoundsBeginEnd_23922, Cond.static yJ0_checkBoundsBeginEnd_23922, Cond.code yJ0_checkBoundsBeginEnd_23922 cJ0_checkBoundsBeginEnd_23922 3 none, Cond.fieldLink RJ0 1053 "jdk/internal/util/Preconditions" "SIOOBE_FORMATTER" "Ljava/util/function/BiFunction;", Cond.methodLink RJ0 1062 yJ3_checkFromToIndex_8c36e, Cond.static yJ3_checkFromToIndex_8c36e, Cond.initialized RJ3, Cond.code yJ3_checkFromToIndex_8c36e cJ3_checkFromToIndex_8c36e 4 (some .int)]
def wsX3_faultOfRuns_r4 : List Cond := [Cond.methodLink RJ2 244 yJ2_indexOfCharUnsafe_4cfef, Cond.static yJ2_indexOfCharUnsafe_4cfef, Cond.code yJ2_indexOfCharUnsafe_4cfef cJ2_indexOfCharUnsafe_4cfef 5 (some .int), Cond.methodLink RJ2 71 yJ2_getChar_3b067, Cond.static yJ2_getChar_3b067, Cond.code yJ2_getChar_3b067 cJ2_getChar_3b067 2 (some .char), Cond.fieldLink RJ2 44 "java/lang/StringUTF16" "$assertionsDisabled" "Z", Cond.fieldLink RJ2 59 "java/lang/StringUTF16" "HI_BYTE_SHIFT" "I", Cond.fieldLink RJ2 63 "java/lang/StringUTF16" "LO_BYTE_SHIFT" "I", Cond.methodLink RJ2 232 yJ2_indexOfSupplementary_4cfef, Cond.static yJ2_indexOfSupplementary_4cfef, Cond.code yJ2_indexOfSupplementary_4cfef cJ2_indexOfSupplementary_4cfef 7 (some .int), Cond.methodLink RJ2 164 yJ11_isValidCodePoint_9a6ad, Cond.static yJ11_isValidCodePoint_9a6ad, Cond.initialized RJ11, Cond.code yJ11_isValidCodePoint_9a6ad cJ11_isValidCodePoint_9a6ad 2 (some .boolean), Cond.methodLink RJ2 157 yJ11_highSurrogate_5068e, Cond.static yJ11_highSurrogate_5068e, Cond.code yJ11_highSurrogate_5068e cJ11_highSurrogate_5068e 1 (some .char), Cond.constant RJ11 110 (55232), Cond.methodLink RJ2 161 yJ11_lowSurrogate_5068e, Cond.static yJ11_lowSurrogate_5068e, Cond.code yJ11_lowSurrogate_5068e cJ11_lowSurrogate_5068e 1 (some .char), Cond.constant RJ11 76 (56320)]
def wsX3_faultOfRuns_r5 : List Cond := [Cond.methodLink RX3 33 yX3_digitAt, Cond.instanceMethod yX3_digitAt, Cond.selects RX3 yX3_digitAt yX3_digitAt, Cond.code yX3_digitAt cX3_digitAt 3 (some .int)]
def wsX3_faultOfRuns : List Cond := .code yX3_faultOfRuns cX3_faultOfRuns 7 (some .int) :: ((wsX3_faultOfRuns_r1 ++ (wsX3_faultOfRuns_r2 ++ (wsX3_faultOfRuns_r3 ++ (wsX3_faultOfRuns_r4 ++ wsX3_faultOfRuns_r5)))) ++ wsX30)
def wsX3_readRuns_r1 : List Cond := [Cond.fieldLink RX3 19 "HillSlices$Pad" "count" "I", Cond.fieldLink RX3 15 "HillSlices$Pad" "row" "[I", Cond.methodLink RX3 29 yX3_letterAt, Cond.instanceMethod yX3_letterAt, Cond.selects RX3 yX3_letterAt yX3_letterAt, Cond.initialized RX3, Cond.code yX3_letterAt cX3_letterAt 3 (some .int), Cond.fieldLink RX3 9 "HillSlices$Pad" "signs" "[C", Cond.methodLink RX3 23 yJ0_indexOf_0f7a4, Cond.instanceMethod yJ0_indexOf_0f7a4, Cond.selects RJ0 yJ0_indexOf_0f7a4 yJ0_indexOf_0f7a4, Cond.initialized RJ0, Cond.code yJ0_indexOf_0f7a4 cJ0_indexOf_0f7a4 2 (some .int), Cond.methodLink RJ0 633 yJ0_indexOf_7cf53, Cond.instanceMethod yJ0_indexOf_7cf53, Cond.selects RJ0 yJ0_indexOf_7cf53 yJ0_indexOf_7cf53, Cond.code yJ0_indexOf_7cf53 cJ0_indexOf_7cf53 3 (some .int), Cond.fieldLink RJ0 9 "java/lang/String" "value" "[B", Cond.methodLink RJ0 492 yJ0_isLatin1_aae02, Cond.instanceMethod yJ0_isLatin1_aae02, Cond.selects RJ0 yJ0_isLatin1_aae02 yJ0_isLatin1_aae02, Cond.code yJ0_isLatin1_aae02 cJ0_isLatin1_aae02 1 (some .boolean), Cond.fieldLink RJ0 38 "java/lang/String" "COMPACT_STRINGS" "Z", Cond.fieldLink RJ0 15 "java/lang/String" "coder" "B"]
def wsX3_readRuns_r2 : List Cond := [Cond.methodLink RJ0 505 yJ0_length_8abf5, Cond.instanceMethod yJ0_length_8abf5, Cond.selects RJ0 yJ0_length_8abf5 yJ0_length_8abf5, Cond.code yJ0_length_8abf5 cJ0_length_8abf5 1 (some .int), Cond.methodLink RJ0 335 yJ0_coder_7d493, Cond.instanceMethod yJ0_coder_7d493, Cond.selects RJ0 yJ0_coder_7d493 yJ0_coder_7d493, Cond.code yJ0_coder_7d493 cJ0_coder_7d493 1 (some .byte), Cond.methodLink RJ0 637 yJ1_indexOf_4cfef, Cond.static yJ1_indexOf_4cfef, Cond.initialized RJ1, Cond.code yJ1_indexOf_4cfef cJ1_indexOf_4cfef 4 (some .int), Cond.methodLink RJ1 92 Lib.Math.max.name, Cond.static Lib.Math.max.name, Cond.initialized "java/lang/Math", Cond.code Lib.Math.max.name Lib.Math.max.code 2 (some .int), Cond.methodLink RJ1 38 Lib.Math.min.name, Cond.static Lib.Math.min.name, Cond.code Lib.Math.min.name Lib.Math.min.code 2 (some .int), Cond.methodLink RJ1 88 yJ1_canEncode_9a6ad, Cond.static yJ1_canEncode_9a6ad, Cond.code yJ1_canEncode_9a6ad cJ1_canEncode_9a6ad 1 (some .boolean), Cond.methodLink RJ1 95 yJ1_indexOfChar_4cfef, Cond.static yJ1_indexOfChar_4cfef]
def wsX3_readRuns_r3 : List Cond := [Cond.code yJ1_indexOfChar_4cfef cJ1_indexOfChar_4cfef 6 (some .int), Cond.methodLink RJ0 640 yJ2_indexOf_4cfef, Cond.static yJ2_indexOf_4cfef, Cond.initialized RJ2, Cond.code yJ2_indexOf_4cfef cJ2_indexOf_4cfef 4 (some .int), Cond.methodLink RJ2 224 Lib.Math.max.name, Cond.methodLink RJ2 183 Lib.Math.min.name, Cond.constant RJ2 227 (65536), Cond.methodLink RJ2 228 yJ2_indexOfChar_4cfef, Cond.static yJ2_indexOfChar_4cfef, Cond.code yJ2_indexOfChar_4cfef cJ2_indexOfChar_4cfef 4 (some .int), Cond.methodLink RJ2 96 yJ2_checkBoundsBeginEnd_d044e, Cond.static yJ2_checkBoundsBeginEnd_d044e, Cond.code yJ2_checkBoundsBeginEnd_d044e cJ2_checkBoundsBeginEnd_d044e 3 none, Cond.methodLink RJ2 48 yJ2_length_9d52b, Cond.static yJ2_length_9d52b, Cond.code yJ2_length_9d52b cJ2_length_9d52b 1 (some .int), Cond.methodLink RJ2 241 yJ0_checkBoundsBeginEnd_23922, Cond.static yJ0_checkBoundsBeginEnd_23922, Cond.code yJ0_checkBoundsBeginEnd_23922 cJ0_checkBoundsBeginEnd_23922 3 none, Cond.fieldLink RJ0 1053 "jdk/internal/util/Preconditions" "SIOOBE_FORMATTER" "Ljava/util/function/BiFunction;", Cond.methodLink RJ0 1062 yJ3_checkFromToIndex_8c36e, Cond.static yJ3_checkFromToIndex_8c36e, Cond.initialized RJ3]
def wsX3_readRuns_r4 : List Cond := [Cond.code yJ3_checkFromToIndex_8c36e cJ3_checkFromToIndex_8c36e 4 (some .int), Cond.methodLink RJ2 244 yJ2_indexOfCharUnsafe_4cfef, Cond.static yJ2_indexOfCharUnsafe_4cfef, Cond.code yJ2_indexOfCharUnsafe_4cfef cJ2_indexOfCharUnsafe_4cfef 5 (some .int), Cond.methodLink RJ2 71 yJ2_getChar_3b067, Cond.static yJ2_getChar_3b067, Cond.code yJ2_getChar_3b067 cJ2_getChar_3b067 2 (some .char), Cond.fieldLink RJ2 44 "java/lang/StringUTF16" "$assertionsDisabled" "Z", Cond.fieldLink RJ2 59 "java/lang/StringUTF16" "HI_BYTE_SHIFT" "I", Cond.fieldLink RJ2 63 "java/lang/StringUTF16" "LO_BYTE_SHIFT" "I", Cond.methodLink RJ2 232 yJ2_indexOfSupplementary_4cfef, Cond.static yJ2_indexOfSupplementary_4cfef, Cond.code yJ2_indexOfSupplementary_4cfef cJ2_indexOfSupplementary_4cfef 7 (some .int), Cond.methodLink RJ2 164 yJ11_isValidCodePoint_9a6ad, Cond.static yJ11_isValidCodePoint_9a6ad, Cond.initialized RJ11, Cond.code yJ11_isValidCodePoint_9a6ad cJ11_isValidCodePoint_9a6ad 2 (some .boolean), Cond.methodLink RJ2 157 yJ11_highSurrogate_5068e, Cond.static yJ11_highSurrogate_5068e, Cond.code yJ11_highSurrogate_5068e cJ11_highSurrogate_5068e 1 (some .char), Cond.constant RJ11 110 (55232), Cond.methodLink RJ2 161 yJ11_lowSurrogate_5068e, Cond.static yJ11_lowSurrogate_5068e, Cond.code yJ11_lowSurrogate_5068e cJ11_lowSurrogate_5068e 1 (some .char)]
def wsX3_readRuns_r5 : List Cond := [Cond.constant RJ11 76 (56320), Cond.methodLink RX3 33 yX3_digitAt, Cond.instanceMethod yX3_digitAt, Cond.selects RX3 yX3_digitAt yX3_digitAt, Cond.code yX3_digitAt cX3_digitAt 3 (some .int)]
def wsX3_readRuns : List Cond := .code yX3_readRuns cX3_readRuns 7 (some (.array .int)) :: ((wsX3_readRuns_r1 ++ (wsX3_readRuns_r2 ++ (wsX3_readRuns_r3 ++ (wsX3_readRuns_r4 ++ wsX3_readRuns_r5)))) ++ wsX30)
def wsX4_init_r1 : List Cond := [Cond.methodLink RX4 3 objectInit, Cond.instanceMethod objectInit, Cond.code objectInit ⟨#[0xb1]⟩ 1 none, Cond.classLink RX4 9 RX3, Cond.instantiable RX3 3, Cond.initialized RX3, Cond.fieldLink RX4 12 "HillSlices" "pad" "LHillSlices$Pad;", Cond.classLink RX4 16 RX2, Cond.instantiable RX2 6, Cond.initialized RX2, Cond.fieldLink RX4 19 "HillSlices" "hill" "LHillSlices$Hill;", Cond.fieldLink RX4 23 "HillSlices" "images" "[LHillSlices$Hill;", Cond.classLink RX4 27 RX0, Cond.instantiable RX0 9, Cond.initialized RX0, Cond.fieldLink RX4 32 "HillSlices" "fairCut" "LHillSlices$Cut;", Cond.fieldLink RX4 36 "HillSlices" "bestCut" "LHillSlices$Cut;", Cond.classLink RX4 39 RX1, Cond.instantiable RX1 5, Cond.initialized RX1, Cond.fieldLink RX4 42 "HillSlices" "leastFence" "LHillSlices$Fence;", Cond.instanceMethod yX3_init, Cond.code yX3_init cX3_init 1 none, Cond.methodLink RX3 3 objectInit]
def wsX4_init_r2 : List Cond := [Cond.arrayClass .char, Cond.fieldLink RX3 9 "HillSlices$Pad" "signs" "[C", Cond.arrayClass .int, Cond.fieldLink RX3 15 "HillSlices$Pad" "row" "[I", Cond.methodLink RX4 18 yX2_init, Cond.instanceMethod yX2_init, Cond.code yX2_init cX2_init 2 none, Cond.methodLink RX2 3 objectInit, Cond.fieldLink RX2 9 "HillSlices$Hill" "sorts" "[I", Cond.fieldLink RX2 15 "HillSlices$Hill" "owners" "[I", Cond.fieldLink RX2 18 "HillSlices$Hill" "worths" "[I", Cond.fieldLink RX2 21 "HillSlices$Hill" "gave" "[I", Cond.fieldLink RX2 24 "HillSlices$Hill" "toll" "I", Cond.methodLink RX4 29 yX0_init, Cond.instanceMethod yX0_init, Cond.code yX0_init cX0_init 2 none, Cond.methodLink RX0 3 objectInit, Cond.fieldLink RX0 11 "HillSlices$Cut" "sums" "[I", Cond.fieldLink RX0 15 "HillSlices$Cut" "shares" "[I", Cond.fieldLink RX0 18 "HillSlices$Cut" "begins" "[I", Cond.fieldLink RX0 21 "HillSlices$Cut" "heirs" "[I", Cond.fieldLink RX0 24 "HillSlices$Cut" "foundBegins" "[I", Cond.fieldLink RX0 27 "HillSlices$Cut" "foundHeirs" "[I", Cond.fieldLink RX0 30 "HillSlices$Cut" "fair" "Z"]
def wsX4_init_r3 : List Cond := [Cond.instanceMethod yX1_init, Cond.code yX1_init cX1_init 1 none, Cond.methodLink RX1 3 objectInit, Cond.fieldLink RX1 11 "HillSlices$Fence" "room" "[I", Cond.fieldLink RX1 15 "HillSlices$Fence" "came" "[I", Cond.fieldLink RX1 18 "HillSlices$Fence" "queue" "[I", Cond.arrayClass .boolean, Cond.fieldLink RX1 21 "HillSlices$Fence" "goals" "[Z"]
def wsX4_init : List Cond := .code yX4_init cX4_init 1 none :: ((wsX4_init_r1 ++ (wsX4_init_r2 ++ wsX4_init_r3)) ++ wsX30 ++ wsX40 ++ wsX20 ++ wsX00 ++ wsX10)
def wsX4_say : List Cond := .code yX4_say cX4_say 2 (some .int) :: ([.fieldLink RX4 12 "HillSlices" "pad" "LHillSlices$Pad;", .methodLink RX4 46 yX3_add, .instanceMethod yX3_add, .selects RX3 yX3_add yX3_add, .initialized RX3, .code yX3_add cX3_add 2 (some .int), .fieldLink RX3 19 "HillSlices$Pad" "count" "I", .fieldLink RX3 9 "HillSlices$Pad" "signs" "[C"] ++ wsX40 ++ wsX30)
def wsX4_wipe : List Cond := .code yX4_wipe cX4_wipe 1 (some .int) :: ([.fieldLink RX4 12 "HillSlices" "pad" "LHillSlices$Pad;", .methodLink RX4 50 yX3_empty, .instanceMethod yX3_empty, .selects RX3 yX3_empty yX3_empty, .initialized RX3, .code yX3_empty cX3_empty 2 (some .int), .fieldLink RX3 19 "HillSlices$Pad" "count" "I"] ++ wsX40 ++ wsX30)
def wsJ6_bitCount_0f7a4 : List Cond := .code yJ6_bitCount_0f7a4 cJ6_bitCount_0f7a4 1 (some .int) :: ([.constant RJ6 265 (1431655765), .constant RJ6 266 (858993459), .constant RJ6 267 (252645135)])
def wsX4_faultAs_r1 : List Cond := [Cond.fieldLink RX4 12 "HillSlices" "pad" "LHillSlices$Pad;", Cond.fieldLink RX4 19 "HillSlices" "hill" "LHillSlices$Hill;", Cond.methodLink RX4 207 yX3_faultOfRuns, Cond.instanceMethod yX3_faultOfRuns, Cond.selects RX3 yX3_faultOfRuns yX3_faultOfRuns, Cond.initialized RX3, Cond.code yX3_faultOfRuns cX3_faultOfRuns 7 (some .int), Cond.fieldLink RX3 19 "HillSlices$Pad" "count" "I", Cond.methodLink RX3 29 yX3_letterAt, Cond.instanceMethod yX3_letterAt, Cond.selects RX3 yX3_letterAt yX3_letterAt, Cond.code yX3_letterAt cX3_letterAt 3 (some .int), Cond.fieldLink RX3 9 "HillSlices$Pad" "signs" "[C", Cond.methodLink RX3 23 yJ0_indexOf_0f7a4, Cond.instanceMethod yJ0_indexOf_0f7a4, Cond.selects RJ0 yJ0_indexOf_0f7a4 yJ0_indexOf_0f7a4, Cond.initialized RJ0, Cond.code yJ0_indexOf_0f7a4 cJ0_indexOf_0f7a4 2 (some .int), Cond.methodLink RJ0 633 yJ0_indexOf_7cf53, Cond.instanceMethod yJ0_indexOf_7cf53, Cond.selects RJ0 yJ0_indexOf_7cf53 yJ0_indexOf_7cf53, Cond.code yJ0_indexOf_7cf53 cJ0_indexOf_7cf53 3 (some .int), Cond.fieldLink RJ0 9 "java/lang/String" "value" "[B", Cond.methodLink RJ0 492 yJ0_isLatin1_aae02]
def wsX4_faultAs_r2 : List Cond := [Cond.instanceMethod yJ0_isLatin1_aae02, Cond.selects RJ0 yJ0_isLatin1_aae02 yJ0_isLatin1_aae02, Cond.code yJ0_isLatin1_aae02 cJ0_isLatin1_aae02 1 (some .boolean), Cond.fieldLink RJ0 38 "java/lang/String" "COMPACT_STRINGS" "Z", Cond.fieldLink RJ0 15 "java/lang/String" "coder" "B", Cond.methodLink RJ0 505 yJ0_length_8abf5, Cond.instanceMethod yJ0_length_8abf5, Cond.selects RJ0 yJ0_length_8abf5 yJ0_length_8abf5, Cond.code yJ0_length_8abf5 cJ0_length_8abf5 1 (some .int), Cond.methodLink RJ0 335 yJ0_coder_7d493, Cond.instanceMethod yJ0_coder_7d493, Cond.selects RJ0 yJ0_coder_7d493 yJ0_coder_7d493, Cond.code yJ0_coder_7d493 cJ0_coder_7d493 1 (some .byte), Cond.methodLink RJ0 637 yJ1_indexOf_4cfef, Cond.static yJ1_indexOf_4cfef, Cond.initialized RJ1, Cond.code yJ1_indexOf_4cfef cJ1_indexOf_4cfef 4 (some .int), Cond.methodLink RJ1 92 Lib.Math.max.name, Cond.static Lib.Math.max.name, Cond.initialized "java/lang/Math", Cond.code Lib.Math.max.name Lib.Math.max.code 2 (some .int), Cond.methodLink RJ1 38 Lib.Math.min.name, Cond.static Lib.Math.min.name, Cond.code Lib.Math.min.name Lib.Math.min.code 2 (some .int)]
def wsX4_faultAs_r3 : List Cond := [Cond.methodLink RJ1 88 yJ1_canEncode_9a6ad, Cond.static yJ1_canEncode_9a6ad, Cond.code yJ1_canEncode_9a6ad cJ1_canEncode_9a6ad 1 (some .boolean), Cond.methodLink RJ1 95 yJ1_indexOfChar_4cfef, Cond.static yJ1_indexOfChar_4cfef, Cond.code yJ1_indexOfChar_4cfef cJ1_indexOfChar_4cfef 6 (some .int), Cond.methodLink RJ0 640 yJ2_indexOf_4cfef, Cond.static yJ2_indexOf_4cfef, Cond.initialized RJ2, Cond.code yJ2_indexOf_4cfef cJ2_indexOf_4cfef 4 (some .int), Cond.methodLink RJ2 224 Lib.Math.max.name, Cond.methodLink RJ2 183 Lib.Math.min.name, Cond.constant RJ2 227 (65536), Cond.methodLink RJ2 228 yJ2_indexOfChar_4cfef, Cond.static yJ2_indexOfChar_4cfef, Cond.code yJ2_indexOfChar_4cfef cJ2_indexOfChar_4cfef 4 (some .int), Cond.methodLink RJ2 96 yJ2_checkBoundsBeginEnd_d044e, Cond.static yJ2_checkBoundsBeginEnd_d044e, Cond.code yJ2_checkBoundsBeginEnd_d044e cJ2_checkBoundsBeginEnd_d044e 3 none, Cond.methodLink RJ2 48 yJ2_length_9d52b, Cond.static yJ2_length_9d52b, Cond.code yJ2_length_9d52b cJ2_length_9d52b 1 (some .int), Cond.methodLink RJ2 241 yJ0_checkBoundsBeginEnd_23922, Cond.static yJ0_checkBoundsBeginEnd_23922]
def wsX4_faultAs_r4 : List Cond := [Cond.code yJ0_checkBoundsBeginEnd_23922 cJ0_checkBoundsBeginEnd_23922 3 none, Cond.fieldLink RJ0 1053 "jdk/internal/util/Preconditions" "SIOOBE_FORMATTER" "Ljava/util/function/BiFunction;", Cond.methodLink RJ0 1062 yJ3_checkFromToIndex_8c36e, Cond.static yJ3_checkFromToIndex_8c36e, Cond.initialized RJ3, Cond.code yJ3_checkFromToIndex_8c36e cJ3_checkFromToIndex_8c36e 4 (some .int), Cond.methodLink RJ2 244 yJ2_indexOfCharUnsafe_4cfef, Cond.static yJ2_indexOfCharUnsafe_4cfef, Cond.code yJ2_indexOfCharUnsafe_4cfef cJ2_indexOfCharUnsafe_4cfef 5 (some .int), Cond.methodLink RJ2 71 yJ2_getChar_3b067, Cond.static yJ2_getChar_3b067, Cond.code yJ2_getChar_3b067 cJ2_getChar_3b067 2 (some .char), Cond.fieldLink RJ2 44 "java/lang/StringUTF16" "$assertionsDisabled" "Z", Cond.fieldLink RJ2 59 "java/lang/StringUTF16" "HI_BYTE_SHIFT" "I", Cond.fieldLink RJ2 63 "java/lang/StringUTF16" "LO_BYTE_SHIFT" "I", Cond.methodLink RJ2 232 yJ2_indexOfSupplementary_4cfef, Cond.static yJ2_indexOfSupplementary_4cfef, Cond.code yJ2_indexOfSupplementary_4cfef cJ2_indexOfSupplementary_4cfef 7 (some .int), Cond.methodLink RJ2 164 yJ11_isValidCodePoint_9a6ad, Cond.static yJ11_isValidCodePoint_9a6ad, Cond.initialized RJ11, Cond.code yJ11_isValidCodePoint_9a6ad cJ11_isValidCodePoint_9a6ad 2 (some .boolean), Cond.methodLink RJ2 157 yJ11_highSurrogate_5068e, Cond.static yJ11_highSurrogate_5068e]
def wsX4_faultAs_r5 : List Cond := [Cond.code yJ11_highSurrogate_5068e cJ11_highSurrogate_5068e 1 (some .char), Cond.constant RJ11 110 (55232), Cond.methodLink RJ2 161 yJ11_lowSurrogate_5068e, Cond.static yJ11_lowSurrogate_5068e, Cond.code yJ11_lowSurrogate_5068e cJ11_lowSurrogate_5068e 1 (some .char), Cond.constant RJ11 76 (56320), Cond.methodLink RX3 33 yX3_digitAt, Cond.instanceMethod yX3_digitAt, Cond.selects RX3 yX3_digitAt yX3_digitAt, Cond.code yX3_digitAt cX3_digitAt 3 (some .int), Cond.methodLink RX4 85 yX3_letterAt, Cond.methodLink RX4 211 yX3_hasAt, Cond.instanceMethod yX3_hasAt, Cond.selects RX3 yX3_hasAt yX3_hasAt, Cond.code yX3_hasAt cX3_hasAt 3 (some .boolean), Cond.methodLink RX4 122 yX2_sectorsOf, Cond.instanceMethod yX2_sectorsOf, Cond.selects RX2 yX2_sectorsOf yX2_sectorsOf, Cond.initialized RX2, Cond.code yX2_sectorsOf cX2_sectorsOf 4 (some .int), Cond.methodLink RX2 50 yX2_ownerOf, Cond.instanceMethod yX2_ownerOf, Cond.selects RX2 yX2_ownerOf yX2_ownerOf, Cond.code yX2_ownerOf cX2_ownerOf 2 (some .int)]
def wsX4_faultAs_r6 : List Cond := [Cond.fieldLink RX2 40 "HillSlices$Hill" "generation" "I", Cond.methodLink RX2 47 yX2_ownerBehind, Cond.instanceMethod yX2_ownerBehind, Cond.selects RX2 yX2_ownerBehind yX2_ownerBehind, Cond.code yX2_ownerBehind cX2_ownerBehind 3 (some .int), Cond.fieldLink RX2 15 "HillSlices$Hill" "owners" "[I", Cond.methodLink RX4 192 yJ6_bitCount_0f7a4, Cond.static yJ6_bitCount_0f7a4, Cond.initialized RJ6, Cond.code yJ6_bitCount_0f7a4 cJ6_bitCount_0f7a4 1 (some .int), Cond.constant RJ6 265 (1431655765), Cond.constant RJ6 266 (858993459), Cond.constant RJ6 267 (252645135)]
def wsX4_faultAs : List Cond := .code yX4_faultAs cX4_faultAs 3 (some .int) :: ((wsX4_faultAs_r1 ++ (wsX4_faultAs_r2 ++ (wsX4_faultAs_r3 ++ (wsX4_faultAs_r4 ++ (wsX4_faultAs_r5 ++ wsX4_faultAs_r6))))) ++ wsX40 ++ wsX30 ++ wsX20)
def wsX4_fault_r1 : List Cond := [Cond.methodLink RX4 54 yX4_faultAs, Cond.instanceMethod yX4_faultAs, Cond.selects RX4 yX4_faultAs yX4_faultAs, Cond.initialized RX4, Cond.code yX4_faultAs cX4_faultAs 3 (some .int), Cond.fieldLink RX4 12 "HillSlices" "pad" "LHillSlices$Pad;", Cond.fieldLink RX4 19 "HillSlices" "hill" "LHillSlices$Hill;", Cond.methodLink RX4 207 yX3_faultOfRuns, Cond.instanceMethod yX3_faultOfRuns, Cond.selects RX3 yX3_faultOfRuns yX3_faultOfRuns, Cond.initialized RX3, Cond.code yX3_faultOfRuns cX3_faultOfRuns 7 (some .int), Cond.fieldLink RX3 19 "HillSlices$Pad" "count" "I", Cond.methodLink RX3 29 yX3_letterAt, Cond.instanceMethod yX3_letterAt, Cond.selects RX3 yX3_letterAt yX3_letterAt, Cond.code yX3_letterAt cX3_letterAt 3 (some .int), Cond.fieldLink RX3 9 "HillSlices$Pad" "signs" "[C", Cond.methodLink RX3 23 yJ0_indexOf_0f7a4, Cond.instanceMethod yJ0_indexOf_0f7a4, Cond.selects RJ0 yJ0_indexOf_0f7a4 yJ0_indexOf_0f7a4, Cond.initialized RJ0, Cond.code yJ0_indexOf_0f7a4 cJ0_indexOf_0f7a4 2 (some .int), Cond.methodLink RJ0 633 yJ0_indexOf_7cf53]
def wsX4_fault_r2 : List Cond := [Cond.instanceMethod yJ0_indexOf_7cf53, Cond.selects RJ0 yJ0_indexOf_7cf53 yJ0_indexOf_7cf53, Cond.code yJ0_indexOf_7cf53 cJ0_indexOf_7cf53 3 (some .int), Cond.fieldLink RJ0 9 "java/lang/String" "value" "[B", Cond.methodLink RJ0 492 yJ0_isLatin1_aae02, Cond.instanceMethod yJ0_isLatin1_aae02, Cond.selects RJ0 yJ0_isLatin1_aae02 yJ0_isLatin1_aae02, Cond.code yJ0_isLatin1_aae02 cJ0_isLatin1_aae02 1 (some .boolean), Cond.fieldLink RJ0 38 "java/lang/String" "COMPACT_STRINGS" "Z", Cond.fieldLink RJ0 15 "java/lang/String" "coder" "B", Cond.methodLink RJ0 505 yJ0_length_8abf5, Cond.instanceMethod yJ0_length_8abf5, Cond.selects RJ0 yJ0_length_8abf5 yJ0_length_8abf5, Cond.code yJ0_length_8abf5 cJ0_length_8abf5 1 (some .int), Cond.methodLink RJ0 335 yJ0_coder_7d493, Cond.instanceMethod yJ0_coder_7d493, Cond.selects RJ0 yJ0_coder_7d493 yJ0_coder_7d493, Cond.code yJ0_coder_7d493 cJ0_coder_7d493 1 (some .byte), Cond.methodLink RJ0 637 yJ1_indexOf_4cfef, Cond.static yJ1_indexOf_4cfef, Cond.initialized RJ1, Cond.code yJ1_indexOf_4cfef cJ1_indexOf_4cfef 4 (some .int), Cond.methodLink RJ1 92 Lib.Math.max.name, Cond.static Lib.Math.max.name]
def wsX4_fault_r3 : List Cond := [Cond.initialized "java/lang/Math", Cond.code Lib.Math.max.name Lib.Math.max.code 2 (some .int), Cond.methodLink RJ1 38 Lib.Math.min.name, Cond.static Lib.Math.min.name, Cond.code Lib.Math.min.name Lib.Math.min.code 2 (some .int), Cond.methodLink RJ1 88 yJ1_canEncode_9a6ad, Cond.static yJ1_canEncode_9a6ad, Cond.code yJ1_canEncode_9a6ad cJ1_canEncode_9a6ad 1 (some .boolean), Cond.methodLink RJ1 95 yJ1_indexOfChar_4cfef, Cond.static yJ1_indexOfChar_4cfef, Cond.code yJ1_indexOfChar_4cfef cJ1_indexOfChar_4cfef 6 (some .int), Cond.methodLink RJ0 640 yJ2_indexOf_4cfef, Cond.static yJ2_indexOf_4cfef, Cond.initialized RJ2, Cond.code yJ2_indexOf_4cfef cJ2_indexOf_4cfef 4 (some .int), Cond.methodLink RJ2 224 Lib.Math.max.name, Cond.methodLink RJ2 183 Lib.Math.min.name, Cond.constant RJ2 227 (65536), Cond.methodLink RJ2 228 yJ2_indexOfChar_4cfef, Cond.static yJ2_indexOfChar_4cfef, Cond.code yJ2_indexOfChar_4cfef cJ2_indexOfChar_4cfef 4 (some .int), Cond.methodLink RJ2 96 yJ2_checkBoundsBeginEnd_d044e, Cond.static yJ2_checkBoundsBeginEnd_d044e, Cond.code yJ2_checkBoundsBeginEnd_d044e cJ2_checkBoundsBeginEnd_d044e 3 none]
def wsX4_fault_r4 : List Cond := [Cond.methodLink RJ2 48 yJ2_length_9d52b, Cond.static yJ2_length_9d52b, Cond.code yJ2_length_9d52b cJ2_length_9d52b 1 (some .int), Cond.methodLink RJ2 241 yJ0_checkBoundsBeginEnd_23922, Cond.static yJ0_checkBoundsBeginEnd_23922, Cond.code yJ0_checkBoundsBeginEnd_23922 cJ0_checkBoundsBeginEnd_23922 3 none, Cond.fieldLink RJ0 1053 "jdk/internal/util/Preconditions" "SIOOBE_FORMATTER" "Ljava/util/function/BiFunction;", Cond.methodLink RJ0 1062 yJ3_checkFromToIndex_8c36e, Cond.static yJ3_checkFromToIndex_8c36e, Cond.initialized RJ3, Cond.code yJ3_checkFromToIndex_8c36e cJ3_checkFromToIndex_8c36e 4 (some .int), Cond.methodLink RJ2 244 yJ2_indexOfCharUnsafe_4cfef, Cond.static yJ2_indexOfCharUnsafe_4cfef, Cond.code yJ2_indexOfCharUnsafe_4cfef cJ2_indexOfCharUnsafe_4cfef 5 (some .int), Cond.methodLink RJ2 71 yJ2_getChar_3b067, Cond.static yJ2_getChar_3b067, Cond.code yJ2_getChar_3b067 cJ2_getChar_3b067 2 (some .char), Cond.fieldLink RJ2 44 "java/lang/StringUTF16" "$assertionsDisabled" "Z", Cond.fieldLink RJ2 59 "java/lang/StringUTF16" "HI_BYTE_SHIFT" "I", Cond.fieldLink RJ2 63 "java/lang/StringUTF16" "LO_BYTE_SHIFT" "I", Cond.methodLink RJ2 232 yJ2_indexOfSupplementary_4cfef, Cond.static yJ2_indexOfSupplementary_4cfef, Cond.code yJ2_indexOfSupplementary_4cfef cJ2_indexOfSupplementary_4cfef 7 (some .int), Cond.methodLink RJ2 164 yJ11_isValidCodePoint_9a6ad]
def wsX4_fault_r5 : List Cond := [Cond.static yJ11_isValidCodePoint_9a6ad, Cond.initialized RJ11, Cond.code yJ11_isValidCodePoint_9a6ad cJ11_isValidCodePoint_9a6ad 2 (some .boolean), Cond.methodLink RJ2 157 yJ11_highSurrogate_5068e, Cond.static yJ11_highSurrogate_5068e, Cond.code yJ11_highSurrogate_5068e cJ11_highSurrogate_5068e 1 (some .char), Cond.constant RJ11 110 (55232), Cond.methodLink RJ2 161 yJ11_lowSurrogate_5068e, Cond.static yJ11_lowSurrogate_5068e, Cond.code yJ11_lowSurrogate_5068e cJ11_lowSurrogate_5068e 1 (some .char), Cond.constant RJ11 76 (56320), Cond.methodLink RX3 33 yX3_digitAt, Cond.instanceMethod yX3_digitAt, Cond.selects RX3 yX3_digitAt yX3_digitAt, Cond.code yX3_digitAt cX3_digitAt 3 (some .int), Cond.methodLink RX4 85 yX3_letterAt, Cond.methodLink RX4 211 yX3_hasAt, Cond.instanceMethod yX3_hasAt, Cond.selects RX3 yX3_hasAt yX3_hasAt, Cond.code yX3_hasAt cX3_hasAt 3 (some .boolean), Cond.methodLink RX4 122 yX2_sectorsOf, Cond.instanceMethod yX2_sectorsOf, Cond.selects RX2 yX2_sectorsOf yX2_sectorsOf, Cond.initialized RX2]
def wsX4_fault_r6 : List Cond := [Cond.code yX2_sectorsOf cX2_sectorsOf 4 (some .int), Cond.methodLink RX2 50 yX2_ownerOf, Cond.instanceMethod yX2_ownerOf, Cond.selects RX2 yX2_ownerOf yX2_ownerOf, Cond.code yX2_ownerOf cX2_ownerOf 2 (some .int), Cond.fieldLink RX2 40 "HillSlices$Hill" "generation" "I", Cond.methodLink RX2 47 yX2_ownerBehind, Cond.instanceMethod yX2_ownerBehind, Cond.selects RX2 yX2_ownerBehind yX2_ownerBehind, Cond.code yX2_ownerBehind cX2_ownerBehind 3 (some .int), Cond.fieldLink RX2 15 "HillSlices$Hill" "owners" "[I", Cond.methodLink RX4 192 yJ6_bitCount_0f7a4, Cond.static yJ6_bitCount_0f7a4, Cond.initialized RJ6, Cond.code yJ6_bitCount_0f7a4 cJ6_bitCount_0f7a4 1 (some .int), Cond.constant RJ6 265 (1431655765), Cond.constant RJ6 266 (858993459), Cond.constant RJ6 267 (252645135)]
def wsX4_fault : List Cond := .code yX4_fault cX4_fault 2 (some .int) :: ((wsX4_fault_r1 ++ (wsX4_fault_r2 ++ (wsX4_fault_r3 ++ (wsX4_fault_r4 ++ (wsX4_fault_r5 ++ wsX4_fault_r6))))) ++ wsX40 ++ wsX30 ++ wsX20)
def wsX4_isRing : List Cond := .code yX4_isRing cX4_isRing 1 (some .boolean) :: ([])
def wsX4_forgetCuts : List Cond := .code yX4_forgetCuts cX4_forgetCuts 1 none :: ([.fieldLink RX4 32 "HillSlices" "fairCut" "LHillSlices$Cut;", .fieldLink RX4 36 "HillSlices" "bestCut" "LHillSlices$Cut;", .methodLink RX4 222 yX0_forget, .instanceMethod yX0_forget, .selects RX0 yX0_forget yX0_forget, .initialized RX0, .code yX0_forget cX0_forget 1 none, .fieldLink RX0 34 "HillSlices$Cut" "n" "I"] ++ wsX40 ++ wsX00)
def wsX4_ring_r1 : List Cond := [Cond.fieldLink RX4 19 "HillSlices" "hill" "LHillSlices$Hill;", Cond.fieldLink RX4 12 "HillSlices" "pad" "LHillSlices$Pad;", Cond.methodLink RX4 58 yX4_isRing, Cond.static yX4_isRing, Cond.initialized RX4, Cond.code yX4_isRing cX4_isRing 1 (some .boolean), Cond.methodLink RX4 54 yX4_faultAs, Cond.instanceMethod yX4_faultAs, Cond.selects RX4 yX4_faultAs yX4_faultAs, Cond.code yX4_faultAs cX4_faultAs 3 (some .int), Cond.methodLink RX4 207 yX3_faultOfRuns, Cond.instanceMethod yX3_faultOfRuns, Cond.selects RX3 yX3_faultOfRuns yX3_faultOfRuns, Cond.initialized RX3, Cond.code yX3_faultOfRuns cX3_faultOfRuns 7 (some .int), Cond.fieldLink RX3 19 "HillSlices$Pad" "count" "I", Cond.methodLink RX3 29 yX3_letterAt, Cond.instanceMethod yX3_letterAt, Cond.selects RX3 yX3_letterAt yX3_letterAt, Cond.code yX3_letterAt cX3_letterAt 3 (some .int), Cond.fieldLink RX3 9 "HillSlices$Pad" "signs" "[C", Cond.methodLink RX3 23 yJ0_indexOf_0f7a4, Cond.instanceMethod yJ0_indexOf_0f7a4, Cond.selects RJ0 yJ0_indexOf_0f7a4 yJ0_indexOf_0f7a4]
def wsX4_ring_r2 : List Cond := [Cond.initialized RJ0, Cond.code yJ0_indexOf_0f7a4 cJ0_indexOf_0f7a4 2 (some .int), Cond.methodLink RJ0 633 yJ0_indexOf_7cf53, Cond.instanceMethod yJ0_indexOf_7cf53, Cond.selects RJ0 yJ0_indexOf_7cf53 yJ0_indexOf_7cf53, Cond.code yJ0_indexOf_7cf53 cJ0_indexOf_7cf53 3 (some .int), Cond.fieldLink RJ0 9 "java/lang/String" "value" "[B", Cond.methodLink RJ0 492 yJ0_isLatin1_aae02, Cond.instanceMethod yJ0_isLatin1_aae02, Cond.selects RJ0 yJ0_isLatin1_aae02 yJ0_isLatin1_aae02, Cond.code yJ0_isLatin1_aae02 cJ0_isLatin1_aae02 1 (some .boolean), Cond.fieldLink RJ0 38 "java/lang/String" "COMPACT_STRINGS" "Z", Cond.fieldLink RJ0 15 "java/lang/String" "coder" "B", Cond.methodLink RJ0 505 yJ0_length_8abf5, Cond.instanceMethod yJ0_length_8abf5, Cond.selects RJ0 yJ0_length_8abf5 yJ0_length_8abf5, Cond.code yJ0_length_8abf5 cJ0_length_8abf5 1 (some .int), Cond.methodLink RJ0 335 yJ0_coder_7d493, Cond.instanceMethod yJ0_coder_7d493, Cond.selects RJ0 yJ0_coder_7d493 yJ0_coder_7d493, Cond.code yJ0_coder_7d493 cJ0_coder_7d493 1 (some .byte), Cond.methodLink RJ0 637 yJ1_indexOf_4cfef, Cond.static yJ1_indexOf_4cfef, Cond.initialized RJ1]
def wsX4_ring_r3 : List Cond := [Cond.code yJ1_indexOf_4cfef cJ1_indexOf_4cfef 4 (some .int), Cond.methodLink RJ1 92 Lib.Math.max.name, Cond.static Lib.Math.max.name, Cond.initialized "java/lang/Math", Cond.code Lib.Math.max.name Lib.Math.max.code 2 (some .int), Cond.methodLink RJ1 38 Lib.Math.min.name, Cond.static Lib.Math.min.name, Cond.code Lib.Math.min.name Lib.Math.min.code 2 (some .int), Cond.methodLink RJ1 88 yJ1_canEncode_9a6ad, Cond.static yJ1_canEncode_9a6ad, Cond.code yJ1_canEncode_9a6ad cJ1_canEncode_9a6ad 1 (some .boolean), Cond.methodLink RJ1 95 yJ1_indexOfChar_4cfef, Cond.static yJ1_indexOfChar_4cfef, Cond.code yJ1_indexOfChar_4cfef cJ1_indexOfChar_4cfef 6 (some .int), Cond.methodLink RJ0 640 yJ2_indexOf_4cfef, Cond.static yJ2_indexOf_4cfef, Cond.initialized RJ2, Cond.code yJ2_indexOf_4cfef cJ2_indexOf_4cfef 4 (some .int), Cond.methodLink RJ2 224 Lib.Math.max.name, Cond.methodLink RJ2 183 Lib.Math.min.name, Cond.constant RJ2 227 (65536), Cond.methodLink RJ2 228 yJ2_indexOfChar_4cfef, Cond.static yJ2_indexOfChar_4cfef, Cond.code yJ2_indexOfChar_4cfef cJ2_indexOfChar_4cfef 4 (some .int)]
def wsX4_ring_r4 : List Cond := [Cond.methodLink RJ2 96 yJ2_checkBoundsBeginEnd_d044e, Cond.static yJ2_checkBoundsBeginEnd_d044e, Cond.code yJ2_checkBoundsBeginEnd_d044e cJ2_checkBoundsBeginEnd_d044e 3 none, Cond.methodLink RJ2 48 yJ2_length_9d52b, Cond.static yJ2_length_9d52b, Cond.code yJ2_length_9d52b cJ2_length_9d52b 1 (some .int), Cond.methodLink RJ2 241 yJ0_checkBoundsBeginEnd_23922, Cond.static yJ0_checkBoundsBeginEnd_23922, Cond.code yJ0_checkBoundsBeginEnd_23922 cJ0_checkBoundsBeginEnd_23922 3 none, Cond.fieldLink RJ0 1053 "jdk/internal/util/Preconditions" "SIOOBE_FORMATTER" "Ljava/util/function/BiFunction;", Cond.methodLink RJ0 1062 yJ3_checkFromToIndex_8c36e, Cond.static yJ3_checkFromToIndex_8c36e, Cond.initialized RJ3, Cond.code yJ3_checkFromToIndex_8c36e cJ3_checkFromToIndex_8c36e 4 (some .int), Cond.methodLink RJ2 244 yJ2_indexOfCharUnsafe_4cfef, Cond.static yJ2_indexOfCharUnsafe_4cfef, Cond.code yJ2_indexOfCharUnsafe_4cfef cJ2_indexOfCharUnsafe_4cfef 5 (some .int), Cond.methodLink RJ2 71 yJ2_getChar_3b067, Cond.static yJ2_getChar_3b067, Cond.code yJ2_getChar_3b067 cJ2_getChar_3b067 2 (some .char), Cond.fieldLink RJ2 44 "java/lang/StringUTF16" "$assertionsDisabled" "Z", Cond.fieldLink RJ2 59 "java/lang/StringUTF16" "HI_BYTE_SHIFT" "I", Cond.fieldLink RJ2 63 "java/lang/StringUTF16" "LO_BYTE_SHIFT" "I", Cond.methodLink RJ2 232 yJ2_indexOfSupplementary_4cfef]
def wsX4_ring_r5 : List Cond := [Cond.static yJ2_indexOfSupplementary_4cfef, Cond.code yJ2_indexOfSupplementary_4cfef cJ2_indexOfSupplementary_4cfef 7 (some .int), Cond.methodLink RJ2 164 yJ11_isValidCodePoint_9a6ad, Cond.static yJ11_isValidCodePoint_9a6ad, Cond.initialized RJ11, Cond.code yJ11_isValidCodePoint_9a6ad cJ11_isValidCodePoint_9a6ad 2 (some .boolean), Cond.methodLink RJ2 157 yJ11_highSurrogate_5068e, Cond.static yJ11_highSurrogate_5068e, Cond.code yJ11_highSurrogate_5068e cJ11_highSurrogate_5068e 1 (some .char), Cond.constant RJ11 110 (55232), Cond.methodLink RJ2 161 yJ11_lowSurrogate_5068e, Cond.static yJ11_lowSurrogate_5068e, Cond.code yJ11_lowSurrogate_5068e cJ11_lowSurrogate_5068e 1 (some .char), Cond.constant RJ11 76 (56320), Cond.methodLink RX3 33 yX3_digitAt, Cond.instanceMethod yX3_digitAt, Cond.selects RX3 yX3_digitAt yX3_digitAt, Cond.code yX3_digitAt cX3_digitAt 3 (some .int), Cond.methodLink RX4 85 yX3_letterAt, Cond.methodLink RX4 211 yX3_hasAt, Cond.instanceMethod yX3_hasAt, Cond.selects RX3 yX3_hasAt yX3_hasAt, Cond.code yX3_hasAt cX3_hasAt 3 (some .boolean), Cond.methodLink RX4 122 yX2_sectorsOf]
def wsX4_ring_r6 : List Cond := [Cond.instanceMethod yX2_sectorsOf, Cond.selects RX2 yX2_sectorsOf yX2_sectorsOf, Cond.initialized RX2, Cond.code yX2_sectorsOf cX2_sectorsOf 4 (some .int), Cond.methodLink RX2 50 yX2_ownerOf, Cond.instanceMethod yX2_ownerOf, Cond.selects RX2 yX2_ownerOf yX2_ownerOf, Cond.code yX2_ownerOf cX2_ownerOf 2 (some .int), Cond.fieldLink RX2 40 "HillSlices$Hill" "generation" "I", Cond.methodLink RX2 47 yX2_ownerBehind, Cond.instanceMethod yX2_ownerBehind, Cond.selects RX2 yX2_ownerBehind yX2_ownerBehind, Cond.code yX2_ownerBehind cX2_ownerBehind 3 (some .int), Cond.fieldLink RX2 15 "HillSlices$Hill" "owners" "[I", Cond.methodLink RX4 192 yJ6_bitCount_0f7a4, Cond.static yJ6_bitCount_0f7a4, Cond.initialized RJ6, Cond.code yJ6_bitCount_0f7a4 cJ6_bitCount_0f7a4 1 (some .int), Cond.constant RJ6 265 (1431655765), Cond.constant RJ6 266 (858993459), Cond.constant RJ6 267 (252645135), Cond.methodLink RX4 64 yX3_readRuns, Cond.instanceMethod yX3_readRuns, Cond.selects RX3 yX3_readRuns yX3_readRuns]
def wsX4_ring_r7 : List Cond := [Cond.code yX3_readRuns cX3_readRuns 7 (some (.array .int)), Cond.fieldLink RX3 15 "HillSlices$Pad" "row" "[I", Cond.methodLink RX4 68 yX2_setRing, Cond.instanceMethod yX2_setRing, Cond.selects RX2 yX2_setRing yX2_setRing, Cond.code yX2_setRing cX2_setRing 3 none, Cond.fieldLink RX2 9 "HillSlices$Hill" "sorts" "[I", Cond.methodLink RX2 34 arraycopyName, Cond.native arraycopyName, Cond.static arraycopyName, Cond.initialized "java/lang/System", Cond.methodLink RX4 72 yX4_forgetCuts, Cond.instanceMethod yX4_forgetCuts, Cond.selects RX4 yX4_forgetCuts yX4_forgetCuts, Cond.code yX4_forgetCuts cX4_forgetCuts 1 none, Cond.fieldLink RX4 32 "HillSlices" "fairCut" "LHillSlices$Cut;", Cond.fieldLink RX4 36 "HillSlices" "bestCut" "LHillSlices$Cut;", Cond.methodLink RX4 222 yX0_forget, Cond.instanceMethod yX0_forget, Cond.selects RX0 yX0_forget yX0_forget, Cond.initialized RX0, Cond.code yX0_forget cX0_forget 1 none, Cond.fieldLink RX0 34 "HillSlices$Cut" "n" "I", Cond.methodLink RX4 50 yX3_empty]
def wsX4_ring_r8 : List Cond := [Cond.instanceMethod yX3_empty, Cond.selects RX3 yX3_empty yX3_empty, Cond.code yX3_empty cX3_empty 2 (some .int)]
def wsX4_ring : List Cond := .code yX4_ring cX4_ring 2 (some .int) :: ((wsX4_ring_r1 ++ (wsX4_ring_r2 ++ (wsX4_ring_r3 ++ (wsX4_ring_r4 ++ (wsX4_ring_r5 ++ (wsX4_ring_r6 ++ (wsX4_ring_r7 ++ wsX4_ring_r8))))))) ++ wsX40 ++ wsX30 ++ wsX20 ++ wsX00)
def wsX4_slices_r1 : List Cond := [Cond.fieldLink RX4 19 "HillSlices" "hill" "LHillSlices$Hill;", Cond.fieldLink RX4 12 "HillSlices" "pad" "LHillSlices$Pad;", Cond.methodLink RX4 54 yX4_faultAs, Cond.instanceMethod yX4_faultAs, Cond.selects RX4 yX4_faultAs yX4_faultAs, Cond.initialized RX4, Cond.code yX4_faultAs cX4_faultAs 3 (some .int), Cond.methodLink RX4 207 yX3_faultOfRuns, Cond.instanceMethod yX3_faultOfRuns, Cond.selects RX3 yX3_faultOfRuns yX3_faultOfRuns, Cond.initialized RX3, Cond.code yX3_faultOfRuns cX3_faultOfRuns 7 (some .int), Cond.fieldLink RX3 19 "HillSlices$Pad" "count" "I", Cond.methodLink RX3 29 yX3_letterAt, Cond.instanceMethod yX3_letterAt, Cond.selects RX3 yX3_letterAt yX3_letterAt, Cond.code yX3_letterAt cX3_letterAt 3 (some .int), Cond.fieldLink RX3 9 "HillSlices$Pad" "signs" "[C", Cond.methodLink RX3 23 yJ0_indexOf_0f7a4, Cond.instanceMethod yJ0_indexOf_0f7a4, Cond.selects RJ0 yJ0_indexOf_0f7a4 yJ0_indexOf_0f7a4, Cond.initialized RJ0, Cond.code yJ0_indexOf_0f7a4 cJ0_indexOf_0f7a4 2 (some .int), Cond.methodLink RJ0 633 yJ0_indexOf_7cf53]
def wsX4_slices_r2 : List Cond := [Cond.instanceMethod yJ0_indexOf_7cf53, Cond.selects RJ0 yJ0_indexOf_7cf53 yJ0_indexOf_7cf53, Cond.code yJ0_indexOf_7cf53 cJ0_indexOf_7cf53 3 (some .int), Cond.fieldLink RJ0 9 "java/lang/String" "value" "[B", Cond.methodLink RJ0 492 yJ0_isLatin1_aae02, Cond.instanceMethod yJ0_isLatin1_aae02, Cond.selects RJ0 yJ0_isLatin1_aae02 yJ0_isLatin1_aae02, Cond.code yJ0_isLatin1_aae02 cJ0_isLatin1_aae02 1 (some .boolean), Cond.fieldLink RJ0 38 "java/lang/String" "COMPACT_STRINGS" "Z", Cond.fieldLink RJ0 15 "java/lang/String" "coder" "B", Cond.methodLink RJ0 505 yJ0_length_8abf5, Cond.instanceMethod yJ0_length_8abf5, Cond.selects RJ0 yJ0_length_8abf5 yJ0_length_8abf5, Cond.code yJ0_length_8abf5 cJ0_length_8abf5 1 (some .int), Cond.methodLink RJ0 335 yJ0_coder_7d493, Cond.instanceMethod yJ0_coder_7d493, Cond.selects RJ0 yJ0_coder_7d493 yJ0_coder_7d493, Cond.code yJ0_coder_7d493 cJ0_coder_7d493 1 (some .byte), Cond.methodLink RJ0 637 yJ1_indexOf_4cfef, Cond.static yJ1_indexOf_4cfef, Cond.initialized RJ1, Cond.code yJ1_indexOf_4cfef cJ1_indexOf_4cfef 4 (some .int), Cond.methodLink RJ1 92 Lib.Math.max.name, Cond.static Lib.Math.max.name]
def wsX4_slices_r3 : List Cond := [Cond.initialized "java/lang/Math", Cond.code Lib.Math.max.name Lib.Math.max.code 2 (some .int), Cond.methodLink RJ1 38 Lib.Math.min.name, Cond.static Lib.Math.min.name, Cond.code Lib.Math.min.name Lib.Math.min.code 2 (some .int), Cond.methodLink RJ1 88 yJ1_canEncode_9a6ad, Cond.static yJ1_canEncode_9a6ad, Cond.code yJ1_canEncode_9a6ad cJ1_canEncode_9a6ad 1 (some .boolean), Cond.methodLink RJ1 95 yJ1_indexOfChar_4cfef, Cond.static yJ1_indexOfChar_4cfef, Cond.code yJ1_indexOfChar_4cfef cJ1_indexOfChar_4cfef 6 (some .int), Cond.methodLink RJ0 640 yJ2_indexOf_4cfef, Cond.static yJ2_indexOf_4cfef, Cond.initialized RJ2, Cond.code yJ2_indexOf_4cfef cJ2_indexOf_4cfef 4 (some .int), Cond.methodLink RJ2 224 Lib.Math.max.name, Cond.methodLink RJ2 183 Lib.Math.min.name, Cond.constant RJ2 227 (65536), Cond.methodLink RJ2 228 yJ2_indexOfChar_4cfef, Cond.static yJ2_indexOfChar_4cfef, Cond.code yJ2_indexOfChar_4cfef cJ2_indexOfChar_4cfef 4 (some .int), Cond.methodLink RJ2 96 yJ2_checkBoundsBeginEnd_d044e, Cond.static yJ2_checkBoundsBeginEnd_d044e, Cond.code yJ2_checkBoundsBeginEnd_d044e cJ2_checkBoundsBeginEnd_d044e 3 none]
def wsX4_slices_r4 : List Cond := [Cond.methodLink RJ2 48 yJ2_length_9d52b, Cond.static yJ2_length_9d52b, Cond.code yJ2_length_9d52b cJ2_length_9d52b 1 (some .int), Cond.methodLink RJ2 241 yJ0_checkBoundsBeginEnd_23922, Cond.static yJ0_checkBoundsBeginEnd_23922, Cond.code yJ0_checkBoundsBeginEnd_23922 cJ0_checkBoundsBeginEnd_23922 3 none, Cond.fieldLink RJ0 1053 "jdk/internal/util/Preconditions" "SIOOBE_FORMATTER" "Ljava/util/function/BiFunction;", Cond.methodLink RJ0 1062 yJ3_checkFromToIndex_8c36e, Cond.static yJ3_checkFromToIndex_8c36e, Cond.initialized RJ3, Cond.code yJ3_checkFromToIndex_8c36e cJ3_checkFromToIndex_8c36e 4 (some .int), Cond.methodLink RJ2 244 yJ2_indexOfCharUnsafe_4cfef, Cond.static yJ2_indexOfCharUnsafe_4cfef, Cond.code yJ2_indexOfCharUnsafe_4cfef cJ2_indexOfCharUnsafe_4cfef 5 (some .int), Cond.methodLink RJ2 71 yJ2_getChar_3b067, Cond.static yJ2_getChar_3b067, Cond.code yJ2_getChar_3b067 cJ2_getChar_3b067 2 (some .char), Cond.fieldLink RJ2 44 "java/lang/StringUTF16" "$assertionsDisabled" "Z", Cond.fieldLink RJ2 59 "java/lang/StringUTF16" "HI_BYTE_SHIFT" "I", Cond.fieldLink RJ2 63 "java/lang/StringUTF16" "LO_BYTE_SHIFT" "I", Cond.methodLink RJ2 232 yJ2_indexOfSupplementary_4cfef, Cond.static yJ2_indexOfSupplementary_4cfef, Cond.code yJ2_indexOfSupplementary_4cfef cJ2_indexOfSupplementary_4cfef 7 (some .int), Cond.methodLink RJ2 164 yJ11_isValidCodePoint_9a6ad]
def wsX4_slices_r5 : List Cond := [Cond.static yJ11_isValidCodePoint_9a6ad, Cond.initialized RJ11, Cond.code yJ11_isValidCodePoint_9a6ad cJ11_isValidCodePoint_9a6ad 2 (some .boolean), Cond.methodLink RJ2 157 yJ11_highSurrogate_5068e, Cond.static yJ11_highSurrogate_5068e, Cond.code yJ11_highSurrogate_5068e cJ11_highSurrogate_5068e 1 (some .char), Cond.constant RJ11 110 (55232), Cond.methodLink RJ2 161 yJ11_lowSurrogate_5068e, Cond.static yJ11_lowSurrogate_5068e, Cond.code yJ11_lowSurrogate_5068e cJ11_lowSurrogate_5068e 1 (some .char), Cond.constant RJ11 76 (56320), Cond.methodLink RX3 33 yX3_digitAt, Cond.instanceMethod yX3_digitAt, Cond.selects RX3 yX3_digitAt yX3_digitAt, Cond.code yX3_digitAt cX3_digitAt 3 (some .int), Cond.methodLink RX4 85 yX3_letterAt, Cond.methodLink RX4 211 yX3_hasAt, Cond.instanceMethod yX3_hasAt, Cond.selects RX3 yX3_hasAt yX3_hasAt, Cond.code yX3_hasAt cX3_hasAt 3 (some .boolean), Cond.methodLink RX4 122 yX2_sectorsOf, Cond.instanceMethod yX2_sectorsOf, Cond.selects RX2 yX2_sectorsOf yX2_sectorsOf, Cond.initialized RX2]
def wsX4_slices_r6 : List Cond := [Cond.code yX2_sectorsOf cX2_sectorsOf 4 (some .int), Cond.methodLink RX2 50 yX2_ownerOf, Cond.instanceMethod yX2_ownerOf, Cond.selects RX2 yX2_ownerOf yX2_ownerOf, Cond.code yX2_ownerOf cX2_ownerOf 2 (some .int), Cond.fieldLink RX2 40 "HillSlices$Hill" "generation" "I", Cond.methodLink RX2 47 yX2_ownerBehind, Cond.instanceMethod yX2_ownerBehind, Cond.selects RX2 yX2_ownerBehind yX2_ownerBehind, Cond.code yX2_ownerBehind cX2_ownerBehind 3 (some .int), Cond.fieldLink RX2 15 "HillSlices$Hill" "owners" "[I", Cond.methodLink RX4 192 yJ6_bitCount_0f7a4, Cond.static yJ6_bitCount_0f7a4, Cond.initialized RJ6, Cond.code yJ6_bitCount_0f7a4 cJ6_bitCount_0f7a4 1 (some .int), Cond.constant RJ6 265 (1431655765), Cond.constant RJ6 266 (858993459), Cond.constant RJ6 267 (252645135), Cond.methodLink RX4 64 yX3_readRuns, Cond.instanceMethod yX3_readRuns, Cond.selects RX3 yX3_readRuns yX3_readRuns, Cond.code yX3_readRuns cX3_readRuns 7 (some (.array .int)), Cond.fieldLink RX3 15 "HillSlices$Pad" "row" "[I", Cond.methodLink RX4 77 yX2_setSlices]
def wsX4_slices_r7 : List Cond := [Cond.instanceMethod yX2_setSlices, Cond.selects RX2 yX2_setSlices yX2_setSlices, Cond.code yX2_setSlices cX2_setSlices 2 none, Cond.methodLink RX2 34 arraycopyName, Cond.native arraycopyName, Cond.static arraycopyName, Cond.initialized "java/lang/System", Cond.methodLink RX4 50 yX3_empty, Cond.instanceMethod yX3_empty, Cond.selects RX3 yX3_empty yX3_empty, Cond.code yX3_empty cX3_empty 2 (some .int)]
def wsX4_slices : List Cond := .code yX4_slices cX4_slices 1 (some .int) :: ((wsX4_slices_r1 ++ (wsX4_slices_r2 ++ (wsX4_slices_r3 ++ (wsX4_slices_r4 ++ (wsX4_slices_r5 ++ (wsX4_slices_r6 ++ wsX4_slices_r7)))))) ++ wsX40 ++ wsX30 ++ wsX20)
def wsX4_will_r1 : List Cond := [Cond.fieldLink RX4 19 "HillSlices" "hill" "LHillSlices$Hill;", Cond.fieldLink RX4 81 "HillSlices$Hill" "generation" "I", Cond.fieldLink RX4 12 "HillSlices" "pad" "LHillSlices$Pad;", Cond.methodLink RX4 54 yX4_faultAs, Cond.instanceMethod yX4_faultAs, Cond.selects RX4 yX4_faultAs yX4_faultAs, Cond.initialized RX4, Cond.code yX4_faultAs cX4_faultAs 3 (some .int), Cond.methodLink RX4 207 yX3_faultOfRuns, Cond.instanceMethod yX3_faultOfRuns, Cond.selects RX3 yX3_faultOfRuns yX3_faultOfRuns, Cond.initialized RX3, Cond.code yX3_faultOfRuns cX3_faultOfRuns 7 (some .int), Cond.fieldLink RX3 19 "HillSlices$Pad" "count" "I", Cond.methodLink RX3 29 yX3_letterAt, Cond.instanceMethod yX3_letterAt, Cond.selects RX3 yX3_letterAt yX3_letterAt, Cond.code yX3_letterAt cX3_letterAt 3 (some .int), Cond.fieldLink RX3 9 "HillSlices$Pad" "signs" "[C", Cond.methodLink RX3 23 yJ0_indexOf_0f7a4, Cond.instanceMethod yJ0_indexOf_0f7a4, Cond.selects RJ0 yJ0_indexOf_0f7a4 yJ0_indexOf_0f7a4, Cond.initialized RJ0, Cond.code yJ0_indexOf_0f7a4 cJ0_indexOf_0f7a4 2 (some .int)]
def wsX4_will_r2 : List Cond := [Cond.methodLink RJ0 633 yJ0_indexOf_7cf53, Cond.instanceMethod yJ0_indexOf_7cf53, Cond.selects RJ0 yJ0_indexOf_7cf53 yJ0_indexOf_7cf53, Cond.code yJ0_indexOf_7cf53 cJ0_indexOf_7cf53 3 (some .int), Cond.fieldLink RJ0 9 "java/lang/String" "value" "[B", Cond.methodLink RJ0 492 yJ0_isLatin1_aae02, Cond.instanceMethod yJ0_isLatin1_aae02, Cond.selects RJ0 yJ0_isLatin1_aae02 yJ0_isLatin1_aae02, Cond.code yJ0_isLatin1_aae02 cJ0_isLatin1_aae02 1 (some .boolean), Cond.fieldLink RJ0 38 "java/lang/String" "COMPACT_STRINGS" "Z", Cond.fieldLink RJ0 15 "java/lang/String" "coder" "B", Cond.methodLink RJ0 505 yJ0_length_8abf5, Cond.instanceMethod yJ0_length_8abf5, Cond.selects RJ0 yJ0_length_8abf5 yJ0_length_8abf5, Cond.code yJ0_length_8abf5 cJ0_length_8abf5 1 (some .int), Cond.methodLink RJ0 335 yJ0_coder_7d493, Cond.instanceMethod yJ0_coder_7d493, Cond.selects RJ0 yJ0_coder_7d493 yJ0_coder_7d493, Cond.code yJ0_coder_7d493 cJ0_coder_7d493 1 (some .byte), Cond.methodLink RJ0 637 yJ1_indexOf_4cfef, Cond.static yJ1_indexOf_4cfef, Cond.initialized RJ1, Cond.code yJ1_indexOf_4cfef cJ1_indexOf_4cfef 4 (some .int), Cond.methodLink RJ1 92 Lib.Math.max.name]
def wsX4_will_r3 : List Cond := [Cond.static Lib.Math.max.name, Cond.initialized "java/lang/Math", Cond.code Lib.Math.max.name Lib.Math.max.code 2 (some .int), Cond.methodLink RJ1 38 Lib.Math.min.name, Cond.static Lib.Math.min.name, Cond.code Lib.Math.min.name Lib.Math.min.code 2 (some .int), Cond.methodLink RJ1 88 yJ1_canEncode_9a6ad, Cond.static yJ1_canEncode_9a6ad, Cond.code yJ1_canEncode_9a6ad cJ1_canEncode_9a6ad 1 (some .boolean), Cond.methodLink RJ1 95 yJ1_indexOfChar_4cfef, Cond.static yJ1_indexOfChar_4cfef, Cond.code yJ1_indexOfChar_4cfef cJ1_indexOfChar_4cfef 6 (some .int), Cond.methodLink RJ0 640 yJ2_indexOf_4cfef, Cond.static yJ2_indexOf_4cfef, Cond.initialized RJ2, Cond.code yJ2_indexOf_4cfef cJ2_indexOf_4cfef 4 (some .int), Cond.methodLink RJ2 224 Lib.Math.max.name, Cond.methodLink RJ2 183 Lib.Math.min.name, Cond.constant RJ2 227 (65536), Cond.methodLink RJ2 228 yJ2_indexOfChar_4cfef, Cond.static yJ2_indexOfChar_4cfef, Cond.code yJ2_indexOfChar_4cfef cJ2_indexOfChar_4cfef 4 (some .int), Cond.methodLink RJ2 96 yJ2_checkBoundsBeginEnd_d044e, Cond.static yJ2_checkBoundsBeginEnd_d044e]
def wsX4_will_r4 : List Cond := [Cond.code yJ2_checkBoundsBeginEnd_d044e cJ2_checkBoundsBeginEnd_d044e 3 none, Cond.methodLink RJ2 48 yJ2_length_9d52b, Cond.static yJ2_length_9d52b, Cond.code yJ2_length_9d52b cJ2_length_9d52b 1 (some .int), Cond.methodLink RJ2 241 yJ0_checkBoundsBeginEnd_23922, Cond.static yJ0_checkBoundsBeginEnd_23922, Cond.code yJ0_checkBoundsBeginEnd_23922 cJ0_checkBoundsBeginEnd_23922 3 none, Cond.fieldLink RJ0 1053 "jdk/internal/util/Preconditions" "SIOOBE_FORMATTER" "Ljava/util/function/BiFunction;", Cond.methodLink RJ0 1062 yJ3_checkFromToIndex_8c36e, Cond.static yJ3_checkFromToIndex_8c36e, Cond.initialized RJ3, Cond.code yJ3_checkFromToIndex_8c36e cJ3_checkFromToIndex_8c36e 4 (some .int), Cond.methodLink RJ2 244 yJ2_indexOfCharUnsafe_4cfef, Cond.static yJ2_indexOfCharUnsafe_4cfef, Cond.code yJ2_indexOfCharUnsafe_4cfef cJ2_indexOfCharUnsafe_4cfef 5 (some .int), Cond.methodLink RJ2 71 yJ2_getChar_3b067, Cond.static yJ2_getChar_3b067, Cond.code yJ2_getChar_3b067 cJ2_getChar_3b067 2 (some .char), Cond.fieldLink RJ2 44 "java/lang/StringUTF16" "$assertionsDisabled" "Z", Cond.fieldLink RJ2 59 "java/lang/StringUTF16" "HI_BYTE_SHIFT" "I", Cond.fieldLink RJ2 63 "java/lang/StringUTF16" "LO_BYTE_SHIFT" "I", Cond.methodLink RJ2 232 yJ2_indexOfSupplementary_4cfef, Cond.static yJ2_indexOfSupplementary_4cfef, Cond.code yJ2_indexOfSupplementary_4cfef cJ2_indexOfSupplementary_4cfef 7 (some .int)]
def wsX4_will_r5 : List Cond := [Cond.methodLink RJ2 164 yJ11_isValidCodePoint_9a6ad, Cond.static yJ11_isValidCodePoint_9a6ad, Cond.initialized RJ11, Cond.code yJ11_isValidCodePoint_9a6ad cJ11_isValidCodePoint_9a6ad 2 (some .boolean), Cond.methodLink RJ2 157 yJ11_highSurrogate_5068e, Cond.static yJ11_highSurrogate_5068e, Cond.code yJ11_highSurrogate_5068e cJ11_highSurrogate_5068e 1 (some .char), Cond.constant RJ11 110 (55232), Cond.methodLink RJ2 161 yJ11_lowSurrogate_5068e, Cond.static yJ11_lowSurrogate_5068e, Cond.code yJ11_lowSurrogate_5068e cJ11_lowSurrogate_5068e 1 (some .char), Cond.constant RJ11 76 (56320), Cond.methodLink RX3 33 yX3_digitAt, Cond.instanceMethod yX3_digitAt, Cond.selects RX3 yX3_digitAt yX3_digitAt, Cond.code yX3_digitAt cX3_digitAt 3 (some .int), Cond.methodLink RX4 85 yX3_letterAt, Cond.methodLink RX4 211 yX3_hasAt, Cond.instanceMethod yX3_hasAt, Cond.selects RX3 yX3_hasAt yX3_hasAt, Cond.code yX3_hasAt cX3_hasAt 3 (some .boolean), Cond.methodLink RX4 122 yX2_sectorsOf, Cond.instanceMethod yX2_sectorsOf, Cond.selects RX2 yX2_sectorsOf yX2_sectorsOf]
def wsX4_will_r6 : List Cond := [Cond.initialized RX2, Cond.code yX2_sectorsOf cX2_sectorsOf 4 (some .int), Cond.methodLink RX2 50 yX2_ownerOf, Cond.instanceMethod yX2_ownerOf, Cond.selects RX2 yX2_ownerOf yX2_ownerOf, Cond.code yX2_ownerOf cX2_ownerOf 2 (some .int), Cond.fieldLink RX2 40 "HillSlices$Hill" "generation" "I", Cond.methodLink RX2 47 yX2_ownerBehind, Cond.instanceMethod yX2_ownerBehind, Cond.selects RX2 yX2_ownerBehind yX2_ownerBehind, Cond.code yX2_ownerBehind cX2_ownerBehind 3 (some .int), Cond.fieldLink RX2 15 "HillSlices$Hill" "owners" "[I", Cond.methodLink RX4 192 yJ6_bitCount_0f7a4, Cond.static yJ6_bitCount_0f7a4, Cond.initialized RJ6, Cond.code yJ6_bitCount_0f7a4 cJ6_bitCount_0f7a4 1 (some .int), Cond.constant RJ6 265 (1431655765), Cond.constant RJ6 266 (858993459), Cond.constant RJ6 267 (252645135), Cond.methodLink RX4 89 yX2_beginGeneration, Cond.instanceMethod yX2_beginGeneration, Cond.selects RX2 yX2_beginGeneration yX2_beginGeneration, Cond.code yX2_beginGeneration cX2_beginGeneration 1 none, Cond.methodLink RX2 34 arraycopyName]
def wsX4_will_r7 : List Cond := [Cond.native arraycopyName, Cond.static arraycopyName, Cond.initialized "java/lang/System", Cond.methodLink RX4 64 yX3_readRuns, Cond.instanceMethod yX3_readRuns, Cond.selects RX3 yX3_readRuns yX3_readRuns, Cond.code yX3_readRuns cX3_readRuns 7 (some (.array .int)), Cond.fieldLink RX3 15 "HillSlices$Pad" "row" "[I", Cond.methodLink RX4 92 yX2_giveAway, Cond.instanceMethod yX2_giveAway, Cond.selects RX2 yX2_giveAway yX2_giveAway, Cond.code yX2_giveAway cX2_giveAway 5 none, Cond.methodLink RX2 54 yX2_give, Cond.instanceMethod yX2_give, Cond.selects RX2 yX2_give yX2_give, Cond.code yX2_give cX2_give 3 none, Cond.methodLink RX4 50 yX3_empty, Cond.instanceMethod yX3_empty, Cond.selects RX3 yX3_empty yX3_empty, Cond.code yX3_empty cX3_empty 2 (some .int)]
def wsX4_will : List Cond := .code yX4_will cX4_will 2 (some .int) :: ((wsX4_will_r1 ++ (wsX4_will_r2 ++ (wsX4_will_r3 ++ (wsX4_will_r4 ++ (wsX4_will_r5 ++ (wsX4_will_r6 ++ wsX4_will_r7)))))) ++ wsX40 ++ wsX20 ++ wsX30)
def wsX4_isHeir : List Cond := .code yX4_isHeir cX4_isHeir 1 (some .boolean) :: ([])
def wsX4_areTwoHeirs : List Cond := .code yX4_areTwoHeirs cX4_areTwoHeirs 2 (some .boolean) :: ([.methodLink RX4 119 yX4_isHeir, .static yX4_isHeir, .initialized RX4, .code yX4_isHeir cX4_isHeir 1 (some .boolean)])
def wsX4_wedding_r1 : List Cond := [Cond.fieldLink RX4 19 "HillSlices" "hill" "LHillSlices$Hill;", Cond.fieldLink RX4 81 "HillSlices$Hill" "generation" "I", Cond.methodLink RX4 95 yX4_areTwoHeirs, Cond.static yX4_areTwoHeirs, Cond.initialized RX4, Cond.code yX4_areTwoHeirs cX4_areTwoHeirs 2 (some .boolean), Cond.methodLink RX4 119 yX4_isHeir, Cond.static yX4_isHeir, Cond.code yX4_isHeir cX4_isHeir 1 (some .boolean), Cond.methodLink RX4 89 yX2_beginGeneration, Cond.instanceMethod yX2_beginGeneration, Cond.selects RX2 yX2_beginGeneration yX2_beginGeneration, Cond.initialized RX2, Cond.code yX2_beginGeneration cX2_beginGeneration 1 none, Cond.fieldLink RX2 15 "HillSlices$Hill" "owners" "[I", Cond.fieldLink RX2 40 "HillSlices$Hill" "generation" "I", Cond.methodLink RX2 34 arraycopyName, Cond.native arraycopyName, Cond.static arraycopyName, Cond.initialized "java/lang/System", Cond.methodLink RX4 99 yX2_join, Cond.instanceMethod yX2_join, Cond.selects RX2 yX2_join yX2_join, Cond.code yX2_join cX2_join 4 none]
def wsX4_wedding_r2 : List Cond := [Cond.methodLink RX2 50 yX2_ownerOf, Cond.instanceMethod yX2_ownerOf, Cond.selects RX2 yX2_ownerOf yX2_ownerOf, Cond.code yX2_ownerOf cX2_ownerOf 2 (some .int), Cond.methodLink RX2 47 yX2_ownerBehind, Cond.instanceMethod yX2_ownerBehind, Cond.selects RX2 yX2_ownerBehind yX2_ownerBehind, Cond.code yX2_ownerBehind cX2_ownerBehind 3 (some .int), Cond.methodLink RX2 54 yX2_give, Cond.instanceMethod yX2_give, Cond.selects RX2 yX2_give yX2_give, Cond.code yX2_give cX2_give 3 none]
def wsX4_wedding : List Cond := .code yX4_wedding cX4_wedding 3 (some .int) :: ((wsX4_wedding_r1 ++ wsX4_wedding_r2) ++ wsX40 ++ wsX20)
def wsX4_isSector : List Cond := .code yX4_isSector cX4_isSector 1 (some .boolean) :: ([])
def wsJ3_checkIndex_8e157 : List Cond := .code yJ3_checkIndex_8e157 cJ3_checkIndex_8e157 3 (some .int) :: ([])
def wsJ0_checkIndex_df160 : List Cond := .code yJ0_checkIndex_df160 cJ0_checkIndex_df160 2 none :: ([.fieldLink RJ0 1053 "jdk/internal/util/Preconditions" "SIOOBE_FORMATTER" "Ljava/util/function/BiFunction;", .methodLink RJ0 1059 yJ3_checkIndex_8e157, .static yJ3_checkIndex_8e157, .initialized RJ3, .code yJ3_checkIndex_8e157 cJ3_checkIndex_8e157 3 (some .int)])
def wsJ1_charAt_3b067 : List Cond := .code yJ1_charAt_3b067 cJ1_charAt_3b067 2 (some .char) :: ([.methodLink RJ1 9 yJ0_checkIndex_df160, .static yJ0_checkIndex_df160, .initialized RJ0, .code yJ0_checkIndex_df160 cJ0_checkIndex_df160 2 none, .fieldLink RJ0 1053 "jdk/internal/util/Preconditions" "SIOOBE_FORMATTER" "Ljava/util/function/BiFunction;", .methodLink RJ0 1059 yJ3_checkIndex_8e157, .static yJ3_checkIndex_8e157, .initialized RJ3, .code yJ3_checkIndex_8e157 cJ3_checkIndex_8e157 3 (some .int)])
def wsJ2_checkIndex_2214a : List Cond := .code yJ2_checkIndex_2214a cJ2_checkIndex_2214a 2 none :: ([.methodLink RJ2 48 yJ2_length_9d52b, .static yJ2_length_9d52b, .initialized RJ2, .code yJ2_length_9d52b cJ2_length_9d52b 1 (some .int), .methodLink RJ2 414 yJ0_checkIndex_df160, .static yJ0_checkIndex_df160, .initialized RJ0, .code yJ0_checkIndex_df160 cJ0_checkIndex_df160 2 none, .fieldLink RJ0 1053 "jdk/internal/util/Preconditions" "SIOOBE_FORMATTER" "Ljava/util/function/BiFunction;", .methodLink RJ0 1059 yJ3_checkIndex_8e157, .static yJ3_checkIndex_8e157, .initialized RJ3, .code yJ3_checkIndex_8e157 cJ3_checkIndex_8e157 3 (some .int)])
def wsJ2_charAt_3b067 : List Cond := .code yJ2_charAt_3b067 cJ2_charAt_3b067 2 (some .char) :: ([.methodLink RJ2 67 yJ2_checkIndex_2214a, .static yJ2_checkIndex_2214a, .initialized RJ2, .code yJ2_checkIndex_2214a cJ2_checkIndex_2214a 2 none, .methodLink RJ2 48 yJ2_length_9d52b, .static yJ2_length_9d52b, .code yJ2_length_9d52b cJ2_length_9d52b 1 (some .int), .methodLink RJ2 414 yJ0_checkIndex_df160, .static yJ0_checkIndex_df160, .initialized RJ0, .code yJ0_checkIndex_df160 cJ0_checkIndex_df160 2 none, .fieldLink RJ0 1053 "jdk/internal/util/Preconditions" "SIOOBE_FORMATTER" "Ljava/util/function/BiFunction;", .methodLink RJ0 1059 yJ3_checkIndex_8e157, .static yJ3_checkIndex_8e157, .initialized RJ3, .code yJ3_checkIndex_8e157 cJ3_checkIndex_8e157 3 (some .int), .methodLink RJ2 71 yJ2_getChar_3b067, .static yJ2_getChar_3b067, .code yJ2_getChar_3b067 cJ2_getChar_3b067 2 (some .char), .fieldLink RJ2 44 "java/lang/StringUTF16" "$assertionsDisabled" "Z", .fieldLink RJ2 59 "java/lang/StringUTF16" "HI_BYTE_SHIFT" "I", .fieldLink RJ2 63 "java/lang/StringUTF16" "LO_BYTE_SHIFT" "I"])
def wsJ0_charAt_5068e_r1 : List Cond := [Cond.fieldLink RJ0 9 "java/lang/String" "value" "[B", Cond.methodLink RJ0 492 yJ0_isLatin1_aae02, Cond.instanceMethod yJ0_isLatin1_aae02, Cond.selects RJ0 yJ0_isLatin1_aae02 yJ0_isLatin1_aae02, Cond.initialized RJ0, Cond.code yJ0_isLatin1_aae02 cJ0_isLatin1_aae02 1 (some .boolean), Cond.fieldLink RJ0 38 "java/lang/String" "COMPACT_STRINGS" "Z", Cond.fieldLink RJ0 15 "java/lang/String" "coder" "B", Cond.methodLink RJ0 495 yJ1_charAt_3b067, Cond.static yJ1_charAt_3b067, Cond.initialized RJ1, Cond.code yJ1_charAt_3b067 cJ1_charAt_3b067 2 (some .char), Cond.methodLink RJ1 9 yJ0_checkIndex_df160, Cond.static yJ0_checkIndex_df160, Cond.code yJ0_checkIndex_df160 cJ0_checkIndex_df160 2 none, Cond.fieldLink RJ0 1053 "jdk/internal/util/Preconditions" "SIOOBE_FORMATTER" "Ljava/util/function/BiFunction;", Cond.methodLink RJ0 1059 yJ3_checkIndex_8e157, Cond.static yJ3_checkIndex_8e157, Cond.initialized RJ3, Cond.code yJ3_checkIndex_8e157 cJ3_checkIndex_8e157 3 (some .int), Cond.methodLink RJ0 498 yJ2_charAt_3b067, Cond.static yJ2_charAt_3b067, Cond.initialized RJ2, Cond.code yJ2_charAt_3b067 cJ2_charAt_3b067 2 (some .char)]
def wsJ0_charAt_5068e_r2 : List Cond := [Cond.methodLink RJ2 67 yJ2_checkIndex_2214a, Cond.static yJ2_checkIndex_2214a, Cond.code yJ2_checkIndex_2214a cJ2_checkIndex_2214a 2 none, Cond.methodLink RJ2 48 yJ2_length_9d52b, Cond.static yJ2_length_9d52b, Cond.code yJ2_length_9d52b cJ2_length_9d52b 1 (some .int), Cond.methodLink RJ2 414 yJ0_checkIndex_df160, Cond.methodLink RJ2 71 yJ2_getChar_3b067, Cond.static yJ2_getChar_3b067, Cond.code yJ2_getChar_3b067 cJ2_getChar_3b067 2 (some .char), Cond.fieldLink RJ2 44 "java/lang/StringUTF16" "$assertionsDisabled" "Z", Cond.fieldLink RJ2 59 "java/lang/StringUTF16" "HI_BYTE_SHIFT" "I", Cond.fieldLink RJ2 63 "java/lang/StringUTF16" "LO_BYTE_SHIFT" "I"]
def wsJ0_charAt_5068e : List Cond := .code yJ0_charAt_5068e cJ0_charAt_5068e 2 (some .char) :: ((wsJ0_charAt_5068e_r1 ++ wsJ0_charAt_5068e_r2))
def wsX4_cell_r1 : List Cond := [Cond.fieldLink RX4 19 "HillSlices" "hill" "LHillSlices$Hill;", Cond.methodLink RX4 58 yX4_isRing, Cond.static yX4_isRing, Cond.initialized RX4, Cond.code yX4_isRing cX4_isRing 1 (some .boolean), Cond.methodLink RX4 103 yX4_isSector, Cond.static yX4_isSector, Cond.code yX4_isSector cX4_isSector 1 (some .boolean), Cond.methodLink RX4 106 yX2_sortAt, Cond.instanceMethod yX2_sortAt, Cond.selects RX2 yX2_sortAt yX2_sortAt, Cond.initialized RX2, Cond.code yX2_sortAt cX2_sortAt 3 (some .int), Cond.fieldLink RX2 9 "HillSlices$Hill" "sorts" "[I", Cond.methodLink RX4 110 yJ0_charAt_5068e, Cond.instanceMethod yJ0_charAt_5068e, Cond.selects RJ0 yJ0_charAt_5068e yJ0_charAt_5068e, Cond.initialized RJ0, Cond.code yJ0_charAt_5068e cJ0_charAt_5068e 2 (some .char), Cond.fieldLink RJ0 9 "java/lang/String" "value" "[B", Cond.methodLink RJ0 492 yJ0_isLatin1_aae02, Cond.instanceMethod yJ0_isLatin1_aae02, Cond.selects RJ0 yJ0_isLatin1_aae02 yJ0_isLatin1_aae02, Cond.code yJ0_isLatin1_aae02 cJ0_isLatin1_aae02 1 (some .boolean)]
def wsX4_cell_r2 : List Cond := [Cond.fieldLink RJ0 38 "java/lang/String" "COMPACT_STRINGS" "Z", Cond.fieldLink RJ0 15 "java/lang/String" "coder" "B", Cond.methodLink RJ0 495 yJ1_charAt_3b067, Cond.static yJ1_charAt_3b067, Cond.initialized RJ1, Cond.code yJ1_charAt_3b067 cJ1_charAt_3b067 2 (some .char), Cond.methodLink RJ1 9 yJ0_checkIndex_df160, Cond.static yJ0_checkIndex_df160, Cond.code yJ0_checkIndex_df160 cJ0_checkIndex_df160 2 none, Cond.fieldLink RJ0 1053 "jdk/internal/util/Preconditions" "SIOOBE_FORMATTER" "Ljava/util/function/BiFunction;", Cond.methodLink RJ0 1059 yJ3_checkIndex_8e157, Cond.static yJ3_checkIndex_8e157, Cond.initialized RJ3, Cond.code yJ3_checkIndex_8e157 cJ3_checkIndex_8e157 3 (some .int), Cond.methodLink RJ0 498 yJ2_charAt_3b067, Cond.static yJ2_charAt_3b067, Cond.initialized RJ2, Cond.code yJ2_charAt_3b067 cJ2_charAt_3b067 2 (some .char), Cond.methodLink RJ2 67 yJ2_checkIndex_2214a, Cond.static yJ2_checkIndex_2214a, Cond.code yJ2_checkIndex_2214a cJ2_checkIndex_2214a 2 none, Cond.methodLink RJ2 48 yJ2_length_9d52b, Cond.static yJ2_length_9d52b, Cond.code yJ2_length_9d52b cJ2_length_9d52b 1 (some .int)]
def wsX4_cell_r3 : List Cond := [Cond.methodLink RJ2 414 yJ0_checkIndex_df160, Cond.methodLink RJ2 71 yJ2_getChar_3b067, Cond.static yJ2_getChar_3b067, Cond.code yJ2_getChar_3b067 cJ2_getChar_3b067 2 (some .char), Cond.fieldLink RJ2 44 "java/lang/StringUTF16" "$assertionsDisabled" "Z", Cond.fieldLink RJ2 59 "java/lang/StringUTF16" "HI_BYTE_SHIFT" "I", Cond.fieldLink RJ2 63 "java/lang/StringUTF16" "LO_BYTE_SHIFT" "I"]
def wsX4_cell : List Cond := .code yX4_cell cX4_cell 3 (some .int) :: ((wsX4_cell_r1 ++ (wsX4_cell_r2 ++ wsX4_cell_r3)) ++ wsX40 ++ wsX20)
def wsX4_was : List Cond := .code yX4_was cX4_was 3 (some .int) :: ([.fieldLink RX4 19 "HillSlices" "hill" "LHillSlices$Hill;", .fieldLink RX4 81 "HillSlices$Hill" "generation" "I", .methodLink RX4 103 yX4_isSector, .static yX4_isSector, .initialized RX4, .code yX4_isSector cX4_isSector 1 (some .boolean), .methodLink RX4 116 yX2_ownerBehind, .instanceMethod yX2_ownerBehind, .selects RX2 yX2_ownerBehind yX2_ownerBehind, .initialized RX2, .code yX2_ownerBehind cX2_ownerBehind 3 (some .int), .fieldLink RX2 15 "HillSlices$Hill" "owners" "[I"] ++ wsX40 ++ wsX20)
def wsX4_has : List Cond := .code yX4_has cX4_has 2 (some .int) :: ([.fieldLink RX4 19 "HillSlices" "hill" "LHillSlices$Hill;", .methodLink RX4 119 yX4_isHeir, .static yX4_isHeir, .initialized RX4, .code yX4_isHeir cX4_isHeir 1 (some .boolean), .methodLink RX4 122 yX2_sectorsOf, .instanceMethod yX2_sectorsOf, .selects RX2 yX2_sectorsOf yX2_sectorsOf, .initialized RX2, .code yX2_sectorsOf cX2_sectorsOf 4 (some .int), .methodLink RX2 50 yX2_ownerOf, .instanceMethod yX2_ownerOf, .selects RX2 yX2_ownerOf yX2_ownerOf, .code yX2_ownerOf cX2_ownerOf 2 (some .int), .fieldLink RX2 40 "HillSlices$Hill" "generation" "I", .methodLink RX2 47 yX2_ownerBehind, .instanceMethod yX2_ownerBehind, .selects RX2 yX2_ownerBehind yX2_ownerBehind, .code yX2_ownerBehind cX2_ownerBehind 3 (some .int), .fieldLink RX2 15 "HillSlices$Hill" "owners" "[I"] ++ wsX40 ++ wsX20)
def wsX4_sortOfCode_r1 : List Cond := [Cond.methodLink RX4 204 yJ0_indexOf_0f7a4, Cond.instanceMethod yJ0_indexOf_0f7a4, Cond.selects RJ0 yJ0_indexOf_0f7a4 yJ0_indexOf_0f7a4, Cond.initialized RJ0, Cond.code yJ0_indexOf_0f7a4 cJ0_indexOf_0f7a4 2 (some .int), Cond.methodLink RJ0 633 yJ0_indexOf_7cf53, Cond.instanceMethod yJ0_indexOf_7cf53, Cond.selects RJ0 yJ0_indexOf_7cf53 yJ0_indexOf_7cf53, Cond.code yJ0_indexOf_7cf53 cJ0_indexOf_7cf53 3 (some .int), Cond.fieldLink RJ0 9 "java/lang/String" "value" "[B", Cond.methodLink RJ0 492 yJ0_isLatin1_aae02, Cond.instanceMethod yJ0_isLatin1_aae02, Cond.selects RJ0 yJ0_isLatin1_aae02 yJ0_isLatin1_aae02, Cond.code yJ0_isLatin1_aae02 cJ0_isLatin1_aae02 1 (some .boolean), Cond.fieldLink RJ0 38 "java/lang/String" "COMPACT_STRINGS" "Z", Cond.fieldLink RJ0 15 "java/lang/String" "coder" "B", Cond.methodLink RJ0 505 yJ0_length_8abf5, Cond.instanceMethod yJ0_length_8abf5, Cond.selects RJ0 yJ0_length_8abf5 yJ0_length_8abf5, Cond.code yJ0_length_8abf5 cJ0_length_8abf5 1 (some .int), Cond.methodLink RJ0 335 yJ0_coder_7d493, Cond.instanceMethod yJ0_coder_7d493, Cond.selects RJ0 yJ0_coder_7d493 yJ0_coder_7d493, Cond.code yJ0_coder_7d493 cJ0_coder_7d493 1 (some .byte)]
def wsX4_sortOfCode_r2 : List Cond := [Cond.methodLink RJ0 637 yJ1_indexOf_4cfef, Cond.static yJ1_indexOf_4cfef, Cond.initialized RJ1, Cond.code yJ1_indexOf_4cfef cJ1_indexOf_4cfef 4 (some .int), Cond.methodLink RJ1 92 Lib.Math.max.name, Cond.static Lib.Math.max.name, Cond.initialized "java/lang/Math", Cond.code Lib.Math.max.name Lib.Math.max.code 2 (some .int), Cond.methodLink RJ1 38 Lib.Math.min.name, Cond.static Lib.Math.min.name, Cond.code Lib.Math.min.name Lib.Math.min.code 2 (some .int), Cond.methodLink RJ1 88 yJ1_canEncode_9a6ad, Cond.static yJ1_canEncode_9a6ad, Cond.code yJ1_canEncode_9a6ad cJ1_canEncode_9a6ad 1 (some .boolean), Cond.methodLink RJ1 95 yJ1_indexOfChar_4cfef, Cond.static yJ1_indexOfChar_4cfef, Cond.code yJ1_indexOfChar_4cfef cJ1_indexOfChar_4cfef 6 (some .int), Cond.methodLink RJ0 640 yJ2_indexOf_4cfef, Cond.static yJ2_indexOf_4cfef, Cond.initialized RJ2, Cond.code yJ2_indexOf_4cfef cJ2_indexOf_4cfef 4 (some .int), Cond.methodLink RJ2 224 Lib.Math.max.name, Cond.methodLink RJ2 183 Lib.Math.min.name, Cond.constant RJ2 227 (65536)]
def wsX4_sortOfCode_r3 : List Cond := [Cond.methodLink RJ2 228 yJ2_indexOfChar_4cfef, Cond.static yJ2_indexOfChar_4cfef, Cond.code yJ2_indexOfChar_4cfef cJ2_indexOfChar_4cfef 4 (some .int), Cond.methodLink RJ2 96 yJ2_checkBoundsBeginEnd_d044e, Cond.static yJ2_checkBoundsBeginEnd_d044e, Cond.code yJ2_checkBoundsBeginEnd_d044e cJ2_checkBoundsBeginEnd_d044e 3 none, Cond.methodLink RJ2 48 yJ2_length_9d52b, Cond.static yJ2_length_9d52b, Cond.code yJ2_length_9d52b cJ2_length_9d52b 1 (some .int), Cond.methodLink RJ2 241 yJ0_checkBoundsBeginEnd_23922, Cond.static yJ0_checkBoundsBeginEnd_23922, Cond.code yJ0_checkBoundsBeginEnd_23922 cJ0_checkBoundsBeginEnd_23922 3 none, Cond.fieldLink RJ0 1053 "jdk/internal/util/Preconditions" "SIOOBE_FORMATTER" "Ljava/util/function/BiFunction;", Cond.methodLink RJ0 1062 yJ3_checkFromToIndex_8c36e, Cond.static yJ3_checkFromToIndex_8c36e, Cond.initialized RJ3, Cond.code yJ3_checkFromToIndex_8c36e cJ3_checkFromToIndex_8c36e 4 (some .int), Cond.methodLink RJ2 244 yJ2_indexOfCharUnsafe_4cfef, Cond.static yJ2_indexOfCharUnsafe_4cfef, Cond.code yJ2_indexOfCharUnsafe_4cfef cJ2_indexOfCharUnsafe_4cfef 5 (some .int), Cond.methodLink RJ2 71 yJ2_getChar_3b067, Cond.static yJ2_getChar_3b067, Cond.code yJ2_getChar_3b067 cJ2_getChar_3b067 2 (some .char), Cond.fieldLink RJ2 44 "java/lang/StringUTF16" "$assertionsDisabled" "Z"]
def wsX4_sortOfCode_r4 : List Cond := [Cond.fieldLink RJ2 59 "java/lang/StringUTF16" "HI_BYTE_SHIFT" "I", Cond.fieldLink RJ2 63 "java/lang/StringUTF16" "LO_BYTE_SHIFT" "I", Cond.methodLink RJ2 232 yJ2_indexOfSupplementary_4cfef, Cond.static yJ2_indexOfSupplementary_4cfef, Cond.code yJ2_indexOfSupplementary_4cfef cJ2_indexOfSupplementary_4cfef 7 (some .int), Cond.methodLink RJ2 164 yJ11_isValidCodePoint_9a6ad, Cond.static yJ11_isValidCodePoint_9a6ad, Cond.initialized RJ11, Cond.code yJ11_isValidCodePoint_9a6ad cJ11_isValidCodePoint_9a6ad 2 (some .boolean), Cond.methodLink RJ2 157 yJ11_highSurrogate_5068e, Cond.static yJ11_highSurrogate_5068e, Cond.code yJ11_highSurrogate_5068e cJ11_highSurrogate_5068e 1 (some .char), Cond.constant RJ11 110 (55232), Cond.methodLink RJ2 161 yJ11_lowSurrogate_5068e, Cond.static yJ11_lowSurrogate_5068e, Cond.code yJ11_lowSurrogate_5068e cJ11_lowSurrogate_5068e 1 (some .char), Cond.constant RJ11 76 (56320)]
def wsX4_sortOfCode : List Cond := .code yX4_sortOfCode cX4_sortOfCode 1 (some .int) :: ((wsX4_sortOfCode_r1 ++ (wsX4_sortOfCode_r2 ++ (wsX4_sortOfCode_r3 ++ wsX4_sortOfCode_r4))))
def wsX4_worth_r1 : List Cond := [Cond.fieldLink RX4 19 "HillSlices" "hill" "LHillSlices$Hill;", Cond.methodLink RX4 119 yX4_isHeir, Cond.static yX4_isHeir, Cond.initialized RX4, Cond.code yX4_isHeir cX4_isHeir 1 (some .boolean), Cond.methodLink RX4 125 yX4_sortOfCode, Cond.static yX4_sortOfCode, Cond.code yX4_sortOfCode cX4_sortOfCode 1 (some .int), Cond.methodLink RX4 204 yJ0_indexOf_0f7a4, Cond.instanceMethod yJ0_indexOf_0f7a4, Cond.selects RJ0 yJ0_indexOf_0f7a4 yJ0_indexOf_0f7a4, Cond.initialized RJ0, Cond.code yJ0_indexOf_0f7a4 cJ0_indexOf_0f7a4 2 (some .int), Cond.methodLink RJ0 633 yJ0_indexOf_7cf53, Cond.instanceMethod yJ0_indexOf_7cf53, Cond.selects RJ0 yJ0_indexOf_7cf53 yJ0_indexOf_7cf53, Cond.code yJ0_indexOf_7cf53 cJ0_indexOf_7cf53 3 (some .int), Cond.fieldLink RJ0 9 "java/lang/String" "value" "[B", Cond.methodLink RJ0 492 yJ0_isLatin1_aae02, Cond.instanceMethod yJ0_isLatin1_aae02, Cond.selects RJ0 yJ0_isLatin1_aae02 yJ0_isLatin1_aae02, Cond.code yJ0_isLatin1_aae02 cJ0_isLatin1_aae02 1 (some .boolean), Cond.fieldLink RJ0 38 "java/lang/String" "COMPACT_STRINGS" "Z", Cond.fieldLink RJ0 15 "java/lang/String" "coder" "B"]
def wsX4_worth_r2 : List Cond := [Cond.methodLink RJ0 505 yJ0_length_8abf5, Cond.instanceMethod yJ0_length_8abf5, Cond.selects RJ0 yJ0_length_8abf5 yJ0_length_8abf5, Cond.code yJ0_length_8abf5 cJ0_length_8abf5 1 (some .int), Cond.methodLink RJ0 335 yJ0_coder_7d493, Cond.instanceMethod yJ0_coder_7d493, Cond.selects RJ0 yJ0_coder_7d493 yJ0_coder_7d493, Cond.code yJ0_coder_7d493 cJ0_coder_7d493 1 (some .byte), Cond.methodLink RJ0 637 yJ1_indexOf_4cfef, Cond.static yJ1_indexOf_4cfef, Cond.initialized RJ1, Cond.code yJ1_indexOf_4cfef cJ1_indexOf_4cfef 4 (some .int), Cond.methodLink RJ1 92 Lib.Math.max.name, Cond.static Lib.Math.max.name, Cond.initialized "java/lang/Math", Cond.code Lib.Math.max.name Lib.Math.max.code 2 (some .int), Cond.methodLink RJ1 38 Lib.Math.min.name, Cond.static Lib.Math.min.name, Cond.code Lib.Math.min.name Lib.Math.min.code 2 (some .int), Cond.methodLink RJ1 88 yJ1_canEncode_9a6ad, Cond.static yJ1_canEncode_9a6ad, Cond.code yJ1_canEncode_9a6ad cJ1_canEncode_9a6ad 1 (some .boolean), Cond.methodLink RJ1 95 yJ1_indexOfChar_4cfef, Cond.static yJ1_indexOfChar_4cfef]
def wsX4_worth_r3 : List Cond := [Cond.code yJ1_indexOfChar_4cfef cJ1_indexOfChar_4cfef 6 (some .int), Cond.methodLink RJ0 640 yJ2_indexOf_4cfef, Cond.static yJ2_indexOf_4cfef, Cond.initialized RJ2, Cond.code yJ2_indexOf_4cfef cJ2_indexOf_4cfef 4 (some .int), Cond.methodLink RJ2 224 Lib.Math.max.name, Cond.methodLink RJ2 183 Lib.Math.min.name, Cond.constant RJ2 227 (65536), Cond.methodLink RJ2 228 yJ2_indexOfChar_4cfef, Cond.static yJ2_indexOfChar_4cfef, Cond.code yJ2_indexOfChar_4cfef cJ2_indexOfChar_4cfef 4 (some .int), Cond.methodLink RJ2 96 yJ2_checkBoundsBeginEnd_d044e, Cond.static yJ2_checkBoundsBeginEnd_d044e, Cond.code yJ2_checkBoundsBeginEnd_d044e cJ2_checkBoundsBeginEnd_d044e 3 none, Cond.methodLink RJ2 48 yJ2_length_9d52b, Cond.static yJ2_length_9d52b, Cond.code yJ2_length_9d52b cJ2_length_9d52b 1 (some .int), Cond.methodLink RJ2 241 yJ0_checkBoundsBeginEnd_23922, Cond.static yJ0_checkBoundsBeginEnd_23922, Cond.code yJ0_checkBoundsBeginEnd_23922 cJ0_checkBoundsBeginEnd_23922 3 none, Cond.fieldLink RJ0 1053 "jdk/internal/util/Preconditions" "SIOOBE_FORMATTER" "Ljava/util/function/BiFunction;", Cond.methodLink RJ0 1062 yJ3_checkFromToIndex_8c36e, Cond.static yJ3_checkFromToIndex_8c36e, Cond.initialized RJ3]
def wsX4_worth_r4 : List Cond := [Cond.code yJ3_checkFromToIndex_8c36e cJ3_checkFromToIndex_8c36e 4 (some .int), Cond.methodLink RJ2 244 yJ2_indexOfCharUnsafe_4cfef, Cond.static yJ2_indexOfCharUnsafe_4cfef, Cond.code yJ2_indexOfCharUnsafe_4cfef cJ2_indexOfCharUnsafe_4cfef 5 (some .int), Cond.methodLink RJ2 71 yJ2_getChar_3b067, Cond.static yJ2_getChar_3b067, Cond.code yJ2_getChar_3b067 cJ2_getChar_3b067 2 (some .char), Cond.fieldLink RJ2 44 "java/lang/StringUTF16" "$assertionsDisabled" "Z", Cond.fieldLink RJ2 59 "java/lang/StringUTF16" "HI_BYTE_SHIFT" "I", Cond.fieldLink RJ2 63 "java/lang/StringUTF16" "LO_BYTE_SHIFT" "I", Cond.methodLink RJ2 232 yJ2_indexOfSupplementary_4cfef, Cond.static yJ2_indexOfSupplementary_4cfef, Cond.code yJ2_indexOfSupplementary_4cfef cJ2_indexOfSupplementary_4cfef 7 (some .int), Cond.methodLink RJ2 164 yJ11_isValidCodePoint_9a6ad, Cond.static yJ11_isValidCodePoint_9a6ad, Cond.initialized RJ11, Cond.code yJ11_isValidCodePoint_9a6ad cJ11_isValidCodePoint_9a6ad 2 (some .boolean), Cond.methodLink RJ2 157 yJ11_highSurrogate_5068e, Cond.static yJ11_highSurrogate_5068e, Cond.code yJ11_highSurrogate_5068e cJ11_highSurrogate_5068e 1 (some .char), Cond.constant RJ11 110 (55232), Cond.methodLink RJ2 161 yJ11_lowSurrogate_5068e, Cond.static yJ11_lowSurrogate_5068e, Cond.code yJ11_lowSurrogate_5068e cJ11_lowSurrogate_5068e 1 (some .char)]
def wsX4_worth_r5 : List Cond := [Cond.constant RJ11 76 (56320), Cond.methodLink RX4 72 yX4_forgetCuts, Cond.instanceMethod yX4_forgetCuts, Cond.selects RX4 yX4_forgetCuts yX4_forgetCuts, Cond.code yX4_forgetCuts cX4_forgetCuts 1 none, Cond.fieldLink RX4 32 "HillSlices" "fairCut" "LHillSlices$Cut;", Cond.fieldLink RX4 36 "HillSlices" "bestCut" "LHillSlices$Cut;", Cond.methodLink RX4 222 yX0_forget, Cond.instanceMethod yX0_forget, Cond.selects RX0 yX0_forget yX0_forget, Cond.initialized RX0, Cond.code yX0_forget cX0_forget 1 none, Cond.fieldLink RX0 34 "HillSlices$Cut" "n" "I", Cond.methodLink RX4 128 yX2_setWorth, Cond.instanceMethod yX2_setWorth, Cond.selects RX2 yX2_setWorth yX2_setWorth, Cond.initialized RX2, Cond.code yX2_setWorth cX2_setWorth 5 (some .int), Cond.fieldLink RX2 18 "HillSlices$Hill" "worths" "[I"]
def wsX4_worth : List Cond := .code yX4_worth cX4_worth 5 (some .int) :: ((wsX4_worth_r1 ++ (wsX4_worth_r2 ++ (wsX4_worth_r3 ++ (wsX4_worth_r4 ++ wsX4_worth_r5)))) ++ wsX40 ++ wsX00 ++ wsX20)
def wsX4_share : List Cond := .code yX4_share cX4_share 3 (some .int) :: ([.constant RX4 132 (16777215), .fieldLink RX4 19 "HillSlices" "hill" "LHillSlices$Hill;", .methodLink RX4 119 yX4_isHeir, .static yX4_isHeir, .initialized RX4, .code yX4_isHeir cX4_isHeir 1 (some .boolean), .methodLink RX4 133 yX2_shareOf, .instanceMethod yX2_shareOf, .selects RX2 yX2_shareOf yX2_shareOf, .initialized RX2, .code yX2_shareOf cX2_shareOf 5 (some .int), .methodLink RX2 58 yX2_shareOfSector, .instanceMethod yX2_shareOfSector, .selects RX2 yX2_shareOfSector yX2_shareOfSector, .code yX2_shareOfSector cX2_shareOfSector 5 (some .int), .fieldLink RX2 18 "HillSlices$Hill" "worths" "[I", .methodLink RX2 43 yX2_sortAt, .instanceMethod yX2_sortAt, .selects RX2 yX2_sortAt yX2_sortAt, .code yX2_sortAt cX2_sortAt 3 (some .int), .fieldLink RX2 9 "HillSlices$Hill" "sorts" "[I"] ++ wsX40 ++ wsX20)
def wsX4_envies_r1 : List Cond := [Cond.fieldLink RX4 19 "HillSlices" "hill" "LHillSlices$Hill;", Cond.methodLink RX4 119 yX4_isHeir, Cond.static yX4_isHeir, Cond.initialized RX4, Cond.code yX4_isHeir cX4_isHeir 1 (some .boolean), Cond.methodLink RX4 122 yX2_sectorsOf, Cond.instanceMethod yX2_sectorsOf, Cond.selects RX2 yX2_sectorsOf yX2_sectorsOf, Cond.initialized RX2, Cond.code yX2_sectorsOf cX2_sectorsOf 4 (some .int), Cond.methodLink RX2 50 yX2_ownerOf, Cond.instanceMethod yX2_ownerOf, Cond.selects RX2 yX2_ownerOf yX2_ownerOf, Cond.code yX2_ownerOf cX2_ownerOf 2 (some .int), Cond.fieldLink RX2 40 "HillSlices$Hill" "generation" "I", Cond.methodLink RX2 47 yX2_ownerBehind, Cond.instanceMethod yX2_ownerBehind, Cond.selects RX2 yX2_ownerBehind yX2_ownerBehind, Cond.code yX2_ownerBehind cX2_ownerBehind 3 (some .int), Cond.fieldLink RX2 15 "HillSlices$Hill" "owners" "[I", Cond.methodLink RX4 133 yX2_shareOf, Cond.instanceMethod yX2_shareOf, Cond.selects RX2 yX2_shareOf yX2_shareOf, Cond.code yX2_shareOf cX2_shareOf 5 (some .int)]
def wsX4_envies_r2 : List Cond := [Cond.methodLink RX2 58 yX2_shareOfSector, Cond.instanceMethod yX2_shareOfSector, Cond.selects RX2 yX2_shareOfSector yX2_shareOfSector, Cond.code yX2_shareOfSector cX2_shareOfSector 5 (some .int), Cond.fieldLink RX2 18 "HillSlices$Hill" "worths" "[I", Cond.methodLink RX2 43 yX2_sortAt, Cond.instanceMethod yX2_sortAt, Cond.selects RX2 yX2_sortAt yX2_sortAt, Cond.code yX2_sortAt cX2_sortAt 3 (some .int), Cond.fieldLink RX2 9 "HillSlices$Hill" "sorts" "[I"]
def wsX4_envies : List Cond := .code yX4_envies cX4_envies 5 (some .int) :: ((wsX4_envies_r1 ++ wsX4_envies_r2) ++ wsX40 ++ wsX20)
def wsX4_answerOfCut_r1 : List Cond := [Cond.fieldLink RX4 19 "HillSlices" "hill" "LHillSlices$Hill;", Cond.methodLink RX4 215 yX0_searchAmong, Cond.instanceMethod yX0_searchAmong, Cond.selects RX0 yX0_searchAmong yX0_searchAmong, Cond.initialized RX0, Cond.code yX0_searchAmong cX0_searchAmong 6 none, Cond.fieldLink RX0 34 "HillSlices$Cut" "n" "I", Cond.fieldLink RX0 38 "HillSlices$Cut" "leastShare" "I", Cond.fieldLink RX0 18 "HillSlices$Cut" "begins" "[I", Cond.constant RX0 56 (1073741824), Cond.methodLink RX0 61 Lib.Math.min.name, Cond.static Lib.Math.min.name, Cond.initialized "java/lang/Math", Cond.code Lib.Math.min.name Lib.Math.min.code 2 (some .int), Cond.methodLink RX0 45 yX0_sumUp, Cond.instanceMethod yX0_sumUp, Cond.selects RX0 yX0_sumUp yX0_sumUp, Cond.code yX0_sumUp cX0_sumUp 5 none, Cond.fieldLink RX0 11 "HillSlices$Cut" "sums" "[I", Cond.methodLink RX0 71 yX2_shareOfSector, Cond.instanceMethod yX2_shareOfSector, Cond.selects RX2 yX2_shareOfSector yX2_shareOfSector, Cond.initialized RX2, Cond.code yX2_shareOfSector cX2_shareOfSector 5 (some .int)]
def wsX4_answerOfCut_r2 : List Cond := [Cond.fieldLink RX2 18 "HillSlices$Hill" "worths" "[I", Cond.methodLink RX2 43 yX2_sortAt, Cond.instanceMethod yX2_sortAt, Cond.selects RX2 yX2_sortAt yX2_sortAt, Cond.code yX2_sortAt cX2_sortAt 3 (some .int), Cond.fieldLink RX2 9 "HillSlices$Hill" "sorts" "[I", Cond.methodLink RX0 49 yX0_isSettled, Cond.instanceMethod yX0_isSettled, Cond.selects RX0 yX0_isSettled yX0_isSettled, Cond.code yX0_isSettled cX0_isSettled 1 (some .boolean), Cond.fieldLink RX0 30 "HillSlices$Cut" "fair" "Z", Cond.methodLink RX0 41 yX0_isFound, Cond.instanceMethod yX0_isFound, Cond.selects RX0 yX0_isFound yX0_isFound, Cond.code yX0_isFound cX0_isFound 1 (some .boolean), Cond.methodLink RX0 52 yX0_firstArcOfNoUse, Cond.instanceMethod yX0_firstArcOfNoUse, Cond.selects RX0 yX0_firstArcOfNoUse yX0_firstArcOfNoUse, Cond.code yX0_firstArcOfNoUse cX0_firstArcOfNoUse 2 (some .int), Cond.methodLink RX0 76 yX0_noteShares, Cond.instanceMethod yX0_noteShares, Cond.selects RX0 yX0_noteShares yX0_noteShares, Cond.code yX0_noteShares cX0_noteShares 6 (some .boolean), Cond.fieldLink RX0 15 "HillSlices$Cut" "shares" "[I"]
def wsX4_answerOfCut_r3 : List Cond := [Cond.methodLink RX0 79 yX0_isEnough, Cond.instanceMethod yX0_isEnough, Cond.selects RX0 yX0_isEnough yX0_isEnough, Cond.code yX0_isEnough cX0_isEnough 3 (some .boolean), Cond.methodLink RX0 57 yX0_chooseHeirs, Cond.instanceMethod yX0_chooseHeirs, Cond.selects RX0 yX0_chooseHeirs yX0_chooseHeirs, Cond.code yX0_chooseHeirs cX0_chooseHeirs 8 none, Cond.fieldLink RX0 21 "HillSlices$Cut" "heirs" "[I", Cond.methodLink RX0 83 yX0_isEnvious, Cond.instanceMethod yX0_isEnvious, Cond.selects RX0 yX0_isEnvious yX0_isEnvious, Cond.code yX0_isEnvious cX0_isEnvious 5 (some .boolean), Cond.methodLink RX0 86 yX0_chooseBehind, Cond.instanceMethod yX0_chooseBehind, Cond.selects RX0 yX0_chooseBehind yX0_chooseBehind, Cond.code yX0_chooseBehind cX0_chooseBehind 4 none, Cond.methodLink RX0 89 yX0_keep, Cond.instanceMethod yX0_keep, Cond.selects RX0 yX0_keep yX0_keep, Cond.code yX0_keep cX0_keep 2 none, Cond.fieldLink RX0 24 "HillSlices$Cut" "foundBegins" "[I", Cond.methodLink RX0 93 arraycopyName, Cond.native arraycopyName]
def wsX4_answerOfCut_r4 : List Cond := [Cond.static arraycopyName, Cond.initialized "java/lang/System", Cond.fieldLink RX0 27 "HillSlices$Cut" "foundHeirs" "[I", Cond.methodLink RX0 67 yX0_stepBounds, Cond.instanceMethod yX0_stepBounds, Cond.selects RX0 yX0_stepBounds yX0_stepBounds, Cond.code yX0_stepBounds cX0_stepBounds 4 (some .boolean), Cond.methodLink RX4 219 yX0_answer, Cond.instanceMethod yX0_answer, Cond.selects RX0 yX0_answer yX0_answer, Cond.code yX0_answer cX0_answer 2 (some .int)]
def wsX4_answerOfCut : List Cond := .code yX4_answerOfCut cX4_answerOfCut 4 (some .int) :: ((wsX4_answerOfCut_r1 ++ (wsX4_answerOfCut_r2 ++ (wsX4_answerOfCut_r3 ++ wsX4_answerOfCut_r4))) ++ wsX40 ++ wsX00 ++ wsX20)
def wsX4_fair_r1 : List Cond := [Cond.fieldLink RX4 32 "HillSlices" "fairCut" "LHillSlices$Cut;", Cond.methodLink RX4 136 yX4_answerOfCut, Cond.instanceMethod yX4_answerOfCut, Cond.selects RX4 yX4_answerOfCut yX4_answerOfCut, Cond.initialized RX4, Cond.code yX4_answerOfCut cX4_answerOfCut 4 (some .int), Cond.fieldLink RX4 19 "HillSlices" "hill" "LHillSlices$Hill;", Cond.methodLink RX4 215 yX0_searchAmong, Cond.instanceMethod yX0_searchAmong, Cond.selects RX0 yX0_searchAmong yX0_searchAmong, Cond.initialized RX0, Cond.code yX0_searchAmong cX0_searchAmong 6 none, Cond.fieldLink RX0 34 "HillSlices$Cut" "n" "I", Cond.fieldLink RX0 38 "HillSlices$Cut" "leastShare" "I", Cond.fieldLink RX0 18 "HillSlices$Cut" "begins" "[I", Cond.constant RX0 56 (1073741824), Cond.methodLink RX0 61 Lib.Math.min.name, Cond.static Lib.Math.min.name, Cond.initialized "java/lang/Math", Cond.code Lib.Math.min.name Lib.Math.min.code 2 (some .int), Cond.methodLink RX0 45 yX0_sumUp, Cond.instanceMethod yX0_sumUp, Cond.selects RX0 yX0_sumUp yX0_sumUp, Cond.code yX0_sumUp cX0_sumUp 5 none]
def wsX4_fair_r2 : List Cond := [Cond.fieldLink RX0 11 "HillSlices$Cut" "sums" "[I", Cond.methodLink RX0 71 yX2_shareOfSector, Cond.instanceMethod yX2_shareOfSector, Cond.selects RX2 yX2_shareOfSector yX2_shareOfSector, Cond.initialized RX2, Cond.code yX2_shareOfSector cX2_shareOfSector 5 (some .int), Cond.fieldLink RX2 18 "HillSlices$Hill" "worths" "[I", Cond.methodLink RX2 43 yX2_sortAt, Cond.instanceMethod yX2_sortAt, Cond.selects RX2 yX2_sortAt yX2_sortAt, Cond.code yX2_sortAt cX2_sortAt 3 (some .int), Cond.fieldLink RX2 9 "HillSlices$Hill" "sorts" "[I", Cond.methodLink RX0 49 yX0_isSettled, Cond.instanceMethod yX0_isSettled, Cond.selects RX0 yX0_isSettled yX0_isSettled, Cond.code yX0_isSettled cX0_isSettled 1 (some .boolean), Cond.fieldLink RX0 30 "HillSlices$Cut" "fair" "Z", Cond.methodLink RX0 41 yX0_isFound, Cond.instanceMethod yX0_isFound, Cond.selects RX0 yX0_isFound yX0_isFound, Cond.code yX0_isFound cX0_isFound 1 (some .boolean), Cond.methodLink RX0 52 yX0_firstArcOfNoUse, Cond.instanceMethod yX0_firstArcOfNoUse, Cond.selects RX0 yX0_firstArcOfNoUse yX0_firstArcOfNoUse]
def wsX4_fair_r3 : List Cond := [Cond.code yX0_firstArcOfNoUse cX0_firstArcOfNoUse 2 (some .int), Cond.methodLink RX0 76 yX0_noteShares, Cond.instanceMethod yX0_noteShares, Cond.selects RX0 yX0_noteShares yX0_noteShares, Cond.code yX0_noteShares cX0_noteShares 6 (some .boolean), Cond.fieldLink RX0 15 "HillSlices$Cut" "shares" "[I", Cond.methodLink RX0 79 yX0_isEnough, Cond.instanceMethod yX0_isEnough, Cond.selects RX0 yX0_isEnough yX0_isEnough, Cond.code yX0_isEnough cX0_isEnough 3 (some .boolean), Cond.methodLink RX0 57 yX0_chooseHeirs, Cond.instanceMethod yX0_chooseHeirs, Cond.selects RX0 yX0_chooseHeirs yX0_chooseHeirs, Cond.code yX0_chooseHeirs cX0_chooseHeirs 8 none, Cond.fieldLink RX0 21 "HillSlices$Cut" "heirs" "[I", Cond.methodLink RX0 83 yX0_isEnvious, Cond.instanceMethod yX0_isEnvious, Cond.selects RX0 yX0_isEnvious yX0_isEnvious, Cond.code yX0_isEnvious cX0_isEnvious 5 (some .boolean), Cond.methodLink RX0 86 yX0_chooseBehind, Cond.instanceMethod yX0_chooseBehind, Cond.selects RX0 yX0_chooseBehind yX0_chooseBehind, Cond.code yX0_chooseBehind cX0_chooseBehind 4 none, Cond.methodLink RX0 89 yX0_keep]
def wsX4_fair_r4 : List Cond := [Cond.instanceMethod yX0_keep, Cond.selects RX0 yX0_keep yX0_keep, Cond.code yX0_keep cX0_keep 2 none, Cond.fieldLink RX0 24 "HillSlices$Cut" "foundBegins" "[I", Cond.methodLink RX0 93 arraycopyName, Cond.native arraycopyName, Cond.static arraycopyName, Cond.initialized "java/lang/System", Cond.fieldLink RX0 27 "HillSlices$Cut" "foundHeirs" "[I", Cond.methodLink RX0 67 yX0_stepBounds, Cond.instanceMethod yX0_stepBounds, Cond.selects RX0 yX0_stepBounds yX0_stepBounds, Cond.code yX0_stepBounds cX0_stepBounds 4 (some .boolean), Cond.methodLink RX4 219 yX0_answer, Cond.instanceMethod yX0_answer, Cond.selects RX0 yX0_answer yX0_answer, Cond.code yX0_answer cX0_answer 2 (some .int)]
def wsX4_fair : List Cond := .code yX4_fair cX4_fair 3 (some .int) :: ((wsX4_fair_r1 ++ (wsX4_fair_r2 ++ (wsX4_fair_r3 ++ wsX4_fair_r4))) ++ wsX40 ++ wsX00 ++ wsX20)
def wsX4_best_r1 : List Cond := [Cond.fieldLink RX4 36 "HillSlices" "bestCut" "LHillSlices$Cut;", Cond.methodLink RX4 136 yX4_answerOfCut, Cond.instanceMethod yX4_answerOfCut, Cond.selects RX4 yX4_answerOfCut yX4_answerOfCut, Cond.initialized RX4, Cond.code yX4_answerOfCut cX4_answerOfCut 4 (some .int), Cond.fieldLink RX4 19 "HillSlices" "hill" "LHillSlices$Hill;", Cond.methodLink RX4 215 yX0_searchAmong, Cond.instanceMethod yX0_searchAmong, Cond.selects RX0 yX0_searchAmong yX0_searchAmong, Cond.initialized RX0, Cond.code yX0_searchAmong cX0_searchAmong 6 none, Cond.fieldLink RX0 34 "HillSlices$Cut" "n" "I", Cond.fieldLink RX0 38 "HillSlices$Cut" "leastShare" "I", Cond.fieldLink RX0 18 "HillSlices$Cut" "begins" "[I", Cond.constant RX0 56 (1073741824), Cond.methodLink RX0 61 Lib.Math.min.name, Cond.static Lib.Math.min.name, Cond.initialized "java/lang/Math", Cond.code Lib.Math.min.name Lib.Math.min.code 2 (some .int), Cond.methodLink RX0 45 yX0_sumUp, Cond.instanceMethod yX0_sumUp, Cond.selects RX0 yX0_sumUp yX0_sumUp, Cond.code yX0_sumUp cX0_sumUp 5 none]
def wsX4_best_r2 : List Cond := [Cond.fieldLink RX0 11 "HillSlices$Cut" "sums" "[I", Cond.methodLink RX0 71 yX2_shareOfSector, Cond.instanceMethod yX2_shareOfSector, Cond.selects RX2 yX2_shareOfSector yX2_shareOfSector, Cond.initialized RX2, Cond.code yX2_shareOfSector cX2_shareOfSector 5 (some .int), Cond.fieldLink RX2 18 "HillSlices$Hill" "worths" "[I", Cond.methodLink RX2 43 yX2_sortAt, Cond.instanceMethod yX2_sortAt, Cond.selects RX2 yX2_sortAt yX2_sortAt, Cond.code yX2_sortAt cX2_sortAt 3 (some .int), Cond.fieldLink RX2 9 "HillSlices$Hill" "sorts" "[I", Cond.methodLink RX0 49 yX0_isSettled, Cond.instanceMethod yX0_isSettled, Cond.selects RX0 yX0_isSettled yX0_isSettled, Cond.code yX0_isSettled cX0_isSettled 1 (some .boolean), Cond.fieldLink RX0 30 "HillSlices$Cut" "fair" "Z", Cond.methodLink RX0 41 yX0_isFound, Cond.instanceMethod yX0_isFound, Cond.selects RX0 yX0_isFound yX0_isFound, Cond.code yX0_isFound cX0_isFound 1 (some .boolean), Cond.methodLink RX0 52 yX0_firstArcOfNoUse, Cond.instanceMethod yX0_firstArcOfNoUse, Cond.selects RX0 yX0_firstArcOfNoUse yX0_firstArcOfNoUse]
def wsX4_best_r3 : List Cond := [Cond.code yX0_firstArcOfNoUse cX0_firstArcOfNoUse 2 (some .int), Cond.methodLink RX0 76 yX0_noteShares, Cond.instanceMethod yX0_noteShares, Cond.selects RX0 yX0_noteShares yX0_noteShares, Cond.code yX0_noteShares cX0_noteShares 6 (some .boolean), Cond.fieldLink RX0 15 "HillSlices$Cut" "shares" "[I", Cond.methodLink RX0 79 yX0_isEnough, Cond.instanceMethod yX0_isEnough, Cond.selects RX0 yX0_isEnough yX0_isEnough, Cond.code yX0_isEnough cX0_isEnough 3 (some .boolean), Cond.methodLink RX0 57 yX0_chooseHeirs, Cond.instanceMethod yX0_chooseHeirs, Cond.selects RX0 yX0_chooseHeirs yX0_chooseHeirs, Cond.code yX0_chooseHeirs cX0_chooseHeirs 8 none, Cond.fieldLink RX0 21 "HillSlices$Cut" "heirs" "[I", Cond.methodLink RX0 83 yX0_isEnvious, Cond.instanceMethod yX0_isEnvious, Cond.selects RX0 yX0_isEnvious yX0_isEnvious, Cond.code yX0_isEnvious cX0_isEnvious 5 (some .boolean), Cond.methodLink RX0 86 yX0_chooseBehind, Cond.instanceMethod yX0_chooseBehind, Cond.selects RX0 yX0_chooseBehind yX0_chooseBehind, Cond.code yX0_chooseBehind cX0_chooseBehind 4 none, Cond.methodLink RX0 89 yX0_keep]
def wsX4_best_r4 : List Cond := [Cond.instanceMethod yX0_keep, Cond.selects RX0 yX0_keep yX0_keep, Cond.code yX0_keep cX0_keep 2 none, Cond.fieldLink RX0 24 "HillSlices$Cut" "foundBegins" "[I", Cond.methodLink RX0 93 arraycopyName, Cond.native arraycopyName, Cond.static arraycopyName, Cond.initialized "java/lang/System", Cond.fieldLink RX0 27 "HillSlices$Cut" "foundHeirs" "[I", Cond.methodLink RX0 67 yX0_stepBounds, Cond.instanceMethod yX0_stepBounds, Cond.selects RX0 yX0_stepBounds yX0_stepBounds, Cond.code yX0_stepBounds cX0_stepBounds 4 (some .boolean), Cond.methodLink RX4 219 yX0_answer, Cond.instanceMethod yX0_answer, Cond.selects RX0 yX0_answer yX0_answer, Cond.code yX0_answer cX0_answer 2 (some .int)]
def wsX4_best : List Cond := .code yX4_best cX4_best 3 (some .int) :: ((wsX4_best_r1 ++ (wsX4_best_r2 ++ (wsX4_best_r3 ++ wsX4_best_r4))) ++ wsX40 ++ wsX00 ++ wsX20)
def wsX4_toll : List Cond := .code yX4_toll cX4_toll 3 (some .int) :: ([.fieldLink RX4 19 "HillSlices" "hill" "LHillSlices$Hill;", .fieldLink RX4 140 "HillSlices$Hill" "toll" "I"] ++ wsX40 ++ wsX20)
def wsX4_right : List Cond := .code yX4_right cX4_right 4 (some .int) :: ([.fieldLink RX4 19 "HillSlices" "hill" "LHillSlices$Hill;", .methodLink RX4 95 yX4_areTwoHeirs, .static yX4_areTwoHeirs, .initialized RX4, .code yX4_areTwoHeirs cX4_areTwoHeirs 2 (some .boolean), .methodLink RX4 119 yX4_isHeir, .static yX4_isHeir, .code yX4_isHeir cX4_isHeir 1 (some .boolean), .methodLink RX4 143 yX2_setRight, .instanceMethod yX2_setRight, .selects RX2 yX2_setRight yX2_setRight, .initialized RX2, .code yX2_setRight cX2_setRight 6 (some .boolean), .fieldLink RX2 21 "HillSlices$Hill" "gave" "[I", .methodLink RX2 61 yX2_hasRight, .instanceMethod yX2_hasRight, .selects RX2 yX2_hasRight yX2_hasRight, .code yX2_hasRight cX2_hasRight 3 (some .boolean)] ++ wsX40 ++ wsX20)
def wsX4_costOfClimb : List Cond := .code yX4_costOfClimb cX4_costOfClimb 1 (some .int) :: ([])
def wsX4_costOfRound : List Cond := .code yX4_costOfRound cX4_costOfRound 7 (some .int) :: ([.fieldLink RX4 19 "HillSlices" "hill" "LHillSlices$Hill;", .fieldLink RX4 140 "HillSlices$Hill" "toll" "I", .methodLink RX4 243 yX2_isFreeFor, .instanceMethod yX2_isFreeFor, .selects RX2 yX2_isFreeFor yX2_isFreeFor, .initialized RX2, .code yX2_isFreeFor cX2_isFreeFor 4 (some .boolean), .methodLink RX2 50 yX2_ownerOf, .instanceMethod yX2_ownerOf, .selects RX2 yX2_ownerOf yX2_ownerOf, .code yX2_ownerOf cX2_ownerOf 2 (some .int), .fieldLink RX2 40 "HillSlices$Hill" "generation" "I", .methodLink RX2 47 yX2_ownerBehind, .instanceMethod yX2_ownerBehind, .selects RX2 yX2_ownerBehind yX2_ownerBehind, .code yX2_ownerBehind cX2_ownerBehind 3 (some .int), .fieldLink RX2 15 "HillSlices$Hill" "owners" "[I", .methodLink RX2 61 yX2_hasRight, .instanceMethod yX2_hasRight, .selects RX2 yX2_hasRight yX2_hasRight, .code yX2_hasRight cX2_hasRight 3 (some .boolean), .fieldLink RX2 21 "HillSlices$Hill" "gave" "[I"] ++ wsX40 ++ wsX20)
def wsX4_costOfWay_r1 : List Cond := [Cond.methodLink RX4 237 yX4_costOfClimb, Cond.static yX4_costOfClimb, Cond.initialized RX4, Cond.code yX4_costOfClimb cX4_costOfClimb 1 (some .int), Cond.methodLink RX4 240 yX4_costOfRound, Cond.instanceMethod yX4_costOfRound, Cond.selects RX4 yX4_costOfRound yX4_costOfRound, Cond.code yX4_costOfRound cX4_costOfRound 7 (some .int), Cond.fieldLink RX4 19 "HillSlices" "hill" "LHillSlices$Hill;", Cond.fieldLink RX4 140 "HillSlices$Hill" "toll" "I", Cond.methodLink RX4 243 yX2_isFreeFor, Cond.instanceMethod yX2_isFreeFor, Cond.selects RX2 yX2_isFreeFor yX2_isFreeFor, Cond.initialized RX2, Cond.code yX2_isFreeFor cX2_isFreeFor 4 (some .boolean), Cond.methodLink RX2 50 yX2_ownerOf, Cond.instanceMethod yX2_ownerOf, Cond.selects RX2 yX2_ownerOf yX2_ownerOf, Cond.code yX2_ownerOf cX2_ownerOf 2 (some .int), Cond.fieldLink RX2 40 "HillSlices$Hill" "generation" "I", Cond.methodLink RX2 47 yX2_ownerBehind, Cond.instanceMethod yX2_ownerBehind, Cond.selects RX2 yX2_ownerBehind yX2_ownerBehind, Cond.code yX2_ownerBehind cX2_ownerBehind 3 (some .int)]
def wsX4_costOfWay_r2 : List Cond := [Cond.fieldLink RX2 15 "HillSlices$Hill" "owners" "[I", Cond.methodLink RX2 61 yX2_hasRight, Cond.instanceMethod yX2_hasRight, Cond.selects RX2 yX2_hasRight yX2_hasRight, Cond.code yX2_hasRight cX2_hasRight 3 (some .boolean), Cond.fieldLink RX2 21 "HillSlices$Hill" "gave" "[I"]
def wsX4_costOfWay : List Cond := .code yX4_costOfWay cX4_costOfWay 6 (some .int) :: ((wsX4_costOfWay_r1 ++ wsX4_costOfWay_r2) ++ wsX40 ++ wsX20)
def wsX4_costOfWayBack_r1 : List Cond := [Cond.methodLink RX4 237 yX4_costOfClimb, Cond.static yX4_costOfClimb, Cond.initialized RX4, Cond.code yX4_costOfClimb cX4_costOfClimb 1 (some .int), Cond.methodLink RX4 240 yX4_costOfRound, Cond.instanceMethod yX4_costOfRound, Cond.selects RX4 yX4_costOfRound yX4_costOfRound, Cond.code yX4_costOfRound cX4_costOfRound 7 (some .int), Cond.fieldLink RX4 19 "HillSlices" "hill" "LHillSlices$Hill;", Cond.fieldLink RX4 140 "HillSlices$Hill" "toll" "I", Cond.methodLink RX4 243 yX2_isFreeFor, Cond.instanceMethod yX2_isFreeFor, Cond.selects RX2 yX2_isFreeFor yX2_isFreeFor, Cond.initialized RX2, Cond.code yX2_isFreeFor cX2_isFreeFor 4 (some .boolean), Cond.methodLink RX2 50 yX2_ownerOf, Cond.instanceMethod yX2_ownerOf, Cond.selects RX2 yX2_ownerOf yX2_ownerOf, Cond.code yX2_ownerOf cX2_ownerOf 2 (some .int), Cond.fieldLink RX2 40 "HillSlices$Hill" "generation" "I", Cond.methodLink RX2 47 yX2_ownerBehind, Cond.instanceMethod yX2_ownerBehind, Cond.selects RX2 yX2_ownerBehind yX2_ownerBehind, Cond.code yX2_ownerBehind cX2_ownerBehind 3 (some .int)]
def wsX4_costOfWayBack_r2 : List Cond := [Cond.fieldLink RX2 15 "HillSlices$Hill" "owners" "[I", Cond.methodLink RX2 61 yX2_hasRight, Cond.instanceMethod yX2_hasRight, Cond.selects RX2 yX2_hasRight yX2_hasRight, Cond.code yX2_hasRight cX2_hasRight 3 (some .boolean), Cond.fieldLink RX2 21 "HillSlices$Hill" "gave" "[I"]
def wsX4_costOfWayBack : List Cond := .code yX4_costOfWayBack cX4_costOfWayBack 6 (some .int) :: ((wsX4_costOfWayBack_r1 ++ wsX4_costOfWayBack_r2) ++ wsX40 ++ wsX20)
def wsX4_bestWay_r1 : List Cond := [Cond.constant RX4 225 (1073741824), Cond.methodLink RX4 232 Lib.Math.min.name, Cond.static Lib.Math.min.name, Cond.initialized "java/lang/Math", Cond.code Lib.Math.min.name Lib.Math.min.code 2 (some .int), Cond.methodLink RX4 226 yX4_costOfWay, Cond.instanceMethod yX4_costOfWay, Cond.selects RX4 yX4_costOfWay yX4_costOfWay, Cond.initialized RX4, Cond.code yX4_costOfWay cX4_costOfWay 6 (some .int), Cond.methodLink RX4 237 yX4_costOfClimb, Cond.static yX4_costOfClimb, Cond.code yX4_costOfClimb cX4_costOfClimb 1 (some .int), Cond.methodLink RX4 240 yX4_costOfRound, Cond.instanceMethod yX4_costOfRound, Cond.selects RX4 yX4_costOfRound yX4_costOfRound, Cond.code yX4_costOfRound cX4_costOfRound 7 (some .int), Cond.fieldLink RX4 19 "HillSlices" "hill" "LHillSlices$Hill;", Cond.fieldLink RX4 140 "HillSlices$Hill" "toll" "I", Cond.methodLink RX4 243 yX2_isFreeFor, Cond.instanceMethod yX2_isFreeFor, Cond.selects RX2 yX2_isFreeFor yX2_isFreeFor, Cond.initialized RX2, Cond.code yX2_isFreeFor cX2_isFreeFor 4 (some .boolean)]
def wsX4_bestWay_r2 : List Cond := [Cond.methodLink RX2 50 yX2_ownerOf, Cond.instanceMethod yX2_ownerOf, Cond.selects RX2 yX2_ownerOf yX2_ownerOf, Cond.code yX2_ownerOf cX2_ownerOf 2 (some .int), Cond.fieldLink RX2 40 "HillSlices$Hill" "generation" "I", Cond.methodLink RX2 47 yX2_ownerBehind, Cond.instanceMethod yX2_ownerBehind, Cond.selects RX2 yX2_ownerBehind yX2_ownerBehind, Cond.code yX2_ownerBehind cX2_ownerBehind 3 (some .int), Cond.fieldLink RX2 15 "HillSlices$Hill" "owners" "[I", Cond.methodLink RX2 61 yX2_hasRight, Cond.instanceMethod yX2_hasRight, Cond.selects RX2 yX2_hasRight yX2_hasRight, Cond.code yX2_hasRight cX2_hasRight 3 (some .boolean), Cond.fieldLink RX2 21 "HillSlices$Hill" "gave" "[I", Cond.methodLink RX4 229 yX4_costOfWayBack, Cond.instanceMethod yX4_costOfWayBack, Cond.selects RX4 yX4_costOfWayBack yX4_costOfWayBack, Cond.code yX4_costOfWayBack cX4_costOfWayBack 6 (some .int)]
def wsX4_bestWay : List Cond := .code yX4_bestWay cX4_bestWay 9 (some .int) :: ((wsX4_bestWay_r1 ++ wsX4_bestWay_r2) ++ wsX40 ++ wsX20)
def wsX4_way_r1 : List Cond := [Cond.methodLink RX4 119 yX4_isHeir, Cond.static yX4_isHeir, Cond.initialized RX4, Cond.code yX4_isHeir cX4_isHeir 1 (some .boolean), Cond.methodLink RX4 103 yX4_isSector, Cond.static yX4_isSector, Cond.code yX4_isSector cX4_isSector 1 (some .boolean), Cond.methodLink RX4 147 yX4_bestWay, Cond.instanceMethod yX4_bestWay, Cond.selects RX4 yX4_bestWay yX4_bestWay, Cond.code yX4_bestWay cX4_bestWay 9 (some .int), Cond.constant RX4 225 (1073741824), Cond.methodLink RX4 232 Lib.Math.min.name, Cond.static Lib.Math.min.name, Cond.initialized "java/lang/Math", Cond.code Lib.Math.min.name Lib.Math.min.code 2 (some .int), Cond.methodLink RX4 226 yX4_costOfWay, Cond.instanceMethod yX4_costOfWay, Cond.selects RX4 yX4_costOfWay yX4_costOfWay, Cond.code yX4_costOfWay cX4_costOfWay 6 (some .int), Cond.methodLink RX4 237 yX4_costOfClimb, Cond.static yX4_costOfClimb, Cond.code yX4_costOfClimb cX4_costOfClimb 1 (some .int), Cond.methodLink RX4 240 yX4_costOfRound]
def wsX4_way_r2 : List Cond := [Cond.instanceMethod yX4_costOfRound, Cond.selects RX4 yX4_costOfRound yX4_costOfRound, Cond.code yX4_costOfRound cX4_costOfRound 7 (some .int), Cond.fieldLink RX4 19 "HillSlices" "hill" "LHillSlices$Hill;", Cond.fieldLink RX4 140 "HillSlices$Hill" "toll" "I", Cond.methodLink RX4 243 yX2_isFreeFor, Cond.instanceMethod yX2_isFreeFor, Cond.selects RX2 yX2_isFreeFor yX2_isFreeFor, Cond.initialized RX2, Cond.code yX2_isFreeFor cX2_isFreeFor 4 (some .boolean), Cond.methodLink RX2 50 yX2_ownerOf, Cond.instanceMethod yX2_ownerOf, Cond.selects RX2 yX2_ownerOf yX2_ownerOf, Cond.code yX2_ownerOf cX2_ownerOf 2 (some .int), Cond.fieldLink RX2 40 "HillSlices$Hill" "generation" "I", Cond.methodLink RX2 47 yX2_ownerBehind, Cond.instanceMethod yX2_ownerBehind, Cond.selects RX2 yX2_ownerBehind yX2_ownerBehind, Cond.code yX2_ownerBehind cX2_ownerBehind 3 (some .int), Cond.fieldLink RX2 15 "HillSlices$Hill" "owners" "[I", Cond.methodLink RX2 61 yX2_hasRight, Cond.instanceMethod yX2_hasRight, Cond.selects RX2 yX2_hasRight yX2_hasRight, Cond.code yX2_hasRight cX2_hasRight 3 (some .boolean)]
def wsX4_way_r3 : List Cond := [Cond.fieldLink RX2 21 "HillSlices$Hill" "gave" "[I", Cond.methodLink RX4 229 yX4_costOfWayBack, Cond.instanceMethod yX4_costOfWayBack, Cond.selects RX4 yX4_costOfWayBack yX4_costOfWayBack, Cond.code yX4_costOfWayBack cX4_costOfWayBack 6 (some .int)]
def wsX4_way : List Cond := .code yX4_way cX4_way 5 (some .int) :: ((wsX4_way_r1 ++ (wsX4_way_r2 ++ wsX4_way_r3)) ++ wsX40 ++ wsX20)
def wsX4_sectorBelow : List Cond := .code yX4_sectorBelow cX4_sectorBelow 3 (some .int) :: ([.fieldLink RX4 19 "HillSlices" "hill" "LHillSlices$Hill;", .methodLink RX4 106 yX2_sortAt, .instanceMethod yX2_sortAt, .selects RX2 yX2_sortAt yX2_sortAt, .initialized RX2, .code yX2_sortAt cX2_sortAt 3 (some .int), .fieldLink RX2 9 "HillSlices$Hill" "sorts" "[I"] ++ wsX40 ++ wsX20)
def wsX4_hitByStone : List Cond := .code yX4_hitByStone cX4_hitByStone 6 (some .int) :: ([.fieldLink RX4 19 "HillSlices" "hill" "LHillSlices$Hill;", .methodLink RX4 106 yX2_sortAt, .instanceMethod yX2_sortAt, .selects RX2 yX2_sortAt yX2_sortAt, .initialized RX2, .code yX2_sortAt cX2_sortAt 3 (some .int), .fieldLink RX2 9 "HillSlices$Hill" "sorts" "[I", .methodLink RX4 246 yX4_sectorBelow, .instanceMethod yX4_sectorBelow, .selects RX4 yX4_sectorBelow yX4_sectorBelow, .initialized RX4, .code yX4_sectorBelow cX4_sectorBelow 3 (some .int), .methodLink RX4 160 yX2_ownerOf, .instanceMethod yX2_ownerOf, .selects RX2 yX2_ownerOf yX2_ownerOf, .code yX2_ownerOf cX2_ownerOf 2 (some .int), .fieldLink RX2 40 "HillSlices$Hill" "generation" "I", .methodLink RX2 47 yX2_ownerBehind, .instanceMethod yX2_ownerBehind, .selects RX2 yX2_ownerBehind yX2_ownerBehind, .code yX2_ownerBehind cX2_ownerBehind 3 (some .int), .fieldLink RX2 15 "HillSlices$Hill" "owners" "[I"] ++ wsX40 ++ wsX20)
def wsX4_endOfStone : List Cond := .code yX4_endOfStone cX4_endOfStone 5 (some .int) :: ([.fieldLink RX4 19 "HillSlices" "hill" "LHillSlices$Hill;", .methodLink RX4 106 yX2_sortAt, .instanceMethod yX2_sortAt, .selects RX2 yX2_sortAt yX2_sortAt, .initialized RX2, .code yX2_sortAt cX2_sortAt 3 (some .int), .fieldLink RX2 9 "HillSlices$Hill" "sorts" "[I", .methodLink RX4 246 yX4_sectorBelow, .instanceMethod yX4_sectorBelow, .selects RX4 yX4_sectorBelow yX4_sectorBelow, .initialized RX4, .code yX4_sectorBelow cX4_sectorBelow 3 (some .int)] ++ wsX40 ++ wsX20)
def wsX4_stone_r1 : List Cond := [Cond.methodLink RX4 58 yX4_isRing, Cond.static yX4_isRing, Cond.initialized RX4, Cond.code yX4_isRing cX4_isRing 1 (some .boolean), Cond.methodLink RX4 103 yX4_isSector, Cond.static yX4_isSector, Cond.code yX4_isSector cX4_isSector 1 (some .boolean), Cond.methodLink RX4 151 yX4_hitByStone, Cond.instanceMethod yX4_hitByStone, Cond.selects RX4 yX4_hitByStone yX4_hitByStone, Cond.code yX4_hitByStone cX4_hitByStone 6 (some .int), Cond.fieldLink RX4 19 "HillSlices" "hill" "LHillSlices$Hill;", Cond.methodLink RX4 106 yX2_sortAt, Cond.instanceMethod yX2_sortAt, Cond.selects RX2 yX2_sortAt yX2_sortAt, Cond.initialized RX2, Cond.code yX2_sortAt cX2_sortAt 3 (some .int), Cond.fieldLink RX2 9 "HillSlices$Hill" "sorts" "[I", Cond.methodLink RX4 246 yX4_sectorBelow, Cond.instanceMethod yX4_sectorBelow, Cond.selects RX4 yX4_sectorBelow yX4_sectorBelow, Cond.code yX4_sectorBelow cX4_sectorBelow 3 (some .int), Cond.methodLink RX4 160 yX2_ownerOf, Cond.instanceMethod yX2_ownerOf]
def wsX4_stone_r2 : List Cond := [Cond.selects RX2 yX2_ownerOf yX2_ownerOf, Cond.code yX2_ownerOf cX2_ownerOf 2 (some .int), Cond.fieldLink RX2 40 "HillSlices$Hill" "generation" "I", Cond.methodLink RX2 47 yX2_ownerBehind, Cond.instanceMethod yX2_ownerBehind, Cond.selects RX2 yX2_ownerBehind yX2_ownerBehind, Cond.code yX2_ownerBehind cX2_ownerBehind 3 (some .int), Cond.fieldLink RX2 15 "HillSlices$Hill" "owners" "[I", Cond.methodLink RX4 154 yX4_endOfStone, Cond.instanceMethod yX4_endOfStone, Cond.selects RX4 yX4_endOfStone yX4_endOfStone, Cond.code yX4_endOfStone cX4_endOfStone 5 (some .int)]
def wsX4_stone : List Cond := .code yX4_stone cX4_stone 4 (some .int) :: ((wsX4_stone_r1 ++ wsX4_stone_r2) ++ wsX40 ++ wsX20)
def wsX4_withThoseBeside : List Cond := .code yX4_withThoseBeside cX4_withThoseBeside 3 (some .int) :: ([.constant RX4 132 (16777215)])
def wsX4_runOfAvalanche_r1 : List Cond := [Cond.fieldLink RX4 19 "HillSlices" "hill" "LHillSlices$Hill;", Cond.methodLink RX4 249 yX4_withThoseBeside, Cond.static yX4_withThoseBeside, Cond.initialized RX4, Cond.code yX4_withThoseBeside cX4_withThoseBeside 3 (some .int), Cond.constant RX4 132 (16777215), Cond.methodLink RX4 252 yX2_sectorsOfSort, Cond.instanceMethod yX2_sectorsOfSort, Cond.selects RX2 yX2_sectorsOfSort yX2_sectorsOfSort, Cond.initialized RX2, Cond.code yX2_sectorsOfSort cX2_sectorsOfSort 5 (some .int), Cond.methodLink RX2 43 yX2_sortAt, Cond.instanceMethod yX2_sortAt, Cond.selects RX2 yX2_sortAt yX2_sortAt, Cond.code yX2_sortAt cX2_sortAt 3 (some .int), Cond.fieldLink RX2 9 "HillSlices$Hill" "sorts" "[I", Cond.methodLink RX4 192 yJ6_bitCount_0f7a4, Cond.static yJ6_bitCount_0f7a4, Cond.initialized RJ6, Cond.code yJ6_bitCount_0f7a4 cJ6_bitCount_0f7a4 1 (some .int), Cond.constant RJ6 265 (1431655765), Cond.constant RJ6 266 (858993459), Cond.constant RJ6 267 (252645135), Cond.methodLink RX4 255 yX2_ownersOf]
def wsX4_runOfAvalanche_r2 : List Cond := [Cond.instanceMethod yX2_ownersOf, Cond.selects RX2 yX2_ownersOf yX2_ownersOf, Cond.code yX2_ownersOf cX2_ownersOf 4 (some .int), Cond.methodLink RX2 50 yX2_ownerOf, Cond.instanceMethod yX2_ownerOf, Cond.selects RX2 yX2_ownerOf yX2_ownerOf, Cond.code yX2_ownerOf cX2_ownerOf 2 (some .int), Cond.fieldLink RX2 40 "HillSlices$Hill" "generation" "I", Cond.methodLink RX2 47 yX2_ownerBehind, Cond.instanceMethod yX2_ownerBehind, Cond.selects RX2 yX2_ownerBehind yX2_ownerBehind, Cond.code yX2_ownerBehind cX2_ownerBehind 3 (some .int), Cond.fieldLink RX2 15 "HillSlices$Hill" "owners" "[I"]
def wsX4_runOfAvalanche : List Cond := .code yX4_runOfAvalanche cX4_runOfAvalanche 8 (some .int) :: ((wsX4_runOfAvalanche_r1 ++ wsX4_runOfAvalanche_r2) ++ wsX40 ++ wsX20)
def wsX4_avalanche_r1 : List Cond := [Cond.fieldLink RX4 19 "HillSlices" "hill" "LHillSlices$Hill;", Cond.methodLink RX4 58 yX4_isRing, Cond.static yX4_isRing, Cond.initialized RX4, Cond.code yX4_isRing cX4_isRing 1 (some .boolean), Cond.methodLink RX4 103 yX4_isSector, Cond.static yX4_isSector, Cond.code yX4_isSector cX4_isSector 1 (some .boolean), Cond.methodLink RX4 106 yX2_sortAt, Cond.instanceMethod yX2_sortAt, Cond.selects RX2 yX2_sortAt yX2_sortAt, Cond.initialized RX2, Cond.code yX2_sortAt cX2_sortAt 3 (some .int), Cond.fieldLink RX2 9 "HillSlices$Hill" "sorts" "[I", Cond.methodLink RX4 157 yX4_runOfAvalanche, Cond.instanceMethod yX4_runOfAvalanche, Cond.selects RX4 yX4_runOfAvalanche yX4_runOfAvalanche, Cond.code yX4_runOfAvalanche cX4_runOfAvalanche 8 (some .int), Cond.methodLink RX4 249 yX4_withThoseBeside, Cond.static yX4_withThoseBeside, Cond.code yX4_withThoseBeside cX4_withThoseBeside 3 (some .int), Cond.constant RX4 132 (16777215), Cond.methodLink RX4 252 yX2_sectorsOfSort, Cond.instanceMethod yX2_sectorsOfSort]
def wsX4_avalanche_r2 : List Cond := [Cond.selects RX2 yX2_sectorsOfSort yX2_sectorsOfSort, Cond.code yX2_sectorsOfSort cX2_sectorsOfSort 5 (some .int), Cond.methodLink RX2 43 yX2_sortAt, Cond.methodLink RX4 192 yJ6_bitCount_0f7a4, Cond.static yJ6_bitCount_0f7a4, Cond.initialized RJ6, Cond.code yJ6_bitCount_0f7a4 cJ6_bitCount_0f7a4 1 (some .int), Cond.constant RJ6 265 (1431655765), Cond.constant RJ6 266 (858993459), Cond.constant RJ6 267 (252645135), Cond.methodLink RX4 255 yX2_ownersOf, Cond.instanceMethod yX2_ownersOf, Cond.selects RX2 yX2_ownersOf yX2_ownersOf, Cond.code yX2_ownersOf cX2_ownersOf 4 (some .int), Cond.methodLink RX2 50 yX2_ownerOf, Cond.instanceMethod yX2_ownerOf, Cond.selects RX2 yX2_ownerOf yX2_ownerOf, Cond.code yX2_ownerOf cX2_ownerOf 2 (some .int), Cond.fieldLink RX2 40 "HillSlices$Hill" "generation" "I", Cond.methodLink RX2 47 yX2_ownerBehind, Cond.instanceMethod yX2_ownerBehind, Cond.selects RX2 yX2_ownerBehind yX2_ownerBehind, Cond.code yX2_ownerBehind cX2_ownerBehind 3 (some .int), Cond.fieldLink RX2 15 "HillSlices$Hill" "owners" "[I"]
def wsX4_avalanche : List Cond := .code yX4_avalanche cX4_avalanche 4 (some .int) :: ((wsX4_avalanche_r1 ++ wsX4_avalanche_r2) ++ wsX40 ++ wsX20)
def wsX4_rolls_r1 : List Cond := [Cond.fieldLink RX4 19 "HillSlices" "hill" "LHillSlices$Hill;", Cond.methodLink RX4 119 yX4_isHeir, Cond.static yX4_isHeir, Cond.initialized RX4, Cond.code yX4_isHeir cX4_isHeir 1 (some .boolean), Cond.methodLink RX4 160 yX2_ownerOf, Cond.instanceMethod yX2_ownerOf, Cond.selects RX2 yX2_ownerOf yX2_ownerOf, Cond.initialized RX2, Cond.code yX2_ownerOf cX2_ownerOf 2 (some .int), Cond.fieldLink RX2 40 "HillSlices$Hill" "generation" "I", Cond.methodLink RX2 47 yX2_ownerBehind, Cond.instanceMethod yX2_ownerBehind, Cond.selects RX2 yX2_ownerBehind yX2_ownerBehind, Cond.code yX2_ownerBehind cX2_ownerBehind 3 (some .int), Cond.fieldLink RX2 15 "HillSlices$Hill" "owners" "[I", Cond.methodLink RX4 151 yX4_hitByStone, Cond.instanceMethod yX4_hitByStone, Cond.selects RX4 yX4_hitByStone yX4_hitByStone, Cond.code yX4_hitByStone cX4_hitByStone 6 (some .int), Cond.methodLink RX4 106 yX2_sortAt, Cond.instanceMethod yX2_sortAt, Cond.selects RX2 yX2_sortAt yX2_sortAt, Cond.code yX2_sortAt cX2_sortAt 3 (some .int)]
def wsX4_rolls_r2 : List Cond := [Cond.fieldLink RX2 9 "HillSlices$Hill" "sorts" "[I", Cond.methodLink RX4 246 yX4_sectorBelow, Cond.instanceMethod yX4_sectorBelow, Cond.selects RX4 yX4_sectorBelow yX4_sectorBelow, Cond.code yX4_sectorBelow cX4_sectorBelow 3 (some .int)]
def wsX4_rolls : List Cond := .code yX4_rolls cX4_rolls 5 (some .int) :: ((wsX4_rolls_r1 ++ wsX4_rolls_r2) ++ wsX40 ++ wsX20)
def wsX4_fence_r1 : List Cond := [Cond.fieldLink RX4 42 "HillSlices" "leastFence" "LHillSlices$Fence;", Cond.fieldLink RX4 19 "HillSlices" "hill" "LHillSlices$Hill;", Cond.methodLink RX4 119 yX4_isHeir, Cond.static yX4_isHeir, Cond.initialized RX4, Cond.code yX4_isHeir cX4_isHeir 1 (some .boolean), Cond.methodLink RX4 163 yX1_lengthFor, Cond.instanceMethod yX1_lengthFor, Cond.selects RX1 yX1_lengthFor yX1_lengthFor, Cond.initialized RX1, Cond.code yX1_lengthFor cX1_lengthFor 6 (some .int), Cond.fieldLink RX1 21 "HillSlices$Fence" "goals" "[Z", Cond.methodLink RX1 25 yX2_sortAt, Cond.instanceMethod yX2_sortAt, Cond.selects RX2 yX2_sortAt yX2_sortAt, Cond.initialized RX2, Cond.code yX2_sortAt cX2_sortAt 3 (some .int), Cond.fieldLink RX2 9 "HillSlices$Hill" "sorts" "[I", Cond.methodLink RX1 31 yX2_ownerOf, Cond.instanceMethod yX2_ownerOf, Cond.selects RX2 yX2_ownerOf yX2_ownerOf, Cond.code yX2_ownerOf cX2_ownerOf 2 (some .int), Cond.fieldLink RX2 40 "HillSlices$Hill" "generation" "I", Cond.methodLink RX2 47 yX2_ownerBehind]
def wsX4_fence_r2 : List Cond := [Cond.instanceMethod yX2_ownerBehind, Cond.selects RX2 yX2_ownerBehind yX2_ownerBehind, Cond.code yX2_ownerBehind cX2_ownerBehind 3 (some .int), Cond.fieldLink RX2 15 "HillSlices$Hill" "owners" "[I", Cond.methodLink RX1 35 yX1_openSides, Cond.instanceMethod yX1_openSides, Cond.selects RX1 yX1_openSides yX1_openSides, Cond.code yX1_openSides cX1_openSides 3 none, Cond.fieldLink RX1 11 "HillSlices$Fence" "room" "[I", Cond.methodLink RX1 39 yX1_seekGoal, Cond.instanceMethod yX1_seekGoal, Cond.selects RX1 yX1_seekGoal yX1_seekGoal, Cond.code yX1_seekGoal cX1_seekGoal 6 (some .int), Cond.fieldLink RX1 46 "HillSlices$Fence" "queued" "I", Cond.fieldLink RX1 15 "HillSlices$Fence" "came" "[I", Cond.fieldLink RX1 18 "HillSlices$Fence" "queue" "[I", Cond.methodLink RX1 50 yX1_reach, Cond.instanceMethod yX1_reach, Cond.selects RX1 yX1_reach yX1_reach, Cond.code yX1_reach cX1_reach 3 none, Cond.methodLink RX1 53 yX1_beside, Cond.static yX1_beside, Cond.code yX1_beside cX1_beside 4 (some .int), Cond.methodLink RX1 43 yX1_streamTo]
def wsX4_fence_r3 : List Cond := [Cond.instanceMethod yX1_streamTo, Cond.selects RX1 yX1_streamTo yX1_streamTo, Cond.code yX1_streamTo cX1_streamTo 6 (some .int), Cond.methodLink RX1 59 Lib.Math.min.name, Cond.static Lib.Math.min.name, Cond.initialized "java/lang/Math", Cond.code Lib.Math.min.name Lib.Math.min.code 2 (some .int), Cond.methodLink RX1 56 yX1_opposite, Cond.static yX1_opposite, Cond.code yX1_opposite cX1_opposite 1 (some .int)]
def wsX4_fence : List Cond := .code yX4_fence cX4_fence 2 (some .int) :: ((wsX4_fence_r1 ++ (wsX4_fence_r2 ++ wsX4_fence_r3)) ++ wsX40 ++ wsX10 ++ wsX20)
def wsX4_yearsOfSpring : List Cond := .code yX4_yearsOfSpring cX4_yearsOfSpring 7 (some .int) :: ([.fieldLink RX4 19 "HillSlices" "hill" "LHillSlices$Hill;", .methodLink RX4 160 yX2_ownerOf, .instanceMethod yX2_ownerOf, .selects RX2 yX2_ownerOf yX2_ownerOf, .initialized RX2, .code yX2_ownerOf cX2_ownerOf 2 (some .int), .fieldLink RX2 40 "HillSlices$Hill" "generation" "I", .methodLink RX2 47 yX2_ownerBehind, .instanceMethod yX2_ownerBehind, .selects RX2 yX2_ownerBehind yX2_ownerBehind, .code yX2_ownerBehind cX2_ownerBehind 3 (some .int), .fieldLink RX2 15 "HillSlices$Hill" "owners" "[I"] ++ wsX40 ++ wsX20)
def wsX4_firstYearOfSpring : List Cond := .code yX4_firstYearOfSpring cX4_firstYearOfSpring 6 (some .int) :: ([.fieldLink RX4 19 "HillSlices" "hill" "LHillSlices$Hill;", .methodLink RX4 160 yX2_ownerOf, .instanceMethod yX2_ownerOf, .selects RX2 yX2_ownerOf yX2_ownerOf, .initialized RX2, .code yX2_ownerOf cX2_ownerOf 2 (some .int), .fieldLink RX2 40 "HillSlices$Hill" "generation" "I", .methodLink RX2 47 yX2_ownerBehind, .instanceMethod yX2_ownerBehind, .selects RX2 yX2_ownerBehind yX2_ownerBehind, .code yX2_ownerBehind cX2_ownerBehind 3 (some .int), .fieldLink RX2 15 "HillSlices$Hill" "owners" "[I"] ++ wsX40 ++ wsX20)
def wsX4_spring : List Cond := .code yX4_spring cX4_spring 5 (some .int) :: ([.fieldLink RX4 19 "HillSlices" "hill" "LHillSlices$Hill;", .methodLink RX4 103 yX4_isSector, .static yX4_isSector, .initialized RX4, .code yX4_isSector cX4_isSector 1 (some .boolean), .methodLink RX4 160 yX2_ownerOf, .instanceMethod yX2_ownerOf, .selects RX2 yX2_ownerOf yX2_ownerOf, .initialized RX2, .code yX2_ownerOf cX2_ownerOf 2 (some .int), .fieldLink RX2 40 "HillSlices$Hill" "generation" "I", .methodLink RX2 47 yX2_ownerBehind, .instanceMethod yX2_ownerBehind, .selects RX2 yX2_ownerBehind yX2_ownerBehind, .code yX2_ownerBehind cX2_ownerBehind 3 (some .int), .fieldLink RX2 15 "HillSlices$Hill" "owners" "[I", .methodLink RX4 167 yX4_yearsOfSpring, .instanceMethod yX4_yearsOfSpring, .selects RX4 yX4_yearsOfSpring yX4_yearsOfSpring, .code yX4_yearsOfSpring cX4_yearsOfSpring 7 (some .int), .methodLink RX4 170 yX4_firstYearOfSpring, .instanceMethod yX4_firstYearOfSpring, .selects RX4 yX4_firstYearOfSpring yX4_firstYearOfSpring, .code yX4_firstYearOfSpring cX4_firstYearOfSpring 6 (some .int)] ++ wsX40 ++ wsX20)
def wsX4_asOne : List Cond := .code yX4_asOne cX4_asOne 3 (some .int) :: ([])
def wsX4_boundsAsOne : List Cond := .code yX4_boundsAsOne cX4_boundsAsOne 7 (some .int) :: ([.fieldLink RX4 19 "HillSlices" "hill" "LHillSlices$Hill;", .methodLink RX4 160 yX2_ownerOf, .instanceMethod yX2_ownerOf, .selects RX2 yX2_ownerOf yX2_ownerOf, .initialized RX2, .code yX2_ownerOf cX2_ownerOf 2 (some .int), .fieldLink RX2 40 "HillSlices$Hill" "generation" "I", .methodLink RX2 47 yX2_ownerBehind, .instanceMethod yX2_ownerBehind, .selects RX2 yX2_ownerBehind yX2_ownerBehind, .code yX2_ownerBehind cX2_ownerBehind 3 (some .int), .fieldLink RX2 15 "HillSlices$Hill" "owners" "[I", .methodLink RX4 258 yX4_asOne, .static yX4_asOne, .initialized RX4, .code yX4_asOne cX4_asOne 3 (some .int)] ++ wsX40 ++ wsX20)
def wsX4_bestWedding_r1 : List Cond := [Cond.fieldLink RX4 19 "HillSlices" "hill" "LHillSlices$Hill;", Cond.methodLink RX4 122 yX2_sectorsOf, Cond.instanceMethod yX2_sectorsOf, Cond.selects RX2 yX2_sectorsOf yX2_sectorsOf, Cond.initialized RX2, Cond.code yX2_sectorsOf cX2_sectorsOf 4 (some .int), Cond.methodLink RX2 50 yX2_ownerOf, Cond.instanceMethod yX2_ownerOf, Cond.selects RX2 yX2_ownerOf yX2_ownerOf, Cond.code yX2_ownerOf cX2_ownerOf 2 (some .int), Cond.fieldLink RX2 40 "HillSlices$Hill" "generation" "I", Cond.methodLink RX2 47 yX2_ownerBehind, Cond.instanceMethod yX2_ownerBehind, Cond.selects RX2 yX2_ownerBehind yX2_ownerBehind, Cond.code yX2_ownerBehind cX2_ownerBehind 3 (some .int), Cond.fieldLink RX2 15 "HillSlices$Hill" "owners" "[I", Cond.methodLink RX4 173 yX4_boundsAsOne, Cond.instanceMethod yX4_boundsAsOne, Cond.selects RX4 yX4_boundsAsOne yX4_boundsAsOne, Cond.initialized RX4, Cond.code yX4_boundsAsOne cX4_boundsAsOne 7 (some .int), Cond.methodLink RX4 160 yX2_ownerOf, Cond.methodLink RX4 258 yX4_asOne, Cond.static yX4_asOne]
def wsX4_bestWedding_r2 : List Cond := [Cond.code yX4_asOne cX4_asOne 3 (some .int)]
def wsX4_bestWedding : List Cond := .code yX4_bestWedding cX4_bestWedding 6 (some .int) :: ((wsX4_bestWedding_r1 ++ wsX4_bestWedding_r2) ++ wsX40 ++ wsX20)
def wsX4_pieceBehind : List Cond := .code yX4_pieceBehind cX4_pieceBehind 4 (some .int) :: ([.fieldLink RX4 19 "HillSlices" "hill" "LHillSlices$Hill;", .methodLink RX4 160 yX2_ownerOf, .instanceMethod yX2_ownerOf, .selects RX2 yX2_ownerOf yX2_ownerOf, .initialized RX2, .code yX2_ownerOf cX2_ownerOf 2 (some .int), .fieldLink RX2 40 "HillSlices$Hill" "generation" "I", .methodLink RX2 47 yX2_ownerBehind, .instanceMethod yX2_ownerBehind, .selects RX2 yX2_ownerBehind yX2_ownerBehind, .code yX2_ownerBehind cX2_ownerBehind 3 (some .int), .fieldLink RX2 15 "HillSlices$Hill" "owners" "[I"] ++ wsX40 ++ wsX20)
def wsX4_narrowestPiece : List Cond := .code yX4_narrowestPiece cX4_narrowestPiece 3 (some .int) :: ([.fieldLink RX4 19 "HillSlices" "hill" "LHillSlices$Hill;", .methodLink RX4 232 Lib.Math.min.name, .static Lib.Math.min.name, .initialized "java/lang/Math", .code Lib.Math.min.name Lib.Math.min.code 2 (some .int), .methodLink RX4 160 yX2_ownerOf, .instanceMethod yX2_ownerOf, .selects RX2 yX2_ownerOf yX2_ownerOf, .initialized RX2, .code yX2_ownerOf cX2_ownerOf 2 (some .int), .fieldLink RX2 40 "HillSlices$Hill" "generation" "I", .methodLink RX2 47 yX2_ownerBehind, .instanceMethod yX2_ownerBehind, .selects RX2 yX2_ownerBehind yX2_ownerBehind, .code yX2_ownerBehind cX2_ownerBehind 3 (some .int), .fieldLink RX2 15 "HillSlices$Hill" "owners" "[I", .methodLink RX4 261 yX4_pieceBehind, .instanceMethod yX4_pieceBehind, .selects RX4 yX4_pieceBehind yX4_pieceBehind, .initialized RX4, .code yX4_pieceBehind cX4_pieceBehind 4 (some .int)] ++ wsX40 ++ wsX20)
def wsX4_bounds_r1 : List Cond := [Cond.methodLink RX4 173 yX4_boundsAsOne, Cond.instanceMethod yX4_boundsAsOne, Cond.selects RX4 yX4_boundsAsOne yX4_boundsAsOne, Cond.initialized RX4, Cond.code yX4_boundsAsOne cX4_boundsAsOne 7 (some .int), Cond.fieldLink RX4 19 "HillSlices" "hill" "LHillSlices$Hill;", Cond.methodLink RX4 160 yX2_ownerOf, Cond.instanceMethod yX2_ownerOf, Cond.selects RX2 yX2_ownerOf yX2_ownerOf, Cond.initialized RX2, Cond.code yX2_ownerOf cX2_ownerOf 2 (some .int), Cond.fieldLink RX2 40 "HillSlices$Hill" "generation" "I", Cond.methodLink RX2 47 yX2_ownerBehind, Cond.instanceMethod yX2_ownerBehind, Cond.selects RX2 yX2_ownerBehind yX2_ownerBehind, Cond.code yX2_ownerBehind cX2_ownerBehind 3 (some .int), Cond.fieldLink RX2 15 "HillSlices$Hill" "owners" "[I", Cond.methodLink RX4 258 yX4_asOne, Cond.static yX4_asOne, Cond.code yX4_asOne cX4_asOne 3 (some .int), Cond.methodLink RX4 176 yX4_bestWedding, Cond.instanceMethod yX4_bestWedding, Cond.selects RX4 yX4_bestWedding yX4_bestWedding, Cond.code yX4_bestWedding cX4_bestWedding 6 (some .int)]
def wsX4_bounds_r2 : List Cond := [Cond.methodLink RX4 122 yX2_sectorsOf, Cond.instanceMethod yX2_sectorsOf, Cond.selects RX2 yX2_sectorsOf yX2_sectorsOf, Cond.code yX2_sectorsOf cX2_sectorsOf 4 (some .int), Cond.methodLink RX2 50 yX2_ownerOf, Cond.methodLink RX4 179 yX4_narrowestPiece, Cond.instanceMethod yX4_narrowestPiece, Cond.selects RX4 yX4_narrowestPiece yX4_narrowestPiece, Cond.code yX4_narrowestPiece cX4_narrowestPiece 3 (some .int), Cond.methodLink RX4 232 Lib.Math.min.name, Cond.static Lib.Math.min.name, Cond.initialized "java/lang/Math", Cond.code Lib.Math.min.name Lib.Math.min.code 2 (some .int), Cond.methodLink RX4 261 yX4_pieceBehind, Cond.instanceMethod yX4_pieceBehind, Cond.selects RX4 yX4_pieceBehind yX4_pieceBehind, Cond.code yX4_pieceBehind cX4_pieceBehind 4 (some .int)]
def wsX4_bounds : List Cond := .code yX4_bounds cX4_bounds 2 (some .int) :: ((wsX4_bounds_r1 ++ wsX4_bounds_r2) ++ wsX40 ++ wsX20)
def wsX4_isImage : List Cond := .code yX4_isImage cX4_isImage 1 (some .boolean) :: ([])
def wsX4_image_r1 : List Cond := [Cond.fieldLink RX4 23 "HillSlices" "images" "[LHillSlices$Hill;", Cond.classLink RX4 16 RX2, Cond.instantiable RX2 6, Cond.initialized RX2, Cond.fieldLink RX4 19 "HillSlices" "hill" "LHillSlices$Hill;", Cond.methodLink RX4 182 yX4_isImage, Cond.static yX4_isImage, Cond.initialized RX4, Cond.code yX4_isImage cX4_isImage 1 (some .boolean), Cond.methodLink RX4 18 yX2_init, Cond.instanceMethod yX2_init, Cond.code yX2_init cX2_init 2 none, Cond.methodLink RX2 3 objectInit, Cond.instanceMethod objectInit, Cond.code objectInit ⟨#[0xb1]⟩ 1 none, Cond.arrayClass .int, Cond.fieldLink RX2 9 "HillSlices$Hill" "sorts" "[I", Cond.fieldLink RX2 15 "HillSlices$Hill" "owners" "[I", Cond.fieldLink RX2 18 "HillSlices$Hill" "worths" "[I", Cond.fieldLink RX2 21 "HillSlices$Hill" "gave" "[I", Cond.fieldLink RX2 24 "HillSlices$Hill" "toll" "I", Cond.methodLink RX4 185 yX2_copyFrom, Cond.instanceMethod yX2_copyFrom, Cond.selects RX2 yX2_copyFrom yX2_copyFrom]
def wsX4_image_r2 : List Cond := [Cond.code yX2_copyFrom cX2_copyFrom 2 none, Cond.methodLink RX2 34 arraycopyName, Cond.native arraycopyName, Cond.static arraycopyName, Cond.initialized "java/lang/System", Cond.fieldLink RX2 40 "HillSlices$Hill" "generation" "I"]
def wsX4_image : List Cond := .code yX4_image cX4_image 2 (some .int) :: ((wsX4_image_r1 ++ wsX4_image_r2) ++ wsX40 ++ wsX20)
def wsX4_restore_r1 : List Cond := [Cond.fieldLink RX4 23 "HillSlices" "images" "[LHillSlices$Hill;", Cond.fieldLink RX4 19 "HillSlices" "hill" "LHillSlices$Hill;", Cond.methodLink RX4 182 yX4_isImage, Cond.static yX4_isImage, Cond.initialized RX4, Cond.code yX4_isImage cX4_isImage 1 (some .boolean), Cond.methodLink RX4 185 yX2_copyFrom, Cond.instanceMethod yX2_copyFrom, Cond.selects RX2 yX2_copyFrom yX2_copyFrom, Cond.initialized RX2, Cond.code yX2_copyFrom cX2_copyFrom 2 none, Cond.fieldLink RX2 9 "HillSlices$Hill" "sorts" "[I", Cond.methodLink RX2 34 arraycopyName, Cond.native arraycopyName, Cond.static arraycopyName, Cond.initialized "java/lang/System", Cond.fieldLink RX2 15 "HillSlices$Hill" "owners" "[I", Cond.fieldLink RX2 18 "HillSlices$Hill" "worths" "[I", Cond.fieldLink RX2 21 "HillSlices$Hill" "gave" "[I", Cond.fieldLink RX2 40 "HillSlices$Hill" "generation" "I", Cond.fieldLink RX2 24 "HillSlices$Hill" "toll" "I", Cond.methodLink RX4 72 yX4_forgetCuts, Cond.instanceMethod yX4_forgetCuts, Cond.selects RX4 yX4_forgetCuts yX4_forgetCuts]
def wsX4_restore_r2 : List Cond := [Cond.code yX4_forgetCuts cX4_forgetCuts 1 none, Cond.fieldLink RX4 32 "HillSlices" "fairCut" "LHillSlices$Cut;", Cond.fieldLink RX4 36 "HillSlices" "bestCut" "LHillSlices$Cut;", Cond.methodLink RX4 222 yX0_forget, Cond.instanceMethod yX0_forget, Cond.selects RX0 yX0_forget yX0_forget, Cond.initialized RX0, Cond.code yX0_forget cX0_forget 1 none, Cond.fieldLink RX0 34 "HillSlices$Cut" "n" "I"]
def wsX4_restore : List Cond := .code yX4_restore cX4_restore 2 (some .int) :: ((wsX4_restore_r1 ++ wsX4_restore_r2) ++ wsX40 ++ wsX20 ++ wsX00)
def wsX4_told_r1 : List Cond := [Cond.fieldLink RX4 12 "HillSlices" "pad" "LHillSlices$Pad;", Cond.fieldLink RX4 189 "HillSlices$Pad" "count" "I", Cond.fieldLink RX4 19 "HillSlices" "hill" "LHillSlices$Hill;", Cond.fieldLink RX4 81 "HillSlices$Hill" "generation" "I", Cond.fieldLink RX4 140 "HillSlices$Hill" "toll" "I", Cond.fieldLink RX4 197 "HillSlices$Hill" "gave" "[I", Cond.fieldLink RX4 201 "HillSlices$Hill" "worths" "[I", Cond.methodLink RX4 122 yX2_sectorsOf, Cond.instanceMethod yX2_sectorsOf, Cond.selects RX2 yX2_sectorsOf yX2_sectorsOf, Cond.initialized RX2, Cond.code yX2_sectorsOf cX2_sectorsOf 4 (some .int), Cond.methodLink RX2 50 yX2_ownerOf, Cond.instanceMethod yX2_ownerOf, Cond.selects RX2 yX2_ownerOf yX2_ownerOf, Cond.code yX2_ownerOf cX2_ownerOf 2 (some .int), Cond.fieldLink RX2 40 "HillSlices$Hill" "generation" "I", Cond.methodLink RX2 47 yX2_ownerBehind, Cond.instanceMethod yX2_ownerBehind, Cond.selects RX2 yX2_ownerBehind yX2_ownerBehind, Cond.code yX2_ownerBehind cX2_ownerBehind 3 (some .int), Cond.fieldLink RX2 15 "HillSlices$Hill" "owners" "[I", Cond.methodLink RX4 192 yJ6_bitCount_0f7a4, Cond.static yJ6_bitCount_0f7a4]
def wsX4_told_r2 : List Cond := [Cond.initialized RJ6, Cond.code yJ6_bitCount_0f7a4 cJ6_bitCount_0f7a4 1 (some .int), Cond.constant RJ6 265 (1431655765), Cond.constant RJ6 266 (858993459), Cond.constant RJ6 267 (252645135)]
def wsX4_told : List Cond := .code yX4_told cX4_told 2 (some .int) :: ((wsX4_told_r1 ++ wsX4_told_r2) ++ wsX40 ++ wsX30 ++ wsX20)
def wsX5_init : List Cond := .code yX5_init cX5_init 3 none :: ([.methodLink RX5 1 objectInit, .instanceMethod objectInit, .code objectInit ⟨#[0xb1]⟩ 1 none, .arrayClass .int, .fieldLink RX5 7 "HillSlicesModel" "pad" "[I", .fieldLink RX5 13 "HillSlicesModel" "sort" "[I", .fieldLink RX5 16 "HillSlicesModel" "heir" "[I", .fieldLink RX5 19 "HillSlicesModel" "was" "[I", .fieldLink RX5 22 "HillSlicesModel" "worth" "[I", .fieldLink RX5 25 "HillSlicesModel" "toll" "I", .fieldLink RX5 29 "HillSlicesModel" "rights" "[I", .fieldLink RX5 32 "HillSlicesModel" "ahead" "[I", .fieldLink RX5 35 "HillSlicesModel" "bound" "[I", .fieldLink RX5 38 "HillSlicesModel" "owner" "[I", .fieldLink RX5 41 "HillSlicesModel" "foundBound" "[I", .fieldLink RX5 44 "HillSlicesModel" "foundOwner" "[I", .fieldLink RX5 47 "HillSlicesModel" "beside" "[I", .fieldLink RX5 50 "HillSlicesModel" "upward" "[I", .fieldLink RX5 53 "HillSlicesModel" "from" "[I", .fieldLink RX5 56 "HillSlicesModel" "queue" "[I", .fieldLink RX5 59 "HillSlicesModel" "image" "[I", .arrayClass .boolean, .fieldLink RX5 62 "HillSlicesModel" "isKept" "[Z"] ++ wsX50)
def wsX5_in : List Cond := .code yX5_in cX5_in 3 (some .boolean) :: ([])
def wsX5_isHeir : List Cond := .code yX5_isHeir cX5_isHeir 1 (some .boolean) :: ([.methodLink RX5 66 yX5_in, .static yX5_in, .initialized RX5, .code yX5_in cX5_in 3 (some .boolean)])
def wsX5_isSector : List Cond := .code yX5_isSector cX5_isSector 1 (some .boolean) :: ([.methodLink RX5 66 yX5_in, .static yX5_in, .initialized RX5, .code yX5_in cX5_in 3 (some .boolean)])
def wsX5_isRing : List Cond := .code yX5_isRing cX5_isRing 1 (some .boolean) :: ([.methodLink RX5 66 yX5_in, .static yX5_in, .initialized RX5, .code yX5_in cX5_in 3 (some .boolean)])
def wsX5_hasBit : List Cond := .code yX5_hasBit cX5_hasBit 2 (some .boolean) :: ([])
def wsX5_next : List Cond := .code yX5_next cX5_next 1 (some .int) :: ([])
def wsX5_before : List Cond := .code yX5_before cX5_before 1 (some .int) :: ([])
def wsX5_say : List Cond := .code yX5_say cX5_say 2 (some .int) :: ([.fieldLink RX5 70 "HillSlicesModel" "signs" "I", .fieldLink RX5 7 "HillSlicesModel" "pad" "[I", .methodLink RX5 66 yX5_in, .static yX5_in, .initialized RX5, .code yX5_in cX5_in 3 (some .boolean)] ++ wsX50)
def wsX5_wipe : List Cond := .code yX5_wipe cX5_wipe 2 (some .int) :: ([.fieldLink RX5 70 "HillSlicesModel" "signs" "I"] ++ wsX50)
def wsX5_sortOf : List Cond := .code yX5_sortOf cX5_sortOf 1 (some .int) :: ([])
def wsX5_sectorsOf : List Cond := .code yX5_sectorsOf cX5_sectorsOf 4 (some .int) :: ([.fieldLink RX5 16 "HillSlicesModel" "heir" "[I"] ++ wsX50)
def wsX5_isLetter : List Cond := .code yX5_isLetter cX5_isLetter 2 (some .boolean) :: ([.methodLink RX5 73 yX5_sortOf, .static yX5_sortOf, .initialized RX5, .code yX5_sortOf cX5_sortOf 1 (some .int), .methodLink RX5 66 yX5_in, .static yX5_in, .code yX5_in cX5_in 3 (some .boolean)])
def wsX5_faultOf : List Cond := .code yX5_faultOf cX5_faultOf 7 (some .int) :: ([.fieldLink RX5 70 "HillSlicesModel" "signs" "I", .fieldLink RX5 7 "HillSlicesModel" "pad" "[I", .methodLink RX5 66 yX5_in, .static yX5_in, .initialized RX5, .code yX5_in cX5_in 3 (some .boolean), .methodLink RX5 77 yX5_sectorsOf, .instanceMethod yX5_sectorsOf, .selects RX5 yX5_sectorsOf yX5_sectorsOf, .code yX5_sectorsOf cX5_sectorsOf 4 (some .int), .fieldLink RX5 16 "HillSlicesModel" "heir" "[I", .methodLink RX5 80 yX5_isLetter, .static yX5_isLetter, .code yX5_isLetter cX5_isLetter 2 (some .boolean), .methodLink RX5 73 yX5_sortOf, .static yX5_sortOf, .code yX5_sortOf cX5_sortOf 1 (some .int)] ++ wsX50)
def wsX5_fault : List Cond := .code yX5_fault cX5_fault 2 (some .int) :: ([.methodLink RX5 66 yX5_in, .static yX5_in, .initialized RX5, .code yX5_in cX5_in 3 (some .boolean), .methodLink RX5 84 yX5_faultOf, .instanceMethod yX5_faultOf, .selects RX5 yX5_faultOf yX5_faultOf, .code yX5_faultOf cX5_faultOf 7 (some .int), .fieldLink RX5 70 "HillSlicesModel" "signs" "I", .fieldLink RX5 7 "HillSlicesModel" "pad" "[I", .methodLink RX5 77 yX5_sectorsOf, .instanceMethod yX5_sectorsOf, .selects RX5 yX5_sectorsOf yX5_sectorsOf, .code yX5_sectorsOf cX5_sectorsOf 4 (some .int), .fieldLink RX5 16 "HillSlicesModel" "heir" "[I", .methodLink RX5 80 yX5_isLetter, .static yX5_isLetter, .code yX5_isLetter cX5_isLetter 2 (some .boolean), .methodLink RX5 73 yX5_sortOf, .static yX5_sortOf, .code yX5_sortOf cX5_sortOf 1 (some .int)] ++ wsX50)
def wsX5_ring_r1 : List Cond := [Cond.fieldLink RX5 70 "HillSlicesModel" "signs" "I", Cond.fieldLink RX5 7 "HillSlicesModel" "pad" "[I", Cond.fieldLink RX5 13 "HillSlicesModel" "sort" "[I", Cond.methodLink RX5 87 yX5_isRing, Cond.static yX5_isRing, Cond.initialized RX5, Cond.code yX5_isRing cX5_isRing 1 (some .boolean), Cond.methodLink RX5 66 yX5_in, Cond.static yX5_in, Cond.code yX5_in cX5_in 3 (some .boolean), Cond.methodLink RX5 84 yX5_faultOf, Cond.instanceMethod yX5_faultOf, Cond.selects RX5 yX5_faultOf yX5_faultOf, Cond.code yX5_faultOf cX5_faultOf 7 (some .int), Cond.methodLink RX5 77 yX5_sectorsOf, Cond.instanceMethod yX5_sectorsOf, Cond.selects RX5 yX5_sectorsOf yX5_sectorsOf, Cond.code yX5_sectorsOf cX5_sectorsOf 4 (some .int), Cond.fieldLink RX5 16 "HillSlicesModel" "heir" "[I", Cond.methodLink RX5 80 yX5_isLetter, Cond.static yX5_isLetter, Cond.code yX5_isLetter cX5_isLetter 2 (some .boolean), Cond.methodLink RX5 73 yX5_sortOf, Cond.static yX5_sortOf]
def wsX5_ring_r2 : List Cond := [Cond.code yX5_sortOf cX5_sortOf 1 (some .int)]
def wsX5_ring : List Cond := .code yX5_ring cX5_ring 5 (some .int) :: ((wsX5_ring_r1 ++ wsX5_ring_r2) ++ wsX50)
def wsX5_keepGeneration : List Cond := .code yX5_keepGeneration cX5_keepGeneration 2 none :: ([.fieldLink RX5 19 "HillSlicesModel" "was" "[I", .fieldLink RX5 91 "HillSlicesModel" "generations" "I", .fieldLink RX5 16 "HillSlicesModel" "heir" "[I"] ++ wsX50)
def wsX5_slices_r1 : List Cond := [Cond.fieldLink RX5 70 "HillSlicesModel" "signs" "I", Cond.fieldLink RX5 7 "HillSlicesModel" "pad" "[I", Cond.fieldLink RX5 16 "HillSlicesModel" "heir" "[I", Cond.fieldLink RX5 91 "HillSlicesModel" "generations" "I", Cond.methodLink RX5 84 yX5_faultOf, Cond.instanceMethod yX5_faultOf, Cond.selects RX5 yX5_faultOf yX5_faultOf, Cond.initialized RX5, Cond.code yX5_faultOf cX5_faultOf 7 (some .int), Cond.methodLink RX5 66 yX5_in, Cond.static yX5_in, Cond.code yX5_in cX5_in 3 (some .boolean), Cond.methodLink RX5 77 yX5_sectorsOf, Cond.instanceMethod yX5_sectorsOf, Cond.selects RX5 yX5_sectorsOf yX5_sectorsOf, Cond.code yX5_sectorsOf cX5_sectorsOf 4 (some .int), Cond.methodLink RX5 80 yX5_isLetter, Cond.static yX5_isLetter, Cond.code yX5_isLetter cX5_isLetter 2 (some .boolean), Cond.methodLink RX5 73 yX5_sortOf, Cond.static yX5_sortOf, Cond.code yX5_sortOf cX5_sortOf 1 (some .int), Cond.methodLink RX5 94 yX5_keepGeneration, Cond.instanceMethod yX5_keepGeneration]
def wsX5_slices_r2 : List Cond := [Cond.selects RX5 yX5_keepGeneration yX5_keepGeneration, Cond.code yX5_keepGeneration cX5_keepGeneration 2 none, Cond.fieldLink RX5 19 "HillSlicesModel" "was" "[I"]
def wsX5_slices : List Cond := .code yX5_slices cX5_slices 4 (some .int) :: ((wsX5_slices_r1 ++ wsX5_slices_r2) ++ wsX50)
def wsX5_will_r1 : List Cond := [Cond.fieldLink RX5 91 "HillSlicesModel" "generations" "I", Cond.fieldLink RX5 7 "HillSlicesModel" "pad" "[I", Cond.fieldLink RX5 19 "HillSlicesModel" "was" "[I", Cond.fieldLink RX5 16 "HillSlicesModel" "heir" "[I", Cond.fieldLink RX5 70 "HillSlicesModel" "signs" "I", Cond.methodLink RX5 84 yX5_faultOf, Cond.instanceMethod yX5_faultOf, Cond.selects RX5 yX5_faultOf yX5_faultOf, Cond.initialized RX5, Cond.code yX5_faultOf cX5_faultOf 7 (some .int), Cond.methodLink RX5 66 yX5_in, Cond.static yX5_in, Cond.code yX5_in cX5_in 3 (some .boolean), Cond.methodLink RX5 77 yX5_sectorsOf, Cond.instanceMethod yX5_sectorsOf, Cond.selects RX5 yX5_sectorsOf yX5_sectorsOf, Cond.code yX5_sectorsOf cX5_sectorsOf 4 (some .int), Cond.methodLink RX5 80 yX5_isLetter, Cond.static yX5_isLetter, Cond.code yX5_isLetter cX5_isLetter 2 (some .boolean), Cond.methodLink RX5 73 yX5_sortOf, Cond.static yX5_sortOf, Cond.code yX5_sortOf cX5_sortOf 1 (some .int), Cond.methodLink RX5 94 yX5_keepGeneration]
def wsX5_will_r2 : List Cond := [Cond.instanceMethod yX5_keepGeneration, Cond.selects RX5 yX5_keepGeneration yX5_keepGeneration, Cond.code yX5_keepGeneration cX5_keepGeneration 2 none]
def wsX5_will : List Cond := .code yX5_will cX5_will 5 (some .int) :: ((wsX5_will_r1 ++ wsX5_will_r2) ++ wsX50)
def wsX5_wedding : List Cond := .code yX5_wedding cX5_wedding 4 (some .int) :: ([.fieldLink RX5 91 "HillSlicesModel" "generations" "I", .fieldLink RX5 16 "HillSlicesModel" "heir" "[I", .methodLink RX5 97 yX5_isHeir, .static yX5_isHeir, .initialized RX5, .code yX5_isHeir cX5_isHeir 1 (some .boolean), .methodLink RX5 66 yX5_in, .static yX5_in, .code yX5_in cX5_in 3 (some .boolean), .methodLink RX5 94 yX5_keepGeneration, .instanceMethod yX5_keepGeneration, .selects RX5 yX5_keepGeneration yX5_keepGeneration, .code yX5_keepGeneration cX5_keepGeneration 2 none, .fieldLink RX5 19 "HillSlicesModel" "was" "[I"] ++ wsX50)
def wsX5_cell : List Cond := .code yX5_cell cX5_cell 3 (some .int) :: ([.fieldLink RX5 13 "HillSlicesModel" "sort" "[I", .methodLink RX5 87 yX5_isRing, .static yX5_isRing, .initialized RX5, .code yX5_isRing cX5_isRing 1 (some .boolean), .methodLink RX5 66 yX5_in, .static yX5_in, .code yX5_in cX5_in 3 (some .boolean), .methodLink RX5 100 yX5_isSector, .static yX5_isSector, .code yX5_isSector cX5_isSector 1 (some .boolean)] ++ wsX50)
def wsX5_was : List Cond := .code yX5_was cX5_was 3 (some .int) :: ([.fieldLink RX5 91 "HillSlicesModel" "generations" "I", .fieldLink RX5 19 "HillSlicesModel" "was" "[I", .methodLink RX5 100 yX5_isSector, .static yX5_isSector, .initialized RX5, .code yX5_isSector cX5_isSector 1 (some .boolean), .methodLink RX5 66 yX5_in, .static yX5_in, .code yX5_in cX5_in 3 (some .boolean)] ++ wsX50)
def wsX5_sectors : List Cond := .code yX5_sectors cX5_sectors 4 (some .int) :: ([.fieldLink RX5 16 "HillSlicesModel" "heir" "[I"] ++ wsX50)
def wsX5_has : List Cond := .code yX5_has cX5_has 2 (some .int) :: ([.methodLink RX5 97 yX5_isHeir, .static yX5_isHeir, .initialized RX5, .code yX5_isHeir cX5_isHeir 1 (some .boolean), .methodLink RX5 66 yX5_in, .static yX5_in, .code yX5_in cX5_in 3 (some .boolean), .methodLink RX5 103 yX5_sectors, .instanceMethod yX5_sectors, .selects RX5 yX5_sectors yX5_sectors, .code yX5_sectors cX5_sectors 4 (some .int), .fieldLink RX5 16 "HillSlicesModel" "heir" "[I"] ++ wsX50)
def wsX5_worth : List Cond := .code yX5_worth cX5_worth 5 (some .int) :: ([.fieldLink RX5 22 "HillSlicesModel" "worth" "[I", .methodLink RX5 97 yX5_isHeir, .static yX5_isHeir, .initialized RX5, .code yX5_isHeir cX5_isHeir 1 (some .boolean), .methodLink RX5 66 yX5_in, .static yX5_in, .code yX5_in cX5_in 3 (some .boolean), .methodLink RX5 73 yX5_sortOf, .static yX5_sortOf, .code yX5_sortOf cX5_sortOf 1 (some .int)] ++ wsX50)
def wsX5_sectorWorth : List Cond := .code yX5_sectorWorth cX5_sectorWorth 5 (some .int) :: ([.fieldLink RX5 22 "HillSlicesModel" "worth" "[I", .fieldLink RX5 13 "HillSlicesModel" "sort" "[I", .methodLink RX5 73 yX5_sortOf, .static yX5_sortOf, .initialized RX5, .code yX5_sortOf cX5_sortOf 1 (some .int)] ++ wsX50)
def wsX5_shareOf : List Cond := .code yX5_shareOf cX5_shareOf 5 (some .int) :: ([.methodLink RX5 106 yX5_hasBit, .static yX5_hasBit, .initialized RX5, .code yX5_hasBit cX5_hasBit 2 (some .boolean), .methodLink RX5 109 yX5_sectorWorth, .instanceMethod yX5_sectorWorth, .selects RX5 yX5_sectorWorth yX5_sectorWorth, .code yX5_sectorWorth cX5_sectorWorth 5 (some .int), .fieldLink RX5 22 "HillSlicesModel" "worth" "[I", .fieldLink RX5 13 "HillSlicesModel" "sort" "[I", .methodLink RX5 73 yX5_sortOf, .static yX5_sortOf, .code yX5_sortOf cX5_sortOf 1 (some .int)] ++ wsX50)
def wsX5_share : List Cond := .code yX5_share cX5_share 3 (some .int) :: ([.constant RX5 113 (16777215), .methodLink RX5 97 yX5_isHeir, .static yX5_isHeir, .initialized RX5, .code yX5_isHeir cX5_isHeir 1 (some .boolean), .methodLink RX5 66 yX5_in, .static yX5_in, .code yX5_in cX5_in 3 (some .boolean), .methodLink RX5 114 yX5_shareOf, .instanceMethod yX5_shareOf, .selects RX5 yX5_shareOf yX5_shareOf, .code yX5_shareOf cX5_shareOf 5 (some .int), .methodLink RX5 106 yX5_hasBit, .static yX5_hasBit, .code yX5_hasBit cX5_hasBit 2 (some .boolean), .methodLink RX5 109 yX5_sectorWorth, .instanceMethod yX5_sectorWorth, .selects RX5 yX5_sectorWorth yX5_sectorWorth, .code yX5_sectorWorth cX5_sectorWorth 5 (some .int), .fieldLink RX5 22 "HillSlicesModel" "worth" "[I", .fieldLink RX5 13 "HillSlicesModel" "sort" "[I", .methodLink RX5 73 yX5_sortOf, .static yX5_sortOf, .code yX5_sortOf cX5_sortOf 1 (some .int)] ++ wsX50)
def wsX5_envies_r1 : List Cond := [Cond.methodLink RX5 97 yX5_isHeir, Cond.static yX5_isHeir, Cond.initialized RX5, Cond.code yX5_isHeir cX5_isHeir 1 (some .boolean), Cond.methodLink RX5 66 yX5_in, Cond.static yX5_in, Cond.code yX5_in cX5_in 3 (some .boolean), Cond.methodLink RX5 103 yX5_sectors, Cond.instanceMethod yX5_sectors, Cond.selects RX5 yX5_sectors yX5_sectors, Cond.code yX5_sectors cX5_sectors 4 (some .int), Cond.fieldLink RX5 16 "HillSlicesModel" "heir" "[I", Cond.methodLink RX5 114 yX5_shareOf, Cond.instanceMethod yX5_shareOf, Cond.selects RX5 yX5_shareOf yX5_shareOf, Cond.code yX5_shareOf cX5_shareOf 5 (some .int), Cond.methodLink RX5 106 yX5_hasBit, Cond.static yX5_hasBit, Cond.code yX5_hasBit cX5_hasBit 2 (some .boolean), Cond.methodLink RX5 109 yX5_sectorWorth, Cond.instanceMethod yX5_sectorWorth, Cond.selects RX5 yX5_sectorWorth yX5_sectorWorth, Cond.code yX5_sectorWorth cX5_sectorWorth 5 (some .int), Cond.fieldLink RX5 22 "HillSlicesModel" "worth" "[I"]
def wsX5_envies_r2 : List Cond := [Cond.fieldLink RX5 13 "HillSlicesModel" "sort" "[I", Cond.methodLink RX5 73 yX5_sortOf, Cond.static yX5_sortOf, Cond.code yX5_sortOf cX5_sortOf 1 (some .int)]
def wsX5_envies : List Cond := .code yX5_envies cX5_envies 5 (some .int) :: ((wsX5_envies_r1 ++ wsX5_envies_r2) ++ wsX50)
def wsX5_layAhead : List Cond := .code yX5_layAhead cX5_layAhead 3 none :: ([.fieldLink RX5 32 "HillSlicesModel" "ahead" "[I", .methodLink RX5 109 yX5_sectorWorth, .instanceMethod yX5_sectorWorth, .selects RX5 yX5_sectorWorth yX5_sectorWorth, .initialized RX5, .code yX5_sectorWorth cX5_sectorWorth 5 (some .int), .fieldLink RX5 22 "HillSlicesModel" "worth" "[I", .fieldLink RX5 13 "HillSlicesModel" "sort" "[I", .methodLink RX5 73 yX5_sortOf, .static yX5_sortOf, .code yX5_sortOf cX5_sortOf 1 (some .int)] ++ wsX50)
def wsX5_arcWorth : List Cond := .code yX5_arcWorth cX5_arcWorth 7 (some .int) :: ([.fieldLink RX5 35 "HillSlicesModel" "bound" "[I", .fieldLink RX5 32 "HillSlicesModel" "ahead" "[I"] ++ wsX50)
def wsX5_isFair : List Cond := .code yX5_isFair cX5_isFair 5 (some .boolean) :: ([.fieldLink RX5 38 "HillSlicesModel" "owner" "[I", .methodLink RX5 117 yX5_arcWorth, .instanceMethod yX5_arcWorth, .selects RX5 yX5_arcWorth yX5_arcWorth, .initialized RX5, .code yX5_arcWorth cX5_arcWorth 7 (some .int), .fieldLink RX5 35 "HillSlicesModel" "bound" "[I", .fieldLink RX5 32 "HillSlicesModel" "ahead" "[I"] ++ wsX50)
def wsX5_leastShare : List Cond := .code yX5_leastShare cX5_leastShare 5 (some .int) :: ([.fieldLink RX5 38 "HillSlicesModel" "owner" "[I", .methodLink RX5 117 yX5_arcWorth, .instanceMethod yX5_arcWorth, .selects RX5 yX5_arcWorth yX5_arcWorth, .initialized RX5, .code yX5_arcWorth cX5_arcWorth 7 (some .int), .fieldLink RX5 35 "HillSlicesModel" "bound" "[I", .fieldLink RX5 32 "HillSlicesModel" "ahead" "[I"] ++ wsX50)
def wsX5_nextBounds : List Cond := .code yX5_nextBounds cX5_nextBounds 4 (some .boolean) :: ([.fieldLink RX5 35 "HillSlicesModel" "bound" "[I"] ++ wsX50)
def wsX5_layOwners : List Cond := .code yX5_layOwners cX5_layOwners 6 (some .boolean) :: ([.fieldLink RX5 38 "HillSlicesModel" "owner" "[I"] ++ wsX50)
def wsX5_keepCut : List Cond := .code yX5_keepCut cX5_keepCut 3 none :: ([.fieldLink RX5 41 "HillSlicesModel" "foundBound" "[I", .fieldLink RX5 35 "HillSlicesModel" "bound" "[I", .fieldLink RX5 44 "HillSlicesModel" "foundOwner" "[I", .fieldLink RX5 38 "HillSlicesModel" "owner" "[I"] ++ wsX50)
def wsX5_layCut_r1 : List Cond := [Cond.fieldLink RX5 35 "HillSlicesModel" "bound" "[I", Cond.fieldLink RX5 133 "HillSlicesModel" "foundLeast" "I", Cond.methodLink RX5 121 yX5_layAhead, Cond.instanceMethod yX5_layAhead, Cond.selects RX5 yX5_layAhead yX5_layAhead, Cond.initialized RX5, Cond.code yX5_layAhead cX5_layAhead 3 none, Cond.fieldLink RX5 32 "HillSlicesModel" "ahead" "[I", Cond.methodLink RX5 109 yX5_sectorWorth, Cond.instanceMethod yX5_sectorWorth, Cond.selects RX5 yX5_sectorWorth yX5_sectorWorth, Cond.code yX5_sectorWorth cX5_sectorWorth 5 (some .int), Cond.fieldLink RX5 22 "HillSlicesModel" "worth" "[I", Cond.fieldLink RX5 13 "HillSlicesModel" "sort" "[I", Cond.methodLink RX5 73 yX5_sortOf, Cond.static yX5_sortOf, Cond.code yX5_sortOf cX5_sortOf 1 (some .int), Cond.methodLink RX5 124 yX5_layOwners, Cond.instanceMethod yX5_layOwners, Cond.selects RX5 yX5_layOwners yX5_layOwners, Cond.code yX5_layOwners cX5_layOwners 6 (some .boolean), Cond.fieldLink RX5 38 "HillSlicesModel" "owner" "[I", Cond.methodLink RX5 127 yX5_leastShare, Cond.instanceMethod yX5_leastShare]
def wsX5_layCut_r2 : List Cond := [Cond.selects RX5 yX5_leastShare yX5_leastShare, Cond.code yX5_leastShare cX5_leastShare 5 (some .int), Cond.methodLink RX5 117 yX5_arcWorth, Cond.instanceMethod yX5_arcWorth, Cond.selects RX5 yX5_arcWorth yX5_arcWorth, Cond.code yX5_arcWorth cX5_arcWorth 7 (some .int), Cond.methodLink RX5 130 yX5_isFair, Cond.instanceMethod yX5_isFair, Cond.selects RX5 yX5_isFair yX5_isFair, Cond.code yX5_isFair cX5_isFair 5 (some .boolean), Cond.methodLink RX5 136 yX5_keepCut, Cond.instanceMethod yX5_keepCut, Cond.selects RX5 yX5_keepCut yX5_keepCut, Cond.code yX5_keepCut cX5_keepCut 3 none, Cond.fieldLink RX5 41 "HillSlicesModel" "foundBound" "[I", Cond.fieldLink RX5 44 "HillSlicesModel" "foundOwner" "[I", Cond.methodLink RX5 140 yX5_nextBounds, Cond.instanceMethod yX5_nextBounds, Cond.selects RX5 yX5_nextBounds yX5_nextBounds, Cond.code yX5_nextBounds cX5_nextBounds 4 (some .boolean)]
def wsX5_layCut : List Cond := .code yX5_layCut cX5_layCut 8 (some .boolean) :: ((wsX5_layCut_r1 ++ wsX5_layCut_r2) ++ wsX50)
def wsX5_toldCut : List Cond := .code yX5_toldCut cX5_toldCut 5 (some .int) :: ([.fieldLink RX5 41 "HillSlicesModel" "foundBound" "[I", .fieldLink RX5 44 "HillSlicesModel" "foundOwner" "[I", .methodLink RX5 66 yX5_in, .static yX5_in, .initialized RX5, .code yX5_in cX5_in 3 (some .boolean)] ++ wsX50)
def wsX5_fair_r1 : List Cond := [Cond.methodLink RX5 66 yX5_in, Cond.static yX5_in, Cond.initialized RX5, Cond.code yX5_in cX5_in 3 (some .boolean), Cond.methodLink RX5 143 yX5_layCut, Cond.instanceMethod yX5_layCut, Cond.selects RX5 yX5_layCut yX5_layCut, Cond.code yX5_layCut cX5_layCut 8 (some .boolean), Cond.fieldLink RX5 35 "HillSlicesModel" "bound" "[I", Cond.fieldLink RX5 133 "HillSlicesModel" "foundLeast" "I", Cond.methodLink RX5 121 yX5_layAhead, Cond.instanceMethod yX5_layAhead, Cond.selects RX5 yX5_layAhead yX5_layAhead, Cond.code yX5_layAhead cX5_layAhead 3 none, Cond.fieldLink RX5 32 "HillSlicesModel" "ahead" "[I", Cond.methodLink RX5 109 yX5_sectorWorth, Cond.instanceMethod yX5_sectorWorth, Cond.selects RX5 yX5_sectorWorth yX5_sectorWorth, Cond.code yX5_sectorWorth cX5_sectorWorth 5 (some .int), Cond.fieldLink RX5 22 "HillSlicesModel" "worth" "[I", Cond.fieldLink RX5 13 "HillSlicesModel" "sort" "[I", Cond.methodLink RX5 73 yX5_sortOf, Cond.static yX5_sortOf, Cond.code yX5_sortOf cX5_sortOf 1 (some .int)]
def wsX5_fair_r2 : List Cond := [Cond.methodLink RX5 124 yX5_layOwners, Cond.instanceMethod yX5_layOwners, Cond.selects RX5 yX5_layOwners yX5_layOwners, Cond.code yX5_layOwners cX5_layOwners 6 (some .boolean), Cond.fieldLink RX5 38 "HillSlicesModel" "owner" "[I", Cond.methodLink RX5 127 yX5_leastShare, Cond.instanceMethod yX5_leastShare, Cond.selects RX5 yX5_leastShare yX5_leastShare, Cond.code yX5_leastShare cX5_leastShare 5 (some .int), Cond.methodLink RX5 117 yX5_arcWorth, Cond.instanceMethod yX5_arcWorth, Cond.selects RX5 yX5_arcWorth yX5_arcWorth, Cond.code yX5_arcWorth cX5_arcWorth 7 (some .int), Cond.methodLink RX5 130 yX5_isFair, Cond.instanceMethod yX5_isFair, Cond.selects RX5 yX5_isFair yX5_isFair, Cond.code yX5_isFair cX5_isFair 5 (some .boolean), Cond.methodLink RX5 136 yX5_keepCut, Cond.instanceMethod yX5_keepCut, Cond.selects RX5 yX5_keepCut yX5_keepCut, Cond.code yX5_keepCut cX5_keepCut 3 none, Cond.fieldLink RX5 41 "HillSlicesModel" "foundBound" "[I", Cond.fieldLink RX5 44 "HillSlicesModel" "foundOwner" "[I", Cond.methodLink RX5 140 yX5_nextBounds]
def wsX5_fair_r3 : List Cond := [Cond.instanceMethod yX5_nextBounds, Cond.selects RX5 yX5_nextBounds yX5_nextBounds, Cond.code yX5_nextBounds cX5_nextBounds 4 (some .boolean), Cond.methodLink RX5 147 yX5_toldCut, Cond.instanceMethod yX5_toldCut, Cond.selects RX5 yX5_toldCut yX5_toldCut, Cond.code yX5_toldCut cX5_toldCut 5 (some .int)]
def wsX5_fair : List Cond := .code yX5_fair cX5_fair 3 (some .int) :: ((wsX5_fair_r1 ++ (wsX5_fair_r2 ++ wsX5_fair_r3)) ++ wsX50)
def wsX5_best_r1 : List Cond := [Cond.fieldLink RX5 133 "HillSlicesModel" "foundLeast" "I", Cond.methodLink RX5 66 yX5_in, Cond.static yX5_in, Cond.initialized RX5, Cond.code yX5_in cX5_in 3 (some .boolean), Cond.methodLink RX5 143 yX5_layCut, Cond.instanceMethod yX5_layCut, Cond.selects RX5 yX5_layCut yX5_layCut, Cond.code yX5_layCut cX5_layCut 8 (some .boolean), Cond.fieldLink RX5 35 "HillSlicesModel" "bound" "[I", Cond.methodLink RX5 121 yX5_layAhead, Cond.instanceMethod yX5_layAhead, Cond.selects RX5 yX5_layAhead yX5_layAhead, Cond.code yX5_layAhead cX5_layAhead 3 none, Cond.fieldLink RX5 32 "HillSlicesModel" "ahead" "[I", Cond.methodLink RX5 109 yX5_sectorWorth, Cond.instanceMethod yX5_sectorWorth, Cond.selects RX5 yX5_sectorWorth yX5_sectorWorth, Cond.code yX5_sectorWorth cX5_sectorWorth 5 (some .int), Cond.fieldLink RX5 22 "HillSlicesModel" "worth" "[I", Cond.fieldLink RX5 13 "HillSlicesModel" "sort" "[I", Cond.methodLink RX5 73 yX5_sortOf, Cond.static yX5_sortOf, Cond.code yX5_sortOf cX5_sortOf 1 (some .int)]
def wsX5_best_r2 : List Cond := [Cond.methodLink RX5 124 yX5_layOwners, Cond.instanceMethod yX5_layOwners, Cond.selects RX5 yX5_layOwners yX5_layOwners, Cond.code yX5_layOwners cX5_layOwners 6 (some .boolean), Cond.fieldLink RX5 38 "HillSlicesModel" "owner" "[I", Cond.methodLink RX5 127 yX5_leastShare, Cond.instanceMethod yX5_leastShare, Cond.selects RX5 yX5_leastShare yX5_leastShare, Cond.code yX5_leastShare cX5_leastShare 5 (some .int), Cond.methodLink RX5 117 yX5_arcWorth, Cond.instanceMethod yX5_arcWorth, Cond.selects RX5 yX5_arcWorth yX5_arcWorth, Cond.code yX5_arcWorth cX5_arcWorth 7 (some .int), Cond.methodLink RX5 130 yX5_isFair, Cond.instanceMethod yX5_isFair, Cond.selects RX5 yX5_isFair yX5_isFair, Cond.code yX5_isFair cX5_isFair 5 (some .boolean), Cond.methodLink RX5 136 yX5_keepCut, Cond.instanceMethod yX5_keepCut, Cond.selects RX5 yX5_keepCut yX5_keepCut, Cond.code yX5_keepCut cX5_keepCut 3 none, Cond.fieldLink RX5 41 "HillSlicesModel" "foundBound" "[I", Cond.fieldLink RX5 44 "HillSlicesModel" "foundOwner" "[I", Cond.methodLink RX5 140 yX5_nextBounds]
def wsX5_best_r3 : List Cond := [Cond.instanceMethod yX5_nextBounds, Cond.selects RX5 yX5_nextBounds yX5_nextBounds, Cond.code yX5_nextBounds cX5_nextBounds 4 (some .boolean), Cond.methodLink RX5 147 yX5_toldCut, Cond.instanceMethod yX5_toldCut, Cond.selects RX5 yX5_toldCut yX5_toldCut, Cond.code yX5_toldCut cX5_toldCut 5 (some .int)]
def wsX5_best : List Cond := .code yX5_best cX5_best 4 (some .int) :: ((wsX5_best_r1 ++ (wsX5_best_r2 ++ wsX5_best_r3)) ++ wsX50)
def wsX5_toll : List Cond := .code yX5_toll cX5_toll 3 (some .int) :: ([.fieldLink RX5 25 "HillSlicesModel" "toll" "I", .methodLink RX5 66 yX5_in, .static yX5_in, .initialized RX5, .code yX5_in cX5_in 3 (some .boolean)] ++ wsX50)
def wsX5_right : List Cond := .code yX5_right cX5_right 5 (some .int) :: ([.fieldLink RX5 29 "HillSlicesModel" "rights" "[I", .methodLink RX5 97 yX5_isHeir, .static yX5_isHeir, .initialized RX5, .code yX5_isHeir cX5_isHeir 1 (some .boolean), .methodLink RX5 66 yX5_in, .static yX5_in, .code yX5_in cX5_in 3 (some .boolean)] ++ wsX50)
def wsX5_wayCost : List Cond := .code yX5_wayCost cX5_wayCost 9 (some .int) :: ([.fieldLink RX5 16 "HillSlicesModel" "heir" "[I", .fieldLink RX5 29 "HillSlicesModel" "rights" "[I", .fieldLink RX5 25 "HillSlicesModel" "toll" "I", .methodLink RX5 151 yX5_next, .static yX5_next, .initialized RX5, .code yX5_next cX5_next 1 (some .int), .methodLink RX5 154 yX5_before, .static yX5_before, .code yX5_before cX5_before 1 (some .int), .methodLink RX5 106 yX5_hasBit, .static yX5_hasBit, .code yX5_hasBit cX5_hasBit 2 (some .boolean)] ++ wsX50)
def wsX5_way_r1 : List Cond := [Cond.methodLink RX5 97 yX5_isHeir, Cond.static yX5_isHeir, Cond.initialized RX5, Cond.code yX5_isHeir cX5_isHeir 1 (some .boolean), Cond.methodLink RX5 66 yX5_in, Cond.static yX5_in, Cond.code yX5_in cX5_in 3 (some .boolean), Cond.methodLink RX5 100 yX5_isSector, Cond.static yX5_isSector, Cond.code yX5_isSector cX5_isSector 1 (some .boolean), Cond.methodLink RX5 157 yX5_wayCost, Cond.instanceMethod yX5_wayCost, Cond.selects RX5 yX5_wayCost yX5_wayCost, Cond.code yX5_wayCost cX5_wayCost 9 (some .int), Cond.fieldLink RX5 16 "HillSlicesModel" "heir" "[I", Cond.fieldLink RX5 29 "HillSlicesModel" "rights" "[I", Cond.fieldLink RX5 25 "HillSlicesModel" "toll" "I", Cond.methodLink RX5 151 yX5_next, Cond.static yX5_next, Cond.code yX5_next cX5_next 1 (some .int), Cond.methodLink RX5 154 yX5_before, Cond.static yX5_before, Cond.code yX5_before cX5_before 1 (some .int), Cond.methodLink RX5 106 yX5_hasBit]
def wsX5_way_r2 : List Cond := [Cond.static yX5_hasBit, Cond.code yX5_hasBit cX5_hasBit 2 (some .boolean)]
def wsX5_way : List Cond := .code yX5_way cX5_way 9 (some .int) :: ((wsX5_way_r1 ++ wsX5_way_r2) ++ wsX50)
def wsX5_hitBy : List Cond := .code yX5_hitBy cX5_hitBy 8 (some .int) :: ([.fieldLink RX5 161 "HillSlicesModel" "stops" "I", .fieldLink RX5 13 "HillSlicesModel" "sort" "[I", .fieldLink RX5 16 "HillSlicesModel" "heir" "[I", .methodLink RX5 151 yX5_next, .static yX5_next, .initialized RX5, .code yX5_next cX5_next 1 (some .int)] ++ wsX50)
def wsX5_stone : List Cond := .code yX5_stone cX5_stone 5 (some .int) :: ([.fieldLink RX5 161 "HillSlicesModel" "stops" "I", .methodLink RX5 87 yX5_isRing, .static yX5_isRing, .initialized RX5, .code yX5_isRing cX5_isRing 1 (some .boolean), .methodLink RX5 66 yX5_in, .static yX5_in, .code yX5_in cX5_in 3 (some .boolean), .methodLink RX5 100 yX5_isSector, .static yX5_isSector, .code yX5_isSector cX5_isSector 1 (some .boolean), .methodLink RX5 164 yX5_hitBy, .instanceMethod yX5_hitBy, .selects RX5 yX5_hitBy yX5_hitBy, .code yX5_hitBy cX5_hitBy 8 (some .int), .fieldLink RX5 13 "HillSlicesModel" "sort" "[I", .fieldLink RX5 16 "HillSlicesModel" "heir" "[I", .methodLink RX5 151 yX5_next, .static yX5_next, .code yX5_next cX5_next 1 (some .int)] ++ wsX50)
def wsX5_avalanche : List Cond := .code yX5_avalanche cX5_avalanche 11 (some .int) :: ([.fieldLink RX5 13 "HillSlicesModel" "sort" "[I", .fieldLink RX5 16 "HillSlicesModel" "heir" "[I", .methodLink RX5 87 yX5_isRing, .static yX5_isRing, .initialized RX5, .code yX5_isRing cX5_isRing 1 (some .boolean), .methodLink RX5 66 yX5_in, .static yX5_in, .code yX5_in cX5_in 3 (some .boolean), .methodLink RX5 100 yX5_isSector, .static yX5_isSector, .code yX5_isSector cX5_isSector 1 (some .boolean), .methodLink RX5 106 yX5_hasBit, .static yX5_hasBit, .code yX5_hasBit cX5_hasBit 2 (some .boolean), .methodLink RX5 151 yX5_next, .static yX5_next, .code yX5_next cX5_next 1 (some .int), .methodLink RX5 154 yX5_before, .static yX5_before, .code yX5_before cX5_before 1 (some .int)] ++ wsX50)
def wsX5_rolls : List Cond := .code yX5_rolls cX5_rolls 4 (some .int) :: ([.fieldLink RX5 16 "HillSlicesModel" "heir" "[I", .methodLink RX5 97 yX5_isHeir, .static yX5_isHeir, .initialized RX5, .code yX5_isHeir cX5_isHeir 1 (some .boolean), .methodLink RX5 66 yX5_in, .static yX5_in, .code yX5_in cX5_in 3 (some .boolean), .methodLink RX5 164 yX5_hitBy, .instanceMethod yX5_hitBy, .selects RX5 yX5_hitBy yX5_hitBy, .code yX5_hitBy cX5_hitBy 8 (some .int), .fieldLink RX5 161 "HillSlicesModel" "stops" "I", .fieldLink RX5 13 "HillSlicesModel" "sort" "[I", .methodLink RX5 151 yX5_next, .static yX5_next, .code yX5_next cX5_next 1 (some .int)] ++ wsX50)
def wsX5_begins : List Cond := .code yX5_begins cX5_begins 3 (some .boolean) :: ([.fieldLink RX5 16 "HillSlicesModel" "heir" "[I", .fieldLink RX5 13 "HillSlicesModel" "sort" "[I"] ++ wsX50)
def wsX5_ends : List Cond := .code yX5_ends cX5_ends 3 (some .boolean) :: ([.fieldLink RX5 16 "HillSlicesModel" "heir" "[I", .fieldLink RX5 13 "HillSlicesModel" "sort" "[I"] ++ wsX50)
def wsX5_goes : List Cond := .code yX5_goes cX5_goes 7 (some .int) :: ([.fieldLink RX5 47 "HillSlicesModel" "beside" "[I", .fieldLink RX5 50 "HillSlicesModel" "upward" "[I", .methodLink RX5 151 yX5_next, .static yX5_next, .initialized RX5, .code yX5_next cX5_next 1 (some .int), .methodLink RX5 154 yX5_before, .static yX5_before, .code yX5_before cX5_before 1 (some .int)] ++ wsX50)
def wsX5_go : List Cond := .code yX5_go cX5_go 4 none :: ([.fieldLink RX5 47 "HillSlicesModel" "beside" "[I", .fieldLink RX5 50 "HillSlicesModel" "upward" "[I"] ++ wsX50)
def wsX5_goOne_r1 : List Cond := [Cond.fieldLink RX5 53 "HillSlicesModel" "from" "[I", Cond.fieldLink RX5 56 "HillSlicesModel" "queue" "[I", Cond.methodLink RX5 167 yX5_begins, Cond.instanceMethod yX5_begins, Cond.selects RX5 yX5_begins yX5_begins, Cond.initialized RX5, Cond.code yX5_begins cX5_begins 3 (some .boolean), Cond.fieldLink RX5 16 "HillSlicesModel" "heir" "[I", Cond.fieldLink RX5 13 "HillSlicesModel" "sort" "[I", Cond.methodLink RX5 170 yX5_goes, Cond.instanceMethod yX5_goes, Cond.selects RX5 yX5_goes yX5_goes, Cond.code yX5_goes cX5_goes 7 (some .int), Cond.fieldLink RX5 47 "HillSlicesModel" "beside" "[I", Cond.fieldLink RX5 50 "HillSlicesModel" "upward" "[I", Cond.methodLink RX5 151 yX5_next, Cond.static yX5_next, Cond.code yX5_next cX5_next 1 (some .int), Cond.methodLink RX5 154 yX5_before, Cond.static yX5_before, Cond.code yX5_before cX5_before 1 (some .int), Cond.methodLink RX5 173 yX5_ends, Cond.instanceMethod yX5_ends, Cond.selects RX5 yX5_ends yX5_ends]
def wsX5_goOne_r2 : List Cond := [Cond.code yX5_ends cX5_ends 3 (some .boolean), Cond.methodLink RX5 176 yX5_go, Cond.instanceMethod yX5_go, Cond.selects RX5 yX5_go yX5_go, Cond.code yX5_go cX5_go 4 none]
def wsX5_goOne : List Cond := .code yX5_goOne cX5_goOne 8 (some .boolean) :: ((wsX5_goOne_r1 ++ wsX5_goOne_r2) ++ wsX50)
def wsX5_fence_r1 : List Cond := [Cond.fieldLink RX5 47 "HillSlicesModel" "beside" "[I", Cond.fieldLink RX5 50 "HillSlicesModel" "upward" "[I", Cond.methodLink RX5 97 yX5_isHeir, Cond.static yX5_isHeir, Cond.initialized RX5, Cond.code yX5_isHeir cX5_isHeir 1 (some .boolean), Cond.methodLink RX5 66 yX5_in, Cond.static yX5_in, Cond.code yX5_in cX5_in 3 (some .boolean), Cond.methodLink RX5 180 yX5_goOne, Cond.instanceMethod yX5_goOne, Cond.selects RX5 yX5_goOne yX5_goOne, Cond.code yX5_goOne cX5_goOne 8 (some .boolean), Cond.fieldLink RX5 53 "HillSlicesModel" "from" "[I", Cond.fieldLink RX5 56 "HillSlicesModel" "queue" "[I", Cond.methodLink RX5 167 yX5_begins, Cond.instanceMethod yX5_begins, Cond.selects RX5 yX5_begins yX5_begins, Cond.code yX5_begins cX5_begins 3 (some .boolean), Cond.fieldLink RX5 16 "HillSlicesModel" "heir" "[I", Cond.fieldLink RX5 13 "HillSlicesModel" "sort" "[I", Cond.methodLink RX5 170 yX5_goes, Cond.instanceMethod yX5_goes, Cond.selects RX5 yX5_goes yX5_goes]
def wsX5_fence_r2 : List Cond := [Cond.code yX5_goes cX5_goes 7 (some .int), Cond.methodLink RX5 151 yX5_next, Cond.static yX5_next, Cond.code yX5_next cX5_next 1 (some .int), Cond.methodLink RX5 154 yX5_before, Cond.static yX5_before, Cond.code yX5_before cX5_before 1 (some .int), Cond.methodLink RX5 173 yX5_ends, Cond.instanceMethod yX5_ends, Cond.selects RX5 yX5_ends yX5_ends, Cond.code yX5_ends cX5_ends 3 (some .boolean), Cond.methodLink RX5 176 yX5_go, Cond.instanceMethod yX5_go, Cond.selects RX5 yX5_go yX5_go, Cond.code yX5_go cX5_go 4 none]
def wsX5_fence : List Cond := .code yX5_fence cX5_fence 3 (some .int) :: ((wsX5_fence_r1 ++ wsX5_fence_r2) ++ wsX50)
def wsX5_spring : List Cond := .code yX5_spring cX5_spring 9 (some .int) :: ([.fieldLink RX5 16 "HillSlicesModel" "heir" "[I", .methodLink RX5 100 yX5_isSector, .static yX5_isSector, .initialized RX5, .code yX5_isSector cX5_isSector 1 (some .boolean), .methodLink RX5 66 yX5_in, .static yX5_in, .code yX5_in cX5_in 3 (some .boolean)] ++ wsX50)
def wsX5_boundsBy : List Cond := .code yX5_boundsBy cX5_boundsBy 7 (some .int) :: ([.fieldLink RX5 16 "HillSlicesModel" "heir" "[I", .methodLink RX5 151 yX5_next, .static yX5_next, .initialized RX5, .code yX5_next cX5_next 1 (some .int)] ++ wsX50)
def wsX5_bestWedding : List Cond := .code yX5_bestWedding cX5_bestWedding 5 (some .int) :: ([.methodLink RX5 77 yX5_sectorsOf, .instanceMethod yX5_sectorsOf, .selects RX5 yX5_sectorsOf yX5_sectorsOf, .initialized RX5, .code yX5_sectorsOf cX5_sectorsOf 4 (some .int), .fieldLink RX5 16 "HillSlicesModel" "heir" "[I", .methodLink RX5 183 yX5_boundsBy, .instanceMethod yX5_boundsBy, .selects RX5 yX5_boundsBy yX5_boundsBy, .code yX5_boundsBy cX5_boundsBy 7 (some .int), .methodLink RX5 151 yX5_next, .static yX5_next, .code yX5_next cX5_next 1 (some .int)] ++ wsX50)
def wsX5_narrowest : List Cond := .code yX5_narrowest cX5_narrowest 4 (some .int) :: ([.fieldLink RX5 16 "HillSlicesModel" "heir" "[I", .methodLink RX5 154 yX5_before, .static yX5_before, .initialized RX5, .code yX5_before cX5_before 1 (some .int)] ++ wsX50)
def wsX5_bounds : List Cond := .code yX5_bounds cX5_bounds 2 (some .int) :: ([.methodLink RX5 183 yX5_boundsBy, .instanceMethod yX5_boundsBy, .selects RX5 yX5_boundsBy yX5_boundsBy, .initialized RX5, .code yX5_boundsBy cX5_boundsBy 7 (some .int), .fieldLink RX5 16 "HillSlicesModel" "heir" "[I", .methodLink RX5 151 yX5_next, .static yX5_next, .code yX5_next cX5_next 1 (some .int), .methodLink RX5 186 yX5_bestWedding, .instanceMethod yX5_bestWedding, .selects RX5 yX5_bestWedding yX5_bestWedding, .code yX5_bestWedding cX5_bestWedding 5 (some .int), .methodLink RX5 77 yX5_sectorsOf, .instanceMethod yX5_sectorsOf, .selects RX5 yX5_sectorsOf yX5_sectorsOf, .code yX5_sectorsOf cX5_sectorsOf 4 (some .int), .methodLink RX5 190 yX5_narrowest, .instanceMethod yX5_narrowest, .selects RX5 yX5_narrowest yX5_narrowest, .code yX5_narrowest cX5_narrowest 4 (some .int), .methodLink RX5 154 yX5_before, .static yX5_before, .code yX5_before cX5_before 1 (some .int)] ++ wsX50)
def wsX5_image : List Cond := .code yX5_image cX5_image 4 (some .int) :: ([.fieldLink RX5 59 "HillSlicesModel" "image" "[I", .fieldLink RX5 13 "HillSlicesModel" "sort" "[I", .fieldLink RX5 16 "HillSlicesModel" "heir" "[I", .fieldLink RX5 19 "HillSlicesModel" "was" "[I", .fieldLink RX5 22 "HillSlicesModel" "worth" "[I", .fieldLink RX5 29 "HillSlicesModel" "rights" "[I", .fieldLink RX5 91 "HillSlicesModel" "generations" "I", .fieldLink RX5 25 "HillSlicesModel" "toll" "I", .fieldLink RX5 62 "HillSlicesModel" "isKept" "[Z", .methodLink RX5 66 yX5_in, .static yX5_in, .initialized RX5, .code yX5_in cX5_in 3 (some .boolean)] ++ wsX50)
def wsX5_restore : List Cond := .code yX5_restore cX5_restore 4 (some .int) :: ([.fieldLink RX5 62 "HillSlicesModel" "isKept" "[Z", .fieldLink RX5 13 "HillSlicesModel" "sort" "[I", .fieldLink RX5 59 "HillSlicesModel" "image" "[I", .fieldLink RX5 16 "HillSlicesModel" "heir" "[I", .fieldLink RX5 19 "HillSlicesModel" "was" "[I", .fieldLink RX5 22 "HillSlicesModel" "worth" "[I", .fieldLink RX5 29 "HillSlicesModel" "rights" "[I", .fieldLink RX5 91 "HillSlicesModel" "generations" "I", .fieldLink RX5 25 "HillSlicesModel" "toll" "I", .methodLink RX5 66 yX5_in, .static yX5_in, .initialized RX5, .code yX5_in cX5_in 3 (some .boolean)] ++ wsX50)
def wsX5_told : List Cond := .code yX5_told cX5_told 2 (some .int) :: ([.fieldLink RX5 29 "HillSlicesModel" "rights" "[I", .fieldLink RX5 22 "HillSlicesModel" "worth" "[I", .fieldLink RX5 70 "HillSlicesModel" "signs" "I", .fieldLink RX5 91 "HillSlicesModel" "generations" "I", .fieldLink RX5 25 "HillSlicesModel" "toll" "I", .methodLink RX5 66 yX5_in, .static yX5_in, .initialized RX5, .code yX5_in cX5_in 3 (some .boolean), .methodLink RX5 77 yX5_sectorsOf, .instanceMethod yX5_sectorsOf, .selects RX5 yX5_sectorsOf yX5_sectorsOf, .code yX5_sectorsOf cX5_sectorsOf 4 (some .int), .fieldLink RX5 16 "HillSlicesModel" "heir" "[I"] ++ wsX50)
def wsJ9_max_7cf53 : List Cond := .code yJ9_max_7cf53 cJ9_max_7cf53 2 (some .int) :: ([])
def wsJ9_min_7cf53 : List Cond := .code yJ9_min_7cf53 cJ9_min_7cf53 2 (some .int) :: ([])
def wsL_law_r1 : List Cond := [Cond.classLink RL 7 RX4, Cond.instantiable RX4 6, Cond.initialized RX4, Cond.classLink RL 10 RX5, Cond.instantiable RX5 22, Cond.initialized RX5, Cond.methodLink RL 9 yX4_init, Cond.instanceMethod yX4_init, Cond.code yX4_init cX4_init 1 none, Cond.methodLink RX4 3 objectInit, Cond.instanceMethod objectInit, Cond.code objectInit ⟨#[0xb1]⟩ 1 none, Cond.classLink RX4 9 RX3, Cond.instantiable RX3 3, Cond.initialized RX3, Cond.fieldLink RX4 12 "HillSlices" "pad" "LHillSlices$Pad;", Cond.classLink RX4 16 RX2, Cond.instantiable RX2 6, Cond.initialized RX2, Cond.fieldLink RX4 19 "HillSlices" "hill" "LHillSlices$Hill;", Cond.fieldLink RX4 23 "HillSlices" "images" "[LHillSlices$Hill;", Cond.classLink RX4 27 RX0, Cond.instantiable RX0 9, Cond.initialized RX0]
def wsL_law_r2 : List Cond := [Cond.fieldLink RX4 32 "HillSlices" "fairCut" "LHillSlices$Cut;", Cond.fieldLink RX4 36 "HillSlices" "bestCut" "LHillSlices$Cut;", Cond.classLink RX4 39 RX1, Cond.instantiable RX1 5, Cond.initialized RX1, Cond.fieldLink RX4 42 "HillSlices" "leastFence" "LHillSlices$Fence;", Cond.instanceMethod yX3_init, Cond.code yX3_init cX3_init 1 none, Cond.methodLink RX3 3 objectInit, Cond.arrayClass .char, Cond.fieldLink RX3 9 "HillSlices$Pad" "signs" "[C", Cond.arrayClass .int, Cond.fieldLink RX3 15 "HillSlices$Pad" "row" "[I", Cond.methodLink RX4 18 yX2_init, Cond.instanceMethod yX2_init, Cond.code yX2_init cX2_init 2 none, Cond.methodLink RX2 3 objectInit, Cond.fieldLink RX2 9 "HillSlices$Hill" "sorts" "[I", Cond.fieldLink RX2 15 "HillSlices$Hill" "owners" "[I", Cond.fieldLink RX2 18 "HillSlices$Hill" "worths" "[I", Cond.fieldLink RX2 21 "HillSlices$Hill" "gave" "[I", Cond.fieldLink RX2 24 "HillSlices$Hill" "toll" "I", Cond.methodLink RX4 29 yX0_init, Cond.instanceMethod yX0_init]
def wsL_law_r3 : List Cond := [Cond.code yX0_init cX0_init 2 none, Cond.methodLink RX0 3 objectInit, Cond.fieldLink RX0 11 "HillSlices$Cut" "sums" "[I", Cond.fieldLink RX0 15 "HillSlices$Cut" "shares" "[I", Cond.fieldLink RX0 18 "HillSlices$Cut" "begins" "[I", Cond.fieldLink RX0 21 "HillSlices$Cut" "heirs" "[I", Cond.fieldLink RX0 24 "HillSlices$Cut" "foundBegins" "[I", Cond.fieldLink RX0 27 "HillSlices$Cut" "foundHeirs" "[I", Cond.fieldLink RX0 30 "HillSlices$Cut" "fair" "Z", Cond.instanceMethod yX1_init, Cond.code yX1_init cX1_init 1 none, Cond.methodLink RX1 3 objectInit, Cond.fieldLink RX1 11 "HillSlices$Fence" "room" "[I", Cond.fieldLink RX1 15 "HillSlices$Fence" "came" "[I", Cond.fieldLink RX1 18 "HillSlices$Fence" "queue" "[I", Cond.arrayClass .boolean, Cond.fieldLink RX1 21 "HillSlices$Fence" "goals" "[Z", Cond.methodLink RL 12 yX5_init, Cond.instanceMethod yX5_init, Cond.code yX5_init cX5_init 3 none, Cond.methodLink RX5 1 objectInit, Cond.fieldLink RX5 7 "HillSlicesModel" "pad" "[I", Cond.fieldLink RX5 13 "HillSlicesModel" "sort" "[I", Cond.fieldLink RX5 16 "HillSlicesModel" "heir" "[I"]
def wsL_law_r4 : List Cond := [Cond.fieldLink RX5 19 "HillSlicesModel" "was" "[I", Cond.fieldLink RX5 22 "HillSlicesModel" "worth" "[I", Cond.fieldLink RX5 25 "HillSlicesModel" "toll" "I", Cond.fieldLink RX5 29 "HillSlicesModel" "rights" "[I", Cond.fieldLink RX5 32 "HillSlicesModel" "ahead" "[I", Cond.fieldLink RX5 35 "HillSlicesModel" "bound" "[I", Cond.fieldLink RX5 38 "HillSlicesModel" "owner" "[I", Cond.fieldLink RX5 41 "HillSlicesModel" "foundBound" "[I", Cond.fieldLink RX5 44 "HillSlicesModel" "foundOwner" "[I", Cond.fieldLink RX5 47 "HillSlicesModel" "beside" "[I", Cond.fieldLink RX5 50 "HillSlicesModel" "upward" "[I", Cond.fieldLink RX5 53 "HillSlicesModel" "from" "[I", Cond.fieldLink RX5 56 "HillSlicesModel" "queue" "[I", Cond.fieldLink RX5 59 "HillSlicesModel" "image" "[I", Cond.fieldLink RX5 62 "HillSlicesModel" "isKept" "[Z", Cond.methodLink RL 13 yX4_say, Cond.instanceMethod yX4_say, Cond.selects RX4 yX4_say yX4_say, Cond.code yX4_say cX4_say 2 (some .int), Cond.methodLink RX4 46 yX3_add, Cond.instanceMethod yX3_add, Cond.selects RX3 yX3_add yX3_add, Cond.code yX3_add cX3_add 2 (some .int), Cond.fieldLink RX3 19 "HillSlices$Pad" "count" "I"]
def wsL_law_r5 : List Cond := [Cond.methodLink RL 17 yX5_say, Cond.instanceMethod yX5_say, Cond.selects RX5 yX5_say yX5_say, Cond.code yX5_say cX5_say 2 (some .int), Cond.fieldLink RX5 70 "HillSlicesModel" "signs" "I", Cond.methodLink RX5 66 yX5_in, Cond.static yX5_in, Cond.code yX5_in cX5_in 3 (some .boolean), Cond.methodLink RL 18 yX4_wipe, Cond.instanceMethod yX4_wipe, Cond.selects RX4 yX4_wipe yX4_wipe, Cond.code yX4_wipe cX4_wipe 1 (some .int), Cond.methodLink RX4 50 yX3_empty, Cond.instanceMethod yX3_empty, Cond.selects RX3 yX3_empty yX3_empty, Cond.code yX3_empty cX3_empty 2 (some .int), Cond.methodLink RL 22 yX5_wipe, Cond.instanceMethod yX5_wipe, Cond.selects RX5 yX5_wipe yX5_wipe, Cond.code yX5_wipe cX5_wipe 2 (some .int), Cond.methodLink RL 23 yX4_fault, Cond.instanceMethod yX4_fault, Cond.selects RX4 yX4_fault yX4_fault, Cond.code yX4_fault cX4_fault 2 (some .int)]
def wsL_law_r6 : List Cond := [Cond.methodLink RX4 54 yX4_faultAs, Cond.instanceMethod yX4_faultAs, Cond.selects RX4 yX4_faultAs yX4_faultAs, Cond.code yX4_faultAs cX4_faultAs 3 (some .int), Cond.methodLink RX4 207 yX3_faultOfRuns, Cond.instanceMethod yX3_faultOfRuns, Cond.selects RX3 yX3_faultOfRuns yX3_faultOfRuns, Cond.code yX3_faultOfRuns cX3_faultOfRuns 7 (some .int), Cond.methodLink RX3 29 yX3_letterAt, Cond.instanceMethod yX3_letterAt, Cond.selects RX3 yX3_letterAt yX3_letterAt, Cond.code yX3_letterAt cX3_letterAt 3 (some .int), Cond.methodLink RX3 23 yJ0_indexOf_0f7a4, Cond.instanceMethod yJ0_indexOf_0f7a4, Cond.selects RJ0 yJ0_indexOf_0f7a4 yJ0_indexOf_0f7a4, Cond.initialized RJ0, Cond.code yJ0_indexOf_0f7a4 cJ0_indexOf_0f7a4 2 (some .int), Cond.methodLink RJ0 633 yJ0_indexOf_7cf53, Cond.instanceMethod yJ0_indexOf_7cf53, Cond.selects RJ0 yJ0_indexOf_7cf53 yJ0_indexOf_7cf53, Cond.code yJ0_indexOf_7cf53 cJ0_indexOf_7cf53 3 (some .int), Cond.fieldLink RJ0 9 "java/lang/String" "value" "[B", Cond.methodLink RJ0 492 yJ0_isLatin1_aae02, Cond.instanceMethod yJ0_isLatin1_aae02]
def wsL_law_r7 : List Cond := [Cond.selects RJ0 yJ0_isLatin1_aae02 yJ0_isLatin1_aae02, Cond.code yJ0_isLatin1_aae02 cJ0_isLatin1_aae02 1 (some .boolean), Cond.fieldLink RJ0 38 "java/lang/String" "COMPACT_STRINGS" "Z", Cond.fieldLink RJ0 15 "java/lang/String" "coder" "B", Cond.methodLink RJ0 505 yJ0_length_8abf5, Cond.instanceMethod yJ0_length_8abf5, Cond.selects RJ0 yJ0_length_8abf5 yJ0_length_8abf5, Cond.code yJ0_length_8abf5 cJ0_length_8abf5 1 (some .int), Cond.methodLink RJ0 335 yJ0_coder_7d493, Cond.instanceMethod yJ0_coder_7d493, Cond.selects RJ0 yJ0_coder_7d493 yJ0_coder_7d493, Cond.code yJ0_coder_7d493 cJ0_coder_7d493 1 (some .byte), Cond.methodLink RJ0 637 yJ1_indexOf_4cfef, Cond.static yJ1_indexOf_4cfef, Cond.initialized RJ1, Cond.code yJ1_indexOf_4cfef cJ1_indexOf_4cfef 4 (some .int), Cond.methodLink RJ1 92 Lib.Math.max.name, Cond.static Lib.Math.max.name, Cond.initialized "java/lang/Math", Cond.code Lib.Math.max.name Lib.Math.max.code 2 (some .int), Cond.methodLink RJ1 38 Lib.Math.min.name, Cond.static Lib.Math.min.name, Cond.code Lib.Math.min.name Lib.Math.min.code 2 (some .int), Cond.methodLink RJ1 88 yJ1_canEncode_9a6ad]
def wsL_law_r8 : List Cond := [Cond.static yJ1_canEncode_9a6ad, Cond.code yJ1_canEncode_9a6ad cJ1_canEncode_9a6ad 1 (some .boolean), Cond.methodLink RJ1 95 yJ1_indexOfChar_4cfef, Cond.static yJ1_indexOfChar_4cfef, Cond.code yJ1_indexOfChar_4cfef cJ1_indexOfChar_4cfef 6 (some .int), Cond.methodLink RJ0 640 yJ2_indexOf_4cfef, Cond.static yJ2_indexOf_4cfef, Cond.initialized RJ2, Cond.code yJ2_indexOf_4cfef cJ2_indexOf_4cfef 4 (some .int), Cond.methodLink RJ2 224 Lib.Math.max.name, Cond.methodLink RJ2 183 Lib.Math.min.name, Cond.constant RJ2 227 (65536), Cond.methodLink RJ2 228 yJ2_indexOfChar_4cfef, Cond.static yJ2_indexOfChar_4cfef, Cond.code yJ2_indexOfChar_4cfef cJ2_indexOfChar_4cfef 4 (some .int), Cond.methodLink RJ2 96 yJ2_checkBoundsBeginEnd_d044e, Cond.static yJ2_checkBoundsBeginEnd_d044e, Cond.code yJ2_checkBoundsBeginEnd_d044e cJ2_checkBoundsBeginEnd_d044e 3 none, Cond.methodLink RJ2 48 yJ2_length_9d52b, Cond.static yJ2_length_9d52b, Cond.code yJ2_length_9d52b cJ2_length_9d52b 1 (some .int), Cond.methodLink RJ2 241 yJ0_checkBoundsBeginEnd_23922, Cond.static yJ0_checkBoundsBeginEnd_23922, Cond.code yJ0_checkBoundsBeginEnd_23922 cJ0_checkBoundsBeginEnd_23922 3 none]
def wsL_law_r9 : List Cond := [Cond.fieldLink RJ0 1053 "jdk/internal/util/Preconditions" "SIOOBE_FORMATTER" "Ljava/util/function/BiFunction;", Cond.methodLink RJ0 1062 yJ3_checkFromToIndex_8c36e, Cond.static yJ3_checkFromToIndex_8c36e, Cond.initialized RJ3, Cond.code yJ3_checkFromToIndex_8c36e cJ3_checkFromToIndex_8c36e 4 (some .int), Cond.methodLink RJ2 244 yJ2_indexOfCharUnsafe_4cfef, Cond.static yJ2_indexOfCharUnsafe_4cfef, Cond.code yJ2_indexOfCharUnsafe_4cfef cJ2_indexOfCharUnsafe_4cfef 5 (some .int), Cond.methodLink RJ2 71 yJ2_getChar_3b067, Cond.static yJ2_getChar_3b067, Cond.code yJ2_getChar_3b067 cJ2_getChar_3b067 2 (some .char), Cond.fieldLink RJ2 44 "java/lang/StringUTF16" "$assertionsDisabled" "Z", Cond.fieldLink RJ2 59 "java/lang/StringUTF16" "HI_BYTE_SHIFT" "I", Cond.fieldLink RJ2 63 "java/lang/StringUTF16" "LO_BYTE_SHIFT" "I", Cond.methodLink RJ2 232 yJ2_indexOfSupplementary_4cfef, Cond.static yJ2_indexOfSupplementary_4cfef, Cond.code yJ2_indexOfSupplementary_4cfef cJ2_indexOfSupplementary_4cfef 7 (some .int), Cond.methodLink RJ2 164 yJ11_isValidCodePoint_9a6ad, Cond.static yJ11_isValidCodePoint_9a6ad, Cond.initialized RJ11, Cond.code yJ11_isValidCodePoint_9a6ad cJ11_isValidCodePoint_9a6ad 2 (some .boolean), Cond.methodLink RJ2 157 yJ11_highSurrogate_5068e, Cond.static yJ11_highSurrogate_5068e, Cond.code yJ11_highSurrogate_5068e cJ11_highSurrogate_5068e 1 (some .char)]
def wsL_law_r10 : List Cond := [Cond.constant RJ11 110 (55232), Cond.methodLink RJ2 161 yJ11_lowSurrogate_5068e, Cond.static yJ11_lowSurrogate_5068e, Cond.code yJ11_lowSurrogate_5068e cJ11_lowSurrogate_5068e 1 (some .char), Cond.constant RJ11 76 (56320), Cond.methodLink RX3 33 yX3_digitAt, Cond.instanceMethod yX3_digitAt, Cond.selects RX3 yX3_digitAt yX3_digitAt, Cond.code yX3_digitAt cX3_digitAt 3 (some .int), Cond.methodLink RX4 85 yX3_letterAt, Cond.methodLink RX4 211 yX3_hasAt, Cond.instanceMethod yX3_hasAt, Cond.selects RX3 yX3_hasAt yX3_hasAt, Cond.code yX3_hasAt cX3_hasAt 3 (some .boolean), Cond.methodLink RX4 122 yX2_sectorsOf, Cond.instanceMethod yX2_sectorsOf, Cond.selects RX2 yX2_sectorsOf yX2_sectorsOf, Cond.code yX2_sectorsOf cX2_sectorsOf 4 (some .int), Cond.methodLink RX2 50 yX2_ownerOf, Cond.instanceMethod yX2_ownerOf, Cond.selects RX2 yX2_ownerOf yX2_ownerOf, Cond.code yX2_ownerOf cX2_ownerOf 2 (some .int), Cond.fieldLink RX2 40 "HillSlices$Hill" "generation" "I", Cond.methodLink RX2 47 yX2_ownerBehind]
def wsL_law_r11 : List Cond := [Cond.instanceMethod yX2_ownerBehind, Cond.selects RX2 yX2_ownerBehind yX2_ownerBehind, Cond.code yX2_ownerBehind cX2_ownerBehind 3 (some .int), Cond.methodLink RX4 192 yJ6_bitCount_0f7a4, Cond.static yJ6_bitCount_0f7a4, Cond.initialized RJ6, Cond.code yJ6_bitCount_0f7a4 cJ6_bitCount_0f7a4 1 (some .int), Cond.constant RJ6 265 (1431655765), Cond.constant RJ6 266 (858993459), Cond.constant RJ6 267 (252645135), Cond.methodLink RL 26 yX5_fault, Cond.instanceMethod yX5_fault, Cond.selects RX5 yX5_fault yX5_fault, Cond.code yX5_fault cX5_fault 2 (some .int), Cond.methodLink RX5 84 yX5_faultOf, Cond.instanceMethod yX5_faultOf, Cond.selects RX5 yX5_faultOf yX5_faultOf, Cond.code yX5_faultOf cX5_faultOf 7 (some .int), Cond.methodLink RX5 77 yX5_sectorsOf, Cond.instanceMethod yX5_sectorsOf, Cond.selects RX5 yX5_sectorsOf yX5_sectorsOf, Cond.code yX5_sectorsOf cX5_sectorsOf 4 (some .int), Cond.methodLink RX5 80 yX5_isLetter, Cond.static yX5_isLetter]
def wsL_law_r12 : List Cond := [Cond.code yX5_isLetter cX5_isLetter 2 (some .boolean), Cond.methodLink RX5 73 yX5_sortOf, Cond.static yX5_sortOf, Cond.code yX5_sortOf cX5_sortOf 1 (some .int), Cond.methodLink RL 27 yX4_ring, Cond.instanceMethod yX4_ring, Cond.selects RX4 yX4_ring yX4_ring, Cond.code yX4_ring cX4_ring 2 (some .int), Cond.methodLink RX4 58 yX4_isRing, Cond.static yX4_isRing, Cond.code yX4_isRing cX4_isRing 1 (some .boolean), Cond.methodLink RX4 64 yX3_readRuns, Cond.instanceMethod yX3_readRuns, Cond.selects RX3 yX3_readRuns yX3_readRuns, Cond.code yX3_readRuns cX3_readRuns 7 (some (.array .int)), Cond.methodLink RX4 68 yX2_setRing, Cond.instanceMethod yX2_setRing, Cond.selects RX2 yX2_setRing yX2_setRing, Cond.code yX2_setRing cX2_setRing 3 none, Cond.methodLink RX2 34 arraycopyName, Cond.native arraycopyName, Cond.static arraycopyName, Cond.initialized "java/lang/System", Cond.methodLink RX4 72 yX4_forgetCuts]
def wsL_law_r13 : List Cond := [Cond.instanceMethod yX4_forgetCuts, Cond.selects RX4 yX4_forgetCuts yX4_forgetCuts, Cond.code yX4_forgetCuts cX4_forgetCuts 1 none, Cond.methodLink RX4 222 yX0_forget, Cond.instanceMethod yX0_forget, Cond.selects RX0 yX0_forget yX0_forget, Cond.code yX0_forget cX0_forget 1 none, Cond.fieldLink RX0 34 "HillSlices$Cut" "n" "I", Cond.methodLink RL 30 yX5_ring, Cond.instanceMethod yX5_ring, Cond.selects RX5 yX5_ring yX5_ring, Cond.code yX5_ring cX5_ring 5 (some .int), Cond.methodLink RX5 87 yX5_isRing, Cond.static yX5_isRing, Cond.code yX5_isRing cX5_isRing 1 (some .boolean), Cond.methodLink RL 31 yX4_slices, Cond.instanceMethod yX4_slices, Cond.selects RX4 yX4_slices yX4_slices, Cond.code yX4_slices cX4_slices 1 (some .int), Cond.methodLink RX4 77 yX2_setSlices, Cond.instanceMethod yX2_setSlices, Cond.selects RX2 yX2_setSlices yX2_setSlices, Cond.code yX2_setSlices cX2_setSlices 2 none, Cond.methodLink RL 34 yX5_slices]
def wsL_law_r14 : List Cond := [Cond.instanceMethod yX5_slices, Cond.selects RX5 yX5_slices yX5_slices, Cond.code yX5_slices cX5_slices 4 (some .int), Cond.fieldLink RX5 91 "HillSlicesModel" "generations" "I", Cond.methodLink RX5 94 yX5_keepGeneration, Cond.instanceMethod yX5_keepGeneration, Cond.selects RX5 yX5_keepGeneration yX5_keepGeneration, Cond.code yX5_keepGeneration cX5_keepGeneration 2 none, Cond.methodLink RL 35 yX4_will, Cond.instanceMethod yX4_will, Cond.selects RX4 yX4_will yX4_will, Cond.code yX4_will cX4_will 2 (some .int), Cond.fieldLink RX4 81 "HillSlices$Hill" "generation" "I", Cond.methodLink RX4 89 yX2_beginGeneration, Cond.instanceMethod yX2_beginGeneration, Cond.selects RX2 yX2_beginGeneration yX2_beginGeneration, Cond.code yX2_beginGeneration cX2_beginGeneration 1 none, Cond.methodLink RX4 92 yX2_giveAway, Cond.instanceMethod yX2_giveAway, Cond.selects RX2 yX2_giveAway yX2_giveAway, Cond.code yX2_giveAway cX2_giveAway 5 none, Cond.methodLink RX2 54 yX2_give, Cond.instanceMethod yX2_give, Cond.selects RX2 yX2_give yX2_give]
def wsL_law_r15 : List Cond := [Cond.code yX2_give cX2_give 3 none, Cond.methodLink RL 38 yX5_will, Cond.instanceMethod yX5_will, Cond.selects RX5 yX5_will yX5_will, Cond.code yX5_will cX5_will 5 (some .int), Cond.methodLink RL 39 yX4_wedding, Cond.instanceMethod yX4_wedding, Cond.selects RX4 yX4_wedding yX4_wedding, Cond.code yX4_wedding cX4_wedding 3 (some .int), Cond.methodLink RX4 95 yX4_areTwoHeirs, Cond.static yX4_areTwoHeirs, Cond.code yX4_areTwoHeirs cX4_areTwoHeirs 2 (some .boolean), Cond.methodLink RX4 119 yX4_isHeir, Cond.static yX4_isHeir, Cond.code yX4_isHeir cX4_isHeir 1 (some .boolean), Cond.methodLink RX4 99 yX2_join, Cond.instanceMethod yX2_join, Cond.selects RX2 yX2_join yX2_join, Cond.code yX2_join cX2_join 4 none, Cond.methodLink RL 43 yX5_wedding, Cond.instanceMethod yX5_wedding, Cond.selects RX5 yX5_wedding yX5_wedding, Cond.code yX5_wedding cX5_wedding 4 (some .int), Cond.methodLink RX5 97 yX5_isHeir]
def wsL_law_r16 : List Cond := [Cond.static yX5_isHeir, Cond.code yX5_isHeir cX5_isHeir 1 (some .boolean), Cond.methodLink RL 44 yX4_cell, Cond.instanceMethod yX4_cell, Cond.selects RX4 yX4_cell yX4_cell, Cond.code yX4_cell cX4_cell 3 (some .int), Cond.methodLink RX4 103 yX4_isSector, Cond.static yX4_isSector, Cond.code yX4_isSector cX4_isSector 1 (some .boolean), Cond.methodLink RX4 106 yX2_sortAt, Cond.instanceMethod yX2_sortAt, Cond.selects RX2 yX2_sortAt yX2_sortAt, Cond.code yX2_sortAt cX2_sortAt 3 (some .int), Cond.methodLink RX4 110 yJ0_charAt_5068e, Cond.instanceMethod yJ0_charAt_5068e, Cond.selects RJ0 yJ0_charAt_5068e yJ0_charAt_5068e, Cond.code yJ0_charAt_5068e cJ0_charAt_5068e 2 (some .char), Cond.methodLink RJ0 495 yJ1_charAt_3b067, Cond.static yJ1_charAt_3b067, Cond.code yJ1_charAt_3b067 cJ1_charAt_3b067 2 (some .char), Cond.methodLink RJ1 9 yJ0_checkIndex_df160, Cond.static yJ0_checkIndex_df160, Cond.code yJ0_checkIndex_df160 cJ0_checkIndex_df160 2 none, Cond.methodLink RJ0 1059 yJ3_checkIndex_8e157]
def wsL_law_r17 : List Cond := [Cond.static yJ3_checkIndex_8e157, Cond.code yJ3_checkIndex_8e157 cJ3_checkIndex_8e157 3 (some .int), Cond.methodLink RJ0 498 yJ2_charAt_3b067, Cond.static yJ2_charAt_3b067, Cond.code yJ2_charAt_3b067 cJ2_charAt_3b067 2 (some .char), Cond.methodLink RJ2 67 yJ2_checkIndex_2214a, Cond.static yJ2_checkIndex_2214a, Cond.code yJ2_checkIndex_2214a cJ2_checkIndex_2214a 2 none, Cond.methodLink RJ2 414 yJ0_checkIndex_df160, Cond.methodLink RL 47 yX5_cell, Cond.instanceMethod yX5_cell, Cond.selects RX5 yX5_cell yX5_cell, Cond.code yX5_cell cX5_cell 3 (some .int), Cond.methodLink RX5 100 yX5_isSector, Cond.static yX5_isSector, Cond.code yX5_isSector cX5_isSector 1 (some .boolean), Cond.methodLink RL 48 yX4_was, Cond.instanceMethod yX4_was, Cond.selects RX4 yX4_was yX4_was, Cond.code yX4_was cX4_was 3 (some .int), Cond.methodLink RX4 116 yX2_ownerBehind, Cond.methodLink RL 51 yX5_was, Cond.instanceMethod yX5_was, Cond.selects RX5 yX5_was yX5_was]
def wsL_law_r18 : List Cond := [Cond.code yX5_was cX5_was 3 (some .int), Cond.methodLink RL 52 yX4_has, Cond.instanceMethod yX4_has, Cond.selects RX4 yX4_has yX4_has, Cond.code yX4_has cX4_has 2 (some .int), Cond.methodLink RL 55 yX5_has, Cond.instanceMethod yX5_has, Cond.selects RX5 yX5_has yX5_has, Cond.code yX5_has cX5_has 2 (some .int), Cond.methodLink RX5 103 yX5_sectors, Cond.instanceMethod yX5_sectors, Cond.selects RX5 yX5_sectors yX5_sectors, Cond.code yX5_sectors cX5_sectors 4 (some .int), Cond.methodLink RL 56 yX4_worth, Cond.instanceMethod yX4_worth, Cond.selects RX4 yX4_worth yX4_worth, Cond.code yX4_worth cX4_worth 5 (some .int), Cond.methodLink RX4 125 yX4_sortOfCode, Cond.static yX4_sortOfCode, Cond.code yX4_sortOfCode cX4_sortOfCode 1 (some .int), Cond.methodLink RX4 204 yJ0_indexOf_0f7a4, Cond.methodLink RX4 128 yX2_setWorth, Cond.instanceMethod yX2_setWorth, Cond.selects RX2 yX2_setWorth yX2_setWorth]
def wsL_law_r19 : List Cond := [Cond.code yX2_setWorth cX2_setWorth 5 (some .int), Cond.methodLink RL 60 yX5_worth, Cond.instanceMethod yX5_worth, Cond.selects RX5 yX5_worth yX5_worth, Cond.code yX5_worth cX5_worth 5 (some .int), Cond.methodLink RL 61 yX4_share, Cond.instanceMethod yX4_share, Cond.selects RX4 yX4_share yX4_share, Cond.code yX4_share cX4_share 3 (some .int), Cond.constant RX4 132 (16777215), Cond.methodLink RX4 133 yX2_shareOf, Cond.instanceMethod yX2_shareOf, Cond.selects RX2 yX2_shareOf yX2_shareOf, Cond.code yX2_shareOf cX2_shareOf 5 (some .int), Cond.methodLink RX2 58 yX2_shareOfSector, Cond.instanceMethod yX2_shareOfSector, Cond.selects RX2 yX2_shareOfSector yX2_shareOfSector, Cond.code yX2_shareOfSector cX2_shareOfSector 5 (some .int), Cond.methodLink RX2 43 yX2_sortAt, Cond.methodLink RL 64 yX5_share, Cond.instanceMethod yX5_share, Cond.selects RX5 yX5_share yX5_share, Cond.code yX5_share cX5_share 3 (some .int), Cond.constant RX5 113 (16777215)]
def wsL_law_r20 : List Cond := [Cond.methodLink RX5 114 yX5_shareOf, Cond.instanceMethod yX5_shareOf, Cond.selects RX5 yX5_shareOf yX5_shareOf, Cond.code yX5_shareOf cX5_shareOf 5 (some .int), Cond.methodLink RX5 106 yX5_hasBit, Cond.static yX5_hasBit, Cond.code yX5_hasBit cX5_hasBit 2 (some .boolean), Cond.methodLink RX5 109 yX5_sectorWorth, Cond.instanceMethod yX5_sectorWorth, Cond.selects RX5 yX5_sectorWorth yX5_sectorWorth, Cond.code yX5_sectorWorth cX5_sectorWorth 5 (some .int), Cond.methodLink RL 65 yX4_envies, Cond.instanceMethod yX4_envies, Cond.selects RX4 yX4_envies yX4_envies, Cond.code yX4_envies cX4_envies 5 (some .int), Cond.methodLink RL 68 yX5_envies, Cond.instanceMethod yX5_envies, Cond.selects RX5 yX5_envies yX5_envies, Cond.code yX5_envies cX5_envies 5 (some .int), Cond.methodLink RL 69 yX4_fair, Cond.instanceMethod yX4_fair, Cond.selects RX4 yX4_fair yX4_fair, Cond.code yX4_fair cX4_fair 3 (some .int), Cond.methodLink RX4 136 yX4_answerOfCut]
def wsL_law_r21 : List Cond := [Cond.instanceMethod yX4_answerOfCut, Cond.selects RX4 yX4_answerOfCut yX4_answerOfCut, Cond.code yX4_answerOfCut cX4_answerOfCut 4 (some .int), Cond.methodLink RX4 215 yX0_searchAmong, Cond.instanceMethod yX0_searchAmong, Cond.selects RX0 yX0_searchAmong yX0_searchAmong, Cond.code yX0_searchAmong cX0_searchAmong 6 none, Cond.fieldLink RX0 38 "HillSlices$Cut" "leastShare" "I", Cond.constant RX0 56 (1073741824), Cond.methodLink RX0 61 Lib.Math.min.name, Cond.methodLink RX0 45 yX0_sumUp, Cond.instanceMethod yX0_sumUp, Cond.selects RX0 yX0_sumUp yX0_sumUp, Cond.code yX0_sumUp cX0_sumUp 5 none, Cond.methodLink RX0 71 yX2_shareOfSector, Cond.methodLink RX0 49 yX0_isSettled, Cond.instanceMethod yX0_isSettled, Cond.selects RX0 yX0_isSettled yX0_isSettled, Cond.code yX0_isSettled cX0_isSettled 1 (some .boolean), Cond.methodLink RX0 41 yX0_isFound, Cond.instanceMethod yX0_isFound, Cond.selects RX0 yX0_isFound yX0_isFound, Cond.code yX0_isFound cX0_isFound 1 (some .boolean), Cond.methodLink RX0 52 yX0_firstArcOfNoUse]
def wsL_law_r22 : List Cond := [Cond.instanceMethod yX0_firstArcOfNoUse, Cond.selects RX0 yX0_firstArcOfNoUse yX0_firstArcOfNoUse, Cond.code yX0_firstArcOfNoUse cX0_firstArcOfNoUse 2 (some .int), Cond.methodLink RX0 76 yX0_noteShares, Cond.instanceMethod yX0_noteShares, Cond.selects RX0 yX0_noteShares yX0_noteShares, Cond.code yX0_noteShares cX0_noteShares 6 (some .boolean), Cond.methodLink RX0 79 yX0_isEnough, Cond.instanceMethod yX0_isEnough, Cond.selects RX0 yX0_isEnough yX0_isEnough, Cond.code yX0_isEnough cX0_isEnough 3 (some .boolean), Cond.methodLink RX0 57 yX0_chooseHeirs, Cond.instanceMethod yX0_chooseHeirs, Cond.selects RX0 yX0_chooseHeirs yX0_chooseHeirs, Cond.code yX0_chooseHeirs cX0_chooseHeirs 8 none, Cond.methodLink RX0 83 yX0_isEnvious, Cond.instanceMethod yX0_isEnvious, Cond.selects RX0 yX0_isEnvious yX0_isEnvious, Cond.code yX0_isEnvious cX0_isEnvious 5 (some .boolean), Cond.methodLink RX0 86 yX0_chooseBehind, Cond.instanceMethod yX0_chooseBehind, Cond.selects RX0 yX0_chooseBehind yX0_chooseBehind, Cond.code yX0_chooseBehind cX0_chooseBehind 4 none, Cond.methodLink RX0 89 yX0_keep]
def wsL_law_r23 : List Cond := [Cond.instanceMethod yX0_keep, Cond.selects RX0 yX0_keep yX0_keep, Cond.code yX0_keep cX0_keep 2 none, Cond.methodLink RX0 93 arraycopyName, Cond.methodLink RX0 67 yX0_stepBounds, Cond.instanceMethod yX0_stepBounds, Cond.selects RX0 yX0_stepBounds yX0_stepBounds, Cond.code yX0_stepBounds cX0_stepBounds 4 (some .boolean), Cond.methodLink RX4 219 yX0_answer, Cond.instanceMethod yX0_answer, Cond.selects RX0 yX0_answer yX0_answer, Cond.code yX0_answer cX0_answer 2 (some .int), Cond.methodLink RL 72 yX5_fair, Cond.instanceMethod yX5_fair, Cond.selects RX5 yX5_fair yX5_fair, Cond.code yX5_fair cX5_fair 3 (some .int), Cond.methodLink RX5 143 yX5_layCut, Cond.instanceMethod yX5_layCut, Cond.selects RX5 yX5_layCut yX5_layCut, Cond.code yX5_layCut cX5_layCut 8 (some .boolean), Cond.fieldLink RX5 133 "HillSlicesModel" "foundLeast" "I", Cond.methodLink RX5 121 yX5_layAhead, Cond.instanceMethod yX5_layAhead, Cond.selects RX5 yX5_layAhead yX5_layAhead]
def wsL_law_r24 : List Cond := [Cond.code yX5_layAhead cX5_layAhead 3 none, Cond.methodLink RX5 124 yX5_layOwners, Cond.instanceMethod yX5_layOwners, Cond.selects RX5 yX5_layOwners yX5_layOwners, Cond.code yX5_layOwners cX5_layOwners 6 (some .boolean), Cond.methodLink RX5 127 yX5_leastShare, Cond.instanceMethod yX5_leastShare, Cond.selects RX5 yX5_leastShare yX5_leastShare, Cond.code yX5_leastShare cX5_leastShare 5 (some .int), Cond.methodLink RX5 117 yX5_arcWorth, Cond.instanceMethod yX5_arcWorth, Cond.selects RX5 yX5_arcWorth yX5_arcWorth, Cond.code yX5_arcWorth cX5_arcWorth 7 (some .int), Cond.methodLink RX5 130 yX5_isFair, Cond.instanceMethod yX5_isFair, Cond.selects RX5 yX5_isFair yX5_isFair, Cond.code yX5_isFair cX5_isFair 5 (some .boolean), Cond.methodLink RX5 136 yX5_keepCut, Cond.instanceMethod yX5_keepCut, Cond.selects RX5 yX5_keepCut yX5_keepCut, Cond.code yX5_keepCut cX5_keepCut 3 none, Cond.methodLink RX5 140 yX5_nextBounds, Cond.instanceMethod yX5_nextBounds, Cond.selects RX5 yX5_nextBounds yX5_nextBounds]
def wsL_law_r25 : List Cond := [Cond.code yX5_nextBounds cX5_nextBounds 4 (some .boolean), Cond.methodLink RX5 147 yX5_toldCut, Cond.instanceMethod yX5_toldCut, Cond.selects RX5 yX5_toldCut yX5_toldCut, Cond.code yX5_toldCut cX5_toldCut 5 (some .int), Cond.methodLink RL 73 yX4_best, Cond.instanceMethod yX4_best, Cond.selects RX4 yX4_best yX4_best, Cond.code yX4_best cX4_best 3 (some .int), Cond.methodLink RL 76 yX5_best, Cond.instanceMethod yX5_best, Cond.selects RX5 yX5_best yX5_best, Cond.code yX5_best cX5_best 4 (some .int), Cond.methodLink RL 77 yX4_toll, Cond.instanceMethod yX4_toll, Cond.selects RX4 yX4_toll yX4_toll, Cond.code yX4_toll cX4_toll 3 (some .int), Cond.fieldLink RX4 140 "HillSlices$Hill" "toll" "I", Cond.methodLink RL 80 yX5_toll, Cond.instanceMethod yX5_toll, Cond.selects RX5 yX5_toll yX5_toll, Cond.code yX5_toll cX5_toll 3 (some .int), Cond.methodLink RL 81 yX4_right, Cond.instanceMethod yX4_right]
def wsL_law_r26 : List Cond := [Cond.selects RX4 yX4_right yX4_right, Cond.code yX4_right cX4_right 4 (some .int), Cond.methodLink RX4 143 yX2_setRight, Cond.instanceMethod yX2_setRight, Cond.selects RX2 yX2_setRight yX2_setRight, Cond.code yX2_setRight cX2_setRight 6 (some .boolean), Cond.methodLink RX2 61 yX2_hasRight, Cond.instanceMethod yX2_hasRight, Cond.selects RX2 yX2_hasRight yX2_hasRight, Cond.code yX2_hasRight cX2_hasRight 3 (some .boolean), Cond.methodLink RL 85 yX5_right, Cond.instanceMethod yX5_right, Cond.selects RX5 yX5_right yX5_right, Cond.code yX5_right cX5_right 5 (some .int), Cond.methodLink RL 86 yX4_way, Cond.instanceMethod yX4_way, Cond.selects RX4 yX4_way yX4_way, Cond.code yX4_way cX4_way 5 (some .int), Cond.methodLink RX4 147 yX4_bestWay, Cond.instanceMethod yX4_bestWay, Cond.selects RX4 yX4_bestWay yX4_bestWay, Cond.code yX4_bestWay cX4_bestWay 9 (some .int), Cond.constant RX4 225 (1073741824), Cond.methodLink RX4 232 Lib.Math.min.name]
def wsL_law_r27 : List Cond := [Cond.methodLink RX4 226 yX4_costOfWay, Cond.instanceMethod yX4_costOfWay, Cond.selects RX4 yX4_costOfWay yX4_costOfWay, Cond.code yX4_costOfWay cX4_costOfWay 6 (some .int), Cond.methodLink RX4 237 yX4_costOfClimb, Cond.static yX4_costOfClimb, Cond.code yX4_costOfClimb cX4_costOfClimb 1 (some .int), Cond.methodLink RX4 240 yX4_costOfRound, Cond.instanceMethod yX4_costOfRound, Cond.selects RX4 yX4_costOfRound yX4_costOfRound, Cond.code yX4_costOfRound cX4_costOfRound 7 (some .int), Cond.methodLink RX4 243 yX2_isFreeFor, Cond.instanceMethod yX2_isFreeFor, Cond.selects RX2 yX2_isFreeFor yX2_isFreeFor, Cond.code yX2_isFreeFor cX2_isFreeFor 4 (some .boolean), Cond.methodLink RX4 229 yX4_costOfWayBack, Cond.instanceMethod yX4_costOfWayBack, Cond.selects RX4 yX4_costOfWayBack yX4_costOfWayBack, Cond.code yX4_costOfWayBack cX4_costOfWayBack 6 (some .int), Cond.methodLink RL 90 yX5_way, Cond.instanceMethod yX5_way, Cond.selects RX5 yX5_way yX5_way, Cond.code yX5_way cX5_way 9 (some .int), Cond.methodLink RX5 157 yX5_wayCost]
def wsL_law_r28 : List Cond := [Cond.instanceMethod yX5_wayCost, Cond.selects RX5 yX5_wayCost yX5_wayCost, Cond.code yX5_wayCost cX5_wayCost 9 (some .int), Cond.methodLink RX5 151 yX5_next, Cond.static yX5_next, Cond.code yX5_next cX5_next 1 (some .int), Cond.methodLink RX5 154 yX5_before, Cond.static yX5_before, Cond.code yX5_before cX5_before 1 (some .int), Cond.methodLink RL 91 yX4_stone, Cond.instanceMethod yX4_stone, Cond.selects RX4 yX4_stone yX4_stone, Cond.code yX4_stone cX4_stone 4 (some .int), Cond.methodLink RX4 151 yX4_hitByStone, Cond.instanceMethod yX4_hitByStone, Cond.selects RX4 yX4_hitByStone yX4_hitByStone, Cond.code yX4_hitByStone cX4_hitByStone 6 (some .int), Cond.methodLink RX4 246 yX4_sectorBelow, Cond.instanceMethod yX4_sectorBelow, Cond.selects RX4 yX4_sectorBelow yX4_sectorBelow, Cond.code yX4_sectorBelow cX4_sectorBelow 3 (some .int), Cond.methodLink RX4 160 yX2_ownerOf, Cond.methodLink RX4 154 yX4_endOfStone, Cond.instanceMethod yX4_endOfStone]
def wsL_law_r29 : List Cond := [Cond.selects RX4 yX4_endOfStone yX4_endOfStone, Cond.code yX4_endOfStone cX4_endOfStone 5 (some .int), Cond.methodLink RL 94 yX5_stone, Cond.instanceMethod yX5_stone, Cond.selects RX5 yX5_stone yX5_stone, Cond.code yX5_stone cX5_stone 5 (some .int), Cond.fieldLink RX5 161 "HillSlicesModel" "stops" "I", Cond.methodLink RX5 164 yX5_hitBy, Cond.instanceMethod yX5_hitBy, Cond.selects RX5 yX5_hitBy yX5_hitBy, Cond.code yX5_hitBy cX5_hitBy 8 (some .int), Cond.methodLink RL 95 yX4_avalanche, Cond.instanceMethod yX4_avalanche, Cond.selects RX4 yX4_avalanche yX4_avalanche, Cond.code yX4_avalanche cX4_avalanche 4 (some .int), Cond.methodLink RX4 157 yX4_runOfAvalanche, Cond.instanceMethod yX4_runOfAvalanche, Cond.selects RX4 yX4_runOfAvalanche yX4_runOfAvalanche, Cond.code yX4_runOfAvalanche cX4_runOfAvalanche 8 (some .int), Cond.methodLink RX4 249 yX4_withThoseBeside, Cond.static yX4_withThoseBeside, Cond.code yX4_withThoseBeside cX4_withThoseBeside 3 (some .int), Cond.methodLink RX4 252 yX2_sectorsOfSort, Cond.instanceMethod yX2_sectorsOfSort]
def wsL_law_r30 : List Cond := [Cond.selects RX2 yX2_sectorsOfSort yX2_sectorsOfSort, Cond.code yX2_sectorsOfSort cX2_sectorsOfSort 5 (some .int), Cond.methodLink RX4 255 yX2_ownersOf, Cond.instanceMethod yX2_ownersOf, Cond.selects RX2 yX2_ownersOf yX2_ownersOf, Cond.code yX2_ownersOf cX2_ownersOf 4 (some .int), Cond.methodLink RL 98 yX5_avalanche, Cond.instanceMethod yX5_avalanche, Cond.selects RX5 yX5_avalanche yX5_avalanche, Cond.code yX5_avalanche cX5_avalanche 11 (some .int), Cond.methodLink RL 99 yX4_rolls, Cond.instanceMethod yX4_rolls, Cond.selects RX4 yX4_rolls yX4_rolls, Cond.code yX4_rolls cX4_rolls 5 (some .int), Cond.methodLink RL 102 yX5_rolls, Cond.instanceMethod yX5_rolls, Cond.selects RX5 yX5_rolls yX5_rolls, Cond.code yX5_rolls cX5_rolls 4 (some .int), Cond.methodLink RL 103 yX4_fence, Cond.instanceMethod yX4_fence, Cond.selects RX4 yX4_fence yX4_fence, Cond.code yX4_fence cX4_fence 2 (some .int), Cond.methodLink RX4 163 yX1_lengthFor, Cond.instanceMethod yX1_lengthFor]
def wsL_law_r31 : List Cond := [Cond.selects RX1 yX1_lengthFor yX1_lengthFor, Cond.code yX1_lengthFor cX1_lengthFor 6 (some .int), Cond.methodLink RX1 25 yX2_sortAt, Cond.methodLink RX1 31 yX2_ownerOf, Cond.methodLink RX1 35 yX1_openSides, Cond.instanceMethod yX1_openSides, Cond.selects RX1 yX1_openSides yX1_openSides, Cond.code yX1_openSides cX1_openSides 3 none, Cond.methodLink RX1 39 yX1_seekGoal, Cond.instanceMethod yX1_seekGoal, Cond.selects RX1 yX1_seekGoal yX1_seekGoal, Cond.code yX1_seekGoal cX1_seekGoal 6 (some .int), Cond.fieldLink RX1 46 "HillSlices$Fence" "queued" "I", Cond.methodLink RX1 50 yX1_reach, Cond.instanceMethod yX1_reach, Cond.selects RX1 yX1_reach yX1_reach, Cond.code yX1_reach cX1_reach 3 none, Cond.methodLink RX1 53 yX1_beside, Cond.static yX1_beside, Cond.code yX1_beside cX1_beside 4 (some .int), Cond.methodLink RX1 43 yX1_streamTo, Cond.instanceMethod yX1_streamTo, Cond.selects RX1 yX1_streamTo yX1_streamTo, Cond.code yX1_streamTo cX1_streamTo 6 (some .int)]
def wsL_law_r32 : List Cond := [Cond.methodLink RX1 59 Lib.Math.min.name, Cond.methodLink RX1 56 yX1_opposite, Cond.static yX1_opposite, Cond.code yX1_opposite cX1_opposite 1 (some .int), Cond.methodLink RL 106 yX5_fence, Cond.instanceMethod yX5_fence, Cond.selects RX5 yX5_fence yX5_fence, Cond.code yX5_fence cX5_fence 3 (some .int), Cond.methodLink RX5 180 yX5_goOne, Cond.instanceMethod yX5_goOne, Cond.selects RX5 yX5_goOne yX5_goOne, Cond.code yX5_goOne cX5_goOne 8 (some .boolean), Cond.methodLink RX5 167 yX5_begins, Cond.instanceMethod yX5_begins, Cond.selects RX5 yX5_begins yX5_begins, Cond.code yX5_begins cX5_begins 3 (some .boolean), Cond.methodLink RX5 170 yX5_goes, Cond.instanceMethod yX5_goes, Cond.selects RX5 yX5_goes yX5_goes, Cond.code yX5_goes cX5_goes 7 (some .int), Cond.methodLink RX5 173 yX5_ends, Cond.instanceMethod yX5_ends, Cond.selects RX5 yX5_ends yX5_ends, Cond.code yX5_ends cX5_ends 3 (some .boolean)]
def wsL_law_r33 : List Cond := [Cond.methodLink RX5 176 yX5_go, Cond.instanceMethod yX5_go, Cond.selects RX5 yX5_go yX5_go, Cond.code yX5_go cX5_go 4 none, Cond.methodLink RL 107 yX4_spring, Cond.instanceMethod yX4_spring, Cond.selects RX4 yX4_spring yX4_spring, Cond.code yX4_spring cX4_spring 5 (some .int), Cond.methodLink RX4 167 yX4_yearsOfSpring, Cond.instanceMethod yX4_yearsOfSpring, Cond.selects RX4 yX4_yearsOfSpring yX4_yearsOfSpring, Cond.code yX4_yearsOfSpring cX4_yearsOfSpring 7 (some .int), Cond.methodLink RX4 170 yX4_firstYearOfSpring, Cond.instanceMethod yX4_firstYearOfSpring, Cond.selects RX4 yX4_firstYearOfSpring yX4_firstYearOfSpring, Cond.code yX4_firstYearOfSpring cX4_firstYearOfSpring 6 (some .int), Cond.methodLink RL 110 yX5_spring, Cond.instanceMethod yX5_spring, Cond.selects RX5 yX5_spring yX5_spring, Cond.code yX5_spring cX5_spring 9 (some .int), Cond.methodLink RL 111 yX4_bounds, Cond.instanceMethod yX4_bounds, Cond.selects RX4 yX4_bounds yX4_bounds, Cond.code yX4_bounds cX4_bounds 2 (some .int)]
def wsL_law_r34 : List Cond := [Cond.methodLink RX4 173 yX4_boundsAsOne, Cond.instanceMethod yX4_boundsAsOne, Cond.selects RX4 yX4_boundsAsOne yX4_boundsAsOne, Cond.code yX4_boundsAsOne cX4_boundsAsOne 7 (some .int), Cond.methodLink RX4 258 yX4_asOne, Cond.static yX4_asOne, Cond.code yX4_asOne cX4_asOne 3 (some .int), Cond.methodLink RX4 176 yX4_bestWedding, Cond.instanceMethod yX4_bestWedding, Cond.selects RX4 yX4_bestWedding yX4_bestWedding, Cond.code yX4_bestWedding cX4_bestWedding 6 (some .int), Cond.methodLink RX4 179 yX4_narrowestPiece, Cond.instanceMethod yX4_narrowestPiece, Cond.selects RX4 yX4_narrowestPiece yX4_narrowestPiece, Cond.code yX4_narrowestPiece cX4_narrowestPiece 3 (some .int), Cond.methodLink RX4 261 yX4_pieceBehind, Cond.instanceMethod yX4_pieceBehind, Cond.selects RX4 yX4_pieceBehind yX4_pieceBehind, Cond.code yX4_pieceBehind cX4_pieceBehind 4 (some .int), Cond.methodLink RL 114 yX5_bounds, Cond.instanceMethod yX5_bounds, Cond.selects RX5 yX5_bounds yX5_bounds, Cond.code yX5_bounds cX5_bounds 2 (some .int), Cond.methodLink RX5 183 yX5_boundsBy]
def wsL_law_r35 : List Cond := [Cond.instanceMethod yX5_boundsBy, Cond.selects RX5 yX5_boundsBy yX5_boundsBy, Cond.code yX5_boundsBy cX5_boundsBy 7 (some .int), Cond.methodLink RX5 186 yX5_bestWedding, Cond.instanceMethod yX5_bestWedding, Cond.selects RX5 yX5_bestWedding yX5_bestWedding, Cond.code yX5_bestWedding cX5_bestWedding 5 (some .int), Cond.methodLink RX5 190 yX5_narrowest, Cond.instanceMethod yX5_narrowest, Cond.selects RX5 yX5_narrowest yX5_narrowest, Cond.code yX5_narrowest cX5_narrowest 4 (some .int), Cond.methodLink RL 115 yX4_image, Cond.instanceMethod yX4_image, Cond.selects RX4 yX4_image yX4_image, Cond.code yX4_image cX4_image 2 (some .int), Cond.methodLink RX4 182 yX4_isImage, Cond.static yX4_isImage, Cond.code yX4_isImage cX4_isImage 1 (some .boolean), Cond.methodLink RX4 185 yX2_copyFrom, Cond.instanceMethod yX2_copyFrom, Cond.selects RX2 yX2_copyFrom yX2_copyFrom, Cond.code yX2_copyFrom cX2_copyFrom 2 none, Cond.methodLink RL 118 yX5_image, Cond.instanceMethod yX5_image]
def wsL_law_r36 : List Cond := [Cond.selects RX5 yX5_image yX5_image, Cond.code yX5_image cX5_image 4 (some .int), Cond.methodLink RL 119 yX4_restore, Cond.instanceMethod yX4_restore, Cond.selects RX4 yX4_restore yX4_restore, Cond.code yX4_restore cX4_restore 2 (some .int), Cond.methodLink RL 122 yX5_restore, Cond.instanceMethod yX5_restore, Cond.selects RX5 yX5_restore yX5_restore, Cond.code yX5_restore cX5_restore 4 (some .int), Cond.methodLink RL 123 yX4_told, Cond.instanceMethod yX4_told, Cond.selects RX4 yX4_told yX4_told, Cond.code yX4_told cX4_told 2 (some .int), Cond.fieldLink RX4 189 "HillSlices$Pad" "count" "I", Cond.fieldLink RX4 197 "HillSlices$Hill" "gave" "[I", Cond.fieldLink RX4 201 "HillSlices$Hill" "worths" "[I", Cond.methodLink RL 126 yX5_told, Cond.instanceMethod yX5_told, Cond.selects RX5 yX5_told yX5_told, Cond.code yX5_told cX5_told 2 (some .int)]
def wsL_law : List Cond := (wsL_law_r1 ++ (wsL_law_r2 ++ (wsL_law_r3 ++ (wsL_law_r4 ++ (wsL_law_r5 ++ (wsL_law_r6 ++ (wsL_law_r7 ++ (wsL_law_r8 ++ (wsL_law_r9 ++ (wsL_law_r10 ++ (wsL_law_r11 ++ (wsL_law_r12 ++ (wsL_law_r13 ++ (wsL_law_r14 ++ (wsL_law_r15 ++ (wsL_law_r16 ++ (wsL_law_r17 ++ (wsL_law_r18 ++ (wsL_law_r19 ++ (wsL_law_r20 ++ (wsL_law_r21 ++ (wsL_law_r22 ++ (wsL_law_r23 ++ (wsL_law_r24 ++ (wsL_law_r25 ++ (wsL_law_r26 ++ (wsL_law_r27 ++ (wsL_law_r28 ++ (wsL_law_r29 ++ (wsL_law_r30 ++ (wsL_law_r31 ++ (wsL_law_r32 ++ (wsL_law_r33 ++ (wsL_law_r34 ++ (wsL_law_r35 ++ wsL_law_r36))))))))))))))))))))))))))))))))))) ++ wsX40 ++ wsX50 ++ wsX30 ++ wsX20 ++ wsX00 ++ wsX10 ++ ([] : List Cond)
abbrev vwCl : List vw_C := [(RX0, TX0, 9), (RX1, TX1, 5), (RX2, TX2, 6), (RX3, TX3, 3), (RX4, TX4, 6), (RX5, TX5, 22)]
end
section
theorem dX0_init_0 : decode cX0_init 0 = .ok (.aload_n 0, 1) := by decide +kernel
theorem dX0_init_1 : decode cX0_init 1 = .ok (.invokespecial 3, 3) := by decide +kernel
theorem dX0_init_4 : decode cX0_init 4 = .ok (.aload_n 0, 1) := by decide +kernel
theorem dX0_init_5 : decode cX0_init 5 = .ok (.sipush 192, 3) := by decide +kernel
theorem dX0_init_8 : decode cX0_init 8 = .ok (.newarray .int, 2) := by decide +kernel
theorem dX0_init_10 : decode cX0_init 10 = .ok (.putfield 11, 3) := by decide +kernel
theorem dX0_init_13 : decode cX0_init 13 = .ok (.aload_n 0, 1) := by decide +kernel
theorem dX0_init_14 : decode cX0_init 14 = .ok (.bipush 16, 2) := by decide +kernel
theorem dX0_init_16 : decode cX0_init 16 = .ok (.newarray .int, 2) := by decide +kernel
theorem dX0_init_18 : decode cX0_init 18 = .ok (.putfield 15, 3) := by decide +kernel
theorem dX0_init_21 : decode cX0_init 21 = .ok (.aload_n 0, 1) := by decide +kernel
theorem dX0_init_22 : decode cX0_init 22 = .ok (.iconst 4, 1) := by decide +kernel
theorem dX0_init_23 : decode cX0_init 23 = .ok (.newarray .int, 2) := by decide +kernel
theorem dX0_init_25 : decode cX0_init 25 = .ok (.putfield 18, 3) := by decide +kernel
theorem dX0_init_28 : decode cX0_init 28 = .ok (.aload_n 0, 1) := by decide +kernel
theorem dX0_init_29 : decode cX0_init 29 = .ok (.iconst 4, 1) := by decide +kernel
theorem dX0_init_30 : decode cX0_init 30 = .ok (.newarray .int, 2) := by decide +kernel
theorem dX0_init_32 : decode cX0_init 32 = .ok (.putfield 21, 3) := by decide +kernel
theorem dX0_init_35 : decode cX0_init 35 = .ok (.aload_n 0, 1) := by decide +kernel
theorem dX0_init_36 : decode cX0_init 36 = .ok (.iconst 4, 1) := by decide +kernel
theorem dX0_init_37 : decode cX0_init 37 = .ok (.newarray .int, 2) := by decide +kernel
theorem dX0_init_39 : decode cX0_init 39 = .ok (.putfield 24, 3) := by decide +kernel
theorem dX0_init_42 : decode cX0_init 42 = .ok (.aload_n 0, 1) := by decide +kernel
theorem dX0_init_43 : decode cX0_init 43 = .ok (.iconst 4, 1) := by decide +kernel
theorem dX0_init_44 : decode cX0_init 44 = .ok (.newarray .int, 2) := by decide +kernel
theorem dX0_init_46 : decode cX0_init 46 = .ok (.putfield 27, 3) := by decide +kernel
theorem dX0_init_49 : decode cX0_init 49 = .ok (.aload_n 0, 1) := by decide +kernel
theorem dX0_init_50 : decode cX0_init 50 = .ok (.iload_n 1, 1) := by decide +kernel
theorem dX0_init_51 : decode cX0_init 51 = .ok (.putfield 30, 3) := by decide +kernel
theorem dX0_init_54 : decode cX0_init 54 = .ok (.return_, 1) := by decide +kernel
theorem dX0_forget_0 : decode cX0_forget 0 = .ok (.aload_n 0, 1) := by decide +kernel
theorem dX0_forget_1 : decode cX0_forget 1 = .ok (.iconst 0, 1) := by decide +kernel
theorem dX0_forget_2 : decode cX0_forget 2 = .ok (.putfield 34, 3) := by decide +kernel
theorem dX0_forget_5 : decode cX0_forget 5 = .ok (.return_, 1) := by decide +kernel
theorem dX0_isFound_0 : decode cX0_isFound 0 = .ok (.aload_n 0, 1) := by decide +kernel
theorem dX0_isFound_1 : decode cX0_isFound 1 = .ok (.getfield 38, 3) := by decide +kernel
theorem dX0_isFound_4 : decode cX0_isFound 4 = .ok (.ifCond .lt 7, 3) := by decide +kernel
theorem dX0_isFound_7 : decode cX0_isFound 7 = .ok (.iconst 1, 1) := by decide +kernel
theorem dX0_isFound_8 : decode cX0_isFound 8 = .ok (.goto 4, 3) := by decide +kernel
theorem dX0_isFound_11 : decode cX0_isFound 11 = .ok (.iconst 0, 1) := by decide +kernel
theorem dX0_isFound_12 : decode cX0_isFound 12 = .ok (.ireturn, 1) := by decide +kernel
theorem dX0_answer_0 : decode cX0_answer 0 = .ok (.aload_n 0, 1) := by decide +kernel
theorem dX0_answer_1 : decode cX0_answer 1 = .ok (.invokevirtual 41, 3) := by decide +kernel
theorem dX0_answer_4 : decode cX0_answer 4 = .ok (.ifCond .ne 6, 3) := by decide +kernel
theorem dX0_answer_7 : decode cX0_answer 7 = .ok (.bipush (-6), 2) := by decide +kernel
theorem dX0_answer_9 : decode cX0_answer 9 = .ok (.ireturn, 1) := by decide +kernel
theorem dX0_answer_10 : decode cX0_answer 10 = .ok (.iload_n 1, 1) := by decide +kernel
theorem dX0_answer_11 : decode cX0_answer 11 = .ok (.iconst (-1), 1) := by decide +kernel
theorem dX0_answer_12 : decode cX0_answer 12 = .ok (.if_icmp .ne 19, 3) := by decide +kernel
theorem dX0_answer_15 : decode cX0_answer 15 = .ok (.aload_n 0, 1) := by decide +kernel
theorem dX0_answer_16 : decode cX0_answer 16 = .ok (.getfield 30, 3) := by decide +kernel
theorem dX0_answer_19 : decode cX0_answer 19 = .ok (.ifCond .eq 7, 3) := by decide +kernel
theorem dX0_answer_22 : decode cX0_answer 22 = .ok (.iconst 1, 1) := by decide +kernel
theorem dX0_answer_23 : decode cX0_answer 23 = .ok (.goto 7, 3) := by decide +kernel
theorem dX0_answer_26 : decode cX0_answer 26 = .ok (.aload_n 0, 1) := by decide +kernel
theorem dX0_answer_27 : decode cX0_answer 27 = .ok (.getfield 38, 3) := by decide +kernel
theorem dX0_answer_30 : decode cX0_answer 30 = .ok (.ireturn, 1) := by decide +kernel
theorem dX0_answer_31 : decode cX0_answer 31 = .ok (.iload_n 1, 1) := by decide +kernel
theorem dX0_answer_32 : decode cX0_answer 32 = .ok (.ifCond .lt 18, 3) := by decide +kernel
theorem dX0_answer_35 : decode cX0_answer 35 = .ok (.iload_n 1, 1) := by decide +kernel
theorem dX0_answer_36 : decode cX0_answer 36 = .ok (.aload_n 0, 1) := by decide +kernel
theorem dX0_answer_37 : decode cX0_answer 37 = .ok (.getfield 34, 3) := by decide +kernel
theorem dX0_answer_40 : decode cX0_answer 40 = .ok (.if_icmp .ge 10, 3) := by decide +kernel
theorem dX0_answer_43 : decode cX0_answer 43 = .ok (.aload_n 0, 1) := by decide +kernel
theorem dX0_answer_44 : decode cX0_answer 44 = .ok (.getfield 24, 3) := by decide +kernel
theorem dX0_answer_47 : decode cX0_answer 47 = .ok (.iload_n 1, 1) := by decide +kernel
theorem dX0_answer_48 : decode cX0_answer 48 = .ok (.iaload, 1) := by decide +kernel
theorem dX0_answer_49 : decode cX0_answer 49 = .ok (.ireturn, 1) := by decide +kernel
theorem dX0_answer_50 : decode cX0_answer 50 = .ok (.iload_n 1, 1) := by decide +kernel
theorem dX0_answer_51 : decode cX0_answer 51 = .ok (.bipush 10, 2) := by decide +kernel
theorem dX0_answer_53 : decode cX0_answer 53 = .ok (.if_icmp .lt 26, 3) := by decide +kernel
theorem dX0_answer_56 : decode cX0_answer 56 = .ok (.iload_n 1, 1) := by decide +kernel
theorem dX0_answer_57 : decode cX0_answer 57 = .ok (.bipush 10, 2) := by decide +kernel
theorem dX0_answer_59 : decode cX0_answer 59 = .ok (.aload_n 0, 1) := by decide +kernel
theorem dX0_answer_60 : decode cX0_answer 60 = .ok (.getfield 34, 3) := by decide +kernel
theorem dX0_answer_63 : decode cX0_answer 63 = .ok (.iadd, 1) := by decide +kernel
theorem dX0_answer_64 : decode cX0_answer 64 = .ok (.if_icmp .ge 15, 3) := by decide +kernel
theorem dX0_answer_67 : decode cX0_answer 67 = .ok (.aload_n 0, 1) := by decide +kernel
theorem dX0_answer_68 : decode cX0_answer 68 = .ok (.getfield 27, 3) := by decide +kernel
theorem dX0_answer_71 : decode cX0_answer 71 = .ok (.iload_n 1, 1) := by decide +kernel
theorem dX0_answer_72 : decode cX0_answer 72 = .ok (.bipush 10, 2) := by decide +kernel
theorem dX0_answer_74 : decode cX0_answer 74 = .ok (.isub, 1) := by decide +kernel
theorem dX0_answer_75 : decode cX0_answer 75 = .ok (.iaload, 1) := by decide +kernel
theorem dX0_answer_76 : decode cX0_answer 76 = .ok (.goto 5, 3) := by decide +kernel
theorem dX0_answer_79 : decode cX0_answer 79 = .ok (.bipush (-6), 2) := by decide +kernel
theorem dX0_answer_81 : decode cX0_answer 81 = .ok (.ireturn, 1) := by decide +kernel
theorem dX0_searchAmong_0 : decode cX0_searchAmong 0 = .ok (.aload_n 0, 1) := by decide +kernel
theorem dX0_searchAmong_1 : decode cX0_searchAmong 1 = .ok (.getfield 34, 3) := by decide +kernel
theorem dX0_searchAmong_4 : decode cX0_searchAmong 4 = .ok (.iload_n 1, 1) := by decide +kernel
theorem dX0_searchAmong_5 : decode cX0_searchAmong 5 = .ok (.if_icmp .ne 4, 3) := by decide +kernel
theorem dX0_searchAmong_8 : decode cX0_searchAmong 8 = .ok (.return_, 1) := by decide +kernel
theorem dX0_searchAmong_9 : decode cX0_searchAmong 9 = .ok (.aload_n 0, 1) := by decide +kernel
theorem dX0_searchAmong_10 : decode cX0_searchAmong 10 = .ok (.iload_n 1, 1) := by decide +kernel
theorem dX0_searchAmong_11 : decode cX0_searchAmong 11 = .ok (.putfield 34, 3) := by decide +kernel
theorem dX0_searchAmong_14 : decode cX0_searchAmong 14 = .ok (.aload_n 0, 1) := by decide +kernel
theorem dX0_searchAmong_15 : decode cX0_searchAmong 15 = .ok (.iconst (-1), 1) := by decide +kernel
theorem dX0_searchAmong_16 : decode cX0_searchAmong 16 = .ok (.putfield 38, 3) := by decide +kernel
theorem dX0_searchAmong_19 : decode cX0_searchAmong 19 = .ok (.iconst 0, 1) := by decide +kernel
theorem dX0_searchAmong_20 : decode cX0_searchAmong 20 = .ok (.istore_n 3, 1) := by decide +kernel
theorem dX0_searchAmong_21 : decode cX0_searchAmong 21 = .ok (.iload_n 3, 1) := by decide +kernel
theorem dX0_searchAmong_22 : decode cX0_searchAmong 22 = .ok (.aload_n 0, 1) := by decide +kernel
theorem dX0_searchAmong_23 : decode cX0_searchAmong 23 = .ok (.getfield 34, 3) := by decide +kernel
theorem dX0_searchAmong_26 : decode cX0_searchAmong 26 = .ok (.if_icmp .ge 22, 3) := by decide +kernel
theorem dX0_searchAmong_29 : decode cX0_searchAmong 29 = .ok (.aload_n 0, 1) := by decide +kernel
theorem dX0_searchAmong_30 : decode cX0_searchAmong 30 = .ok (.getfield 18, 3) := by decide +kernel
theorem dX0_searchAmong_33 : decode cX0_searchAmong 33 = .ok (.iload_n 3, 1) := by decide +kernel
theorem dX0_searchAmong_34 : decode cX0_searchAmong 34 = .ok (.iload_n 3, 1) := by decide +kernel
theorem dX0_searchAmong_35 : decode cX0_searchAmong 35 = .ok (.iastore, 1) := by decide +kernel
theorem dX0_searchAmong_36 : decode cX0_searchAmong 36 = .ok (.aload_n 0, 1) := by decide +kernel
theorem dX0_searchAmong_37 : decode cX0_searchAmong 37 = .ok (.iload_n 3, 1) := by decide +kernel
theorem dX0_searchAmong_38 : decode cX0_searchAmong 38 = .ok (.aload_n 2, 1) := by decide +kernel
theorem dX0_searchAmong_39 : decode cX0_searchAmong 39 = .ok (.invokevirtual 45, 3) := by decide +kernel
theorem dX0_searchAmong_42 : decode cX0_searchAmong 42 = .ok (.iinc 3 1, 3) := by decide +kernel
theorem dX0_searchAmong_45 : decode cX0_searchAmong 45 = .ok (.goto (-24), 3) := by decide +kernel
theorem dX0_searchAmong_48 : decode cX0_searchAmong 48 = .ok (.iconst 1, 1) := by decide +kernel
theorem dX0_searchAmong_49 : decode cX0_searchAmong 49 = .ok (.istore_n 3, 1) := by decide +kernel
theorem dX0_searchAmong_50 : decode cX0_searchAmong 50 = .ok (.iconst 0, 1) := by decide +kernel
theorem dX0_searchAmong_51 : decode cX0_searchAmong 51 = .ok (.istore 4, 2) := by decide +kernel
theorem dX0_searchAmong_53 : decode cX0_searchAmong 53 = .ok (.iload 4, 2) := by decide +kernel
theorem dX0_searchAmong_55 : decode cX0_searchAmong 55 = .ok (.sipush 10626, 3) := by decide +kernel
theorem dX0_searchAmong_58 : decode cX0_searchAmong 58 = .ok (.if_icmp .ge 61, 3) := by decide +kernel
theorem dX0_searchAmong_61 : decode cX0_searchAmong 61 = .ok (.iload_n 3, 1) := by decide +kernel
theorem dX0_searchAmong_62 : decode cX0_searchAmong 62 = .ok (.ifCond .eq 57, 3) := by decide +kernel
theorem dX0_searchAmong_65 : decode cX0_searchAmong 65 = .ok (.aload_n 0, 1) := by decide +kernel
theorem dX0_searchAmong_66 : decode cX0_searchAmong 66 = .ok (.invokevirtual 49, 3) := by decide +kernel
theorem dX0_searchAmong_69 : decode cX0_searchAmong 69 = .ok (.ifCond .ne 50, 3) := by decide +kernel
theorem dX0_searchAmong_72 : decode cX0_searchAmong 72 = .ok (.aload_n 0, 1) := by decide +kernel
theorem dX0_searchAmong_73 : decode cX0_searchAmong 73 = .ok (.invokevirtual 52, 3) := by decide +kernel
theorem dX0_searchAmong_76 : decode cX0_searchAmong 76 = .ok (.istore 5, 2) := by decide +kernel
theorem dX0_searchAmong_78 : decode cX0_searchAmong 78 = .ok (.iload 5, 2) := by decide +kernel
theorem dX0_searchAmong_80 : decode cX0_searchAmong 80 = .ok (.aload_n 0, 1) := by decide +kernel
theorem dX0_searchAmong_81 : decode cX0_searchAmong 81 = .ok (.getfield 34, 3) := by decide +kernel
theorem dX0_searchAmong_84 : decode cX0_searchAmong 84 = .ok (.if_icmp .ne 11, 3) := by decide +kernel
theorem dX0_searchAmong_87 : decode cX0_searchAmong 87 = .ok (.aload_n 0, 1) := by decide +kernel
theorem dX0_searchAmong_88 : decode cX0_searchAmong 88 = .ok (.iconst 0, 1) := by decide +kernel
theorem dX0_searchAmong_89 : decode cX0_searchAmong 89 = .ok (.iconst 0, 1) := by decide +kernel
theorem dX0_searchAmong_90 : decode cX0_searchAmong 90 = .ok (.ldc 56, 2) := by decide +kernel
theorem dX0_searchAmong_92 : decode cX0_searchAmong 92 = .ok (.invokevirtual 57, 3) := by decide +kernel
theorem dX0_searchAmong_95 : decode cX0_searchAmong 95 = .ok (.aload_n 0, 1) := by decide +kernel
theorem dX0_searchAmong_96 : decode cX0_searchAmong 96 = .ok (.iload 5, 2) := by decide +kernel
theorem dX0_searchAmong_98 : decode cX0_searchAmong 98 = .ok (.iconst 1, 1) := by decide +kernel
theorem dX0_searchAmong_99 : decode cX0_searchAmong 99 = .ok (.iadd, 1) := by decide +kernel
theorem dX0_searchAmong_100 : decode cX0_searchAmong 100 = .ok (.aload_n 0, 1) := by decide +kernel
theorem dX0_searchAmong_101 : decode cX0_searchAmong 101 = .ok (.getfield 34, 3) := by decide +kernel
theorem dX0_searchAmong_104 : decode cX0_searchAmong 104 = .ok (.iconst 1, 1) := by decide +kernel
theorem dX0_searchAmong_105 : decode cX0_searchAmong 105 = .ok (.isub, 1) := by decide +kernel
theorem dX0_searchAmong_106 : decode cX0_searchAmong 106 = .ok (.invokestatic 61, 3) := by decide +kernel
theorem dX0_searchAmong_109 : decode cX0_searchAmong 109 = .ok (.invokevirtual 67, 3) := by decide +kernel
theorem dX0_searchAmong_112 : decode cX0_searchAmong 112 = .ok (.istore_n 3, 1) := by decide +kernel
theorem dX0_searchAmong_113 : decode cX0_searchAmong 113 = .ok (.iinc 4 1, 3) := by decide +kernel
theorem dX0_searchAmong_116 : decode cX0_searchAmong 116 = .ok (.goto (-63), 3) := by decide +kernel
theorem dX0_searchAmong_119 : decode cX0_searchAmong 119 = .ok (.return_, 1) := by decide +kernel
theorem dX0_sumUp_0 : decode cX0_sumUp 0 = .ok (.iconst 0, 1) := by decide +kernel
theorem dX0_sumUp_1 : decode cX0_sumUp 1 = .ok (.istore_n 3, 1) := by decide +kernel
theorem dX0_sumUp_2 : decode cX0_sumUp 2 = .ok (.iconst 0, 1) := by decide +kernel
theorem dX0_sumUp_3 : decode cX0_sumUp 3 = .ok (.istore 4, 2) := by decide +kernel
theorem dX0_sumUp_5 : decode cX0_sumUp 5 = .ok (.iload 4, 2) := by decide +kernel
theorem dX0_sumUp_7 : decode cX0_sumUp 7 = .ok (.bipush 48, 2) := by decide +kernel
theorem dX0_sumUp_9 : decode cX0_sumUp 9 = .ok (.if_icmp .ge 35, 3) := by decide +kernel
theorem dX0_sumUp_12 : decode cX0_sumUp 12 = .ok (.aload_n 0, 1) := by decide +kernel
theorem dX0_sumUp_13 : decode cX0_sumUp 13 = .ok (.getfield 11, 3) := by decide +kernel
theorem dX0_sumUp_16 : decode cX0_sumUp 16 = .ok (.iload_n 1, 1) := by decide +kernel
theorem dX0_sumUp_17 : decode cX0_sumUp 17 = .ok (.bipush 48, 2) := by decide +kernel
theorem dX0_sumUp_19 : decode cX0_sumUp 19 = .ok (.imul, 1) := by decide +kernel
theorem dX0_sumUp_20 : decode cX0_sumUp 20 = .ok (.iload 4, 2) := by decide +kernel
theorem dX0_sumUp_22 : decode cX0_sumUp 22 = .ok (.iadd, 1) := by decide +kernel
theorem dX0_sumUp_23 : decode cX0_sumUp 23 = .ok (.iload_n 3, 1) := by decide +kernel
theorem dX0_sumUp_24 : decode cX0_sumUp 24 = .ok (.iastore, 1) := by decide +kernel
theorem dX0_sumUp_25 : decode cX0_sumUp 25 = .ok (.iload_n 3, 1) := by decide +kernel
theorem dX0_sumUp_26 : decode cX0_sumUp 26 = .ok (.aload_n 2, 1) := by decide +kernel
theorem dX0_sumUp_27 : decode cX0_sumUp 27 = .ok (.iload_n 1, 1) := by decide +kernel
theorem dX0_sumUp_28 : decode cX0_sumUp 28 = .ok (.iload 4, 2) := by decide +kernel
theorem dX0_sumUp_30 : decode cX0_sumUp 30 = .ok (.bipush 24, 2) := by decide +kernel
theorem dX0_sumUp_32 : decode cX0_sumUp 32 = .ok (.irem, 1) := by decide +kernel
theorem dX0_sumUp_33 : decode cX0_sumUp 33 = .ok (.invokevirtual 71, 3) := by decide +kernel
theorem dX0_sumUp_36 : decode cX0_sumUp 36 = .ok (.iadd, 1) := by decide +kernel
theorem dX0_sumUp_37 : decode cX0_sumUp 37 = .ok (.istore_n 3, 1) := by decide +kernel
theorem dX0_sumUp_38 : decode cX0_sumUp 38 = .ok (.iinc 4 1, 3) := by decide +kernel
theorem dX0_sumUp_41 : decode cX0_sumUp 41 = .ok (.goto (-36), 3) := by decide +kernel
theorem dX0_sumUp_44 : decode cX0_sumUp 44 = .ok (.return_, 1) := by decide +kernel
theorem dX0_isSettled_0 : decode cX0_isSettled 0 = .ok (.aload_n 0, 1) := by decide +kernel
theorem dX0_isSettled_1 : decode cX0_isSettled 1 = .ok (.getfield 30, 3) := by decide +kernel
theorem dX0_isSettled_4 : decode cX0_isSettled 4 = .ok (.ifCond .eq 14, 3) := by decide +kernel
theorem dX0_isSettled_7 : decode cX0_isSettled 7 = .ok (.aload_n 0, 1) := by decide +kernel
theorem dX0_isSettled_8 : decode cX0_isSettled 8 = .ok (.invokevirtual 41, 3) := by decide +kernel
theorem dX0_isSettled_11 : decode cX0_isSettled 11 = .ok (.ifCond .eq 7, 3) := by decide +kernel
theorem dX0_isSettled_14 : decode cX0_isSettled 14 = .ok (.iconst 1, 1) := by decide +kernel
theorem dX0_isSettled_15 : decode cX0_isSettled 15 = .ok (.goto 4, 3) := by decide +kernel
theorem dX0_isSettled_18 : decode cX0_isSettled 18 = .ok (.iconst 0, 1) := by decide +kernel
theorem dX0_isSettled_19 : decode cX0_isSettled 19 = .ok (.ireturn, 1) := by decide +kernel
theorem dX0_stepBounds_0 : decode cX0_stepBounds 0 = .ok (.iload_n 1, 1) := by decide +kernel
theorem dX0_stepBounds_1 : decode cX0_stepBounds 1 = .ok (.istore_n 2, 1) := by decide +kernel
theorem dX0_stepBounds_2 : decode cX0_stepBounds 2 = .ok (.iload_n 2, 1) := by decide +kernel
theorem dX0_stepBounds_3 : decode cX0_stepBounds 3 = .ok (.ifCond .lt 27, 3) := by decide +kernel
theorem dX0_stepBounds_6 : decode cX0_stepBounds 6 = .ok (.aload_n 0, 1) := by decide +kernel
theorem dX0_stepBounds_7 : decode cX0_stepBounds 7 = .ok (.getfield 18, 3) := by decide +kernel
theorem dX0_stepBounds_10 : decode cX0_stepBounds 10 = .ok (.iload_n 2, 1) := by decide +kernel
theorem dX0_stepBounds_11 : decode cX0_stepBounds 11 = .ok (.iaload, 1) := by decide +kernel
theorem dX0_stepBounds_12 : decode cX0_stepBounds 12 = .ok (.bipush 24, 2) := by decide +kernel
theorem dX0_stepBounds_14 : decode cX0_stepBounds 14 = .ok (.aload_n 0, 1) := by decide +kernel
theorem dX0_stepBounds_15 : decode cX0_stepBounds 15 = .ok (.getfield 34, 3) := by decide +kernel
theorem dX0_stepBounds_18 : decode cX0_stepBounds 18 = .ok (.isub, 1) := by decide +kernel
theorem dX0_stepBounds_19 : decode cX0_stepBounds 19 = .ok (.iload_n 2, 1) := by decide +kernel
theorem dX0_stepBounds_20 : decode cX0_stepBounds 20 = .ok (.iadd, 1) := by decide +kernel
theorem dX0_stepBounds_21 : decode cX0_stepBounds 21 = .ok (.if_icmp .lt 9, 3) := by decide +kernel
theorem dX0_stepBounds_24 : decode cX0_stepBounds 24 = .ok (.iinc 2 (-1), 3) := by decide +kernel
theorem dX0_stepBounds_27 : decode cX0_stepBounds 27 = .ok (.goto (-25), 3) := by decide +kernel
theorem dX0_stepBounds_30 : decode cX0_stepBounds 30 = .ok (.iload_n 2, 1) := by decide +kernel
theorem dX0_stepBounds_31 : decode cX0_stepBounds 31 = .ok (.ifCond .ge 5, 3) := by decide +kernel
theorem dX0_stepBounds_34 : decode cX0_stepBounds 34 = .ok (.iconst 0, 1) := by decide +kernel
theorem dX0_stepBounds_35 : decode cX0_stepBounds 35 = .ok (.ireturn, 1) := by decide +kernel
theorem dX0_stepBounds_36 : decode cX0_stepBounds 36 = .ok (.aload_n 0, 1) := by decide +kernel
theorem dX0_stepBounds_37 : decode cX0_stepBounds 37 = .ok (.getfield 18, 3) := by decide +kernel
theorem dX0_stepBounds_40 : decode cX0_stepBounds 40 = .ok (.iload_n 2, 1) := by decide +kernel
theorem dX0_stepBounds_41 : decode cX0_stepBounds 41 = .ok (.dup2, 1) := by decide +kernel
theorem dX0_stepBounds_42 : decode cX0_stepBounds 42 = .ok (.iaload, 1) := by decide +kernel
theorem dX0_stepBounds_43 : decode cX0_stepBounds 43 = .ok (.iconst 1, 1) := by decide +kernel
theorem dX0_stepBounds_44 : decode cX0_stepBounds 44 = .ok (.iadd, 1) := by decide +kernel
theorem dX0_stepBounds_45 : decode cX0_stepBounds 45 = .ok (.iastore, 1) := by decide +kernel
theorem dX0_stepBounds_46 : decode cX0_stepBounds 46 = .ok (.iload_n 2, 1) := by decide +kernel
theorem dX0_stepBounds_47 : decode cX0_stepBounds 47 = .ok (.iconst 1, 1) := by decide +kernel
theorem dX0_stepBounds_48 : decode cX0_stepBounds 48 = .ok (.iadd, 1) := by decide +kernel
theorem dX0_stepBounds_49 : decode cX0_stepBounds 49 = .ok (.istore_n 3, 1) := by decide +kernel
theorem dX0_stepBounds_50 : decode cX0_stepBounds 50 = .ok (.iload_n 3, 1) := by decide +kernel
theorem dX0_stepBounds_51 : decode cX0_stepBounds 51 = .ok (.aload_n 0, 1) := by decide +kernel
theorem dX0_stepBounds_52 : decode cX0_stepBounds 52 = .ok (.getfield 34, 3) := by decide +kernel
theorem dX0_stepBounds_55 : decode cX0_stepBounds 55 = .ok (.if_icmp .ge 25, 3) := by decide +kernel
theorem dX0_stepBounds_58 : decode cX0_stepBounds 58 = .ok (.aload_n 0, 1) := by decide +kernel
theorem dX0_stepBounds_59 : decode cX0_stepBounds 59 = .ok (.getfield 18, 3) := by decide +kernel
theorem dX0_stepBounds_62 : decode cX0_stepBounds 62 = .ok (.iload_n 3, 1) := by decide +kernel
theorem dX0_stepBounds_63 : decode cX0_stepBounds 63 = .ok (.aload_n 0, 1) := by decide +kernel
theorem dX0_stepBounds_64 : decode cX0_stepBounds 64 = .ok (.getfield 18, 3) := by decide +kernel
theorem dX0_stepBounds_67 : decode cX0_stepBounds 67 = .ok (.iload_n 3, 1) := by decide +kernel
theorem dX0_stepBounds_68 : decode cX0_stepBounds 68 = .ok (.iconst 1, 1) := by decide +kernel
theorem dX0_stepBounds_69 : decode cX0_stepBounds 69 = .ok (.isub, 1) := by decide +kernel
theorem dX0_stepBounds_70 : decode cX0_stepBounds 70 = .ok (.iaload, 1) := by decide +kernel
theorem dX0_stepBounds_71 : decode cX0_stepBounds 71 = .ok (.iconst 1, 1) := by decide +kernel
theorem dX0_stepBounds_72 : decode cX0_stepBounds 72 = .ok (.iadd, 1) := by decide +kernel
theorem dX0_stepBounds_73 : decode cX0_stepBounds 73 = .ok (.iastore, 1) := by decide +kernel
theorem dX0_stepBounds_74 : decode cX0_stepBounds 74 = .ok (.iinc 3 1, 3) := by decide +kernel
theorem dX0_stepBounds_77 : decode cX0_stepBounds 77 = .ok (.goto (-27), 3) := by decide +kernel
theorem dX0_stepBounds_80 : decode cX0_stepBounds 80 = .ok (.iconst 1, 1) := by decide +kernel
theorem dX0_stepBounds_81 : decode cX0_stepBounds 81 = .ok (.ireturn, 1) := by decide +kernel
theorem dX0_firstArcOfNoUse_0 : decode cX0_firstArcOfNoUse 0 = .ok (.iconst 0, 1) := by decide +kernel
theorem dX0_firstArcOfNoUse_1 : decode cX0_firstArcOfNoUse 1 = .ok (.istore_n 1, 1) := by decide +kernel
theorem dX0_firstArcOfNoUse_2 : decode cX0_firstArcOfNoUse 2 = .ok (.iload_n 1, 1) := by decide +kernel
theorem dX0_firstArcOfNoUse_3 : decode cX0_firstArcOfNoUse 3 = .ok (.aload_n 0, 1) := by decide +kernel
theorem dX0_firstArcOfNoUse_4 : decode cX0_firstArcOfNoUse 4 = .ok (.getfield 34, 3) := by decide +kernel
theorem dX0_firstArcOfNoUse_7 : decode cX0_firstArcOfNoUse 7 = .ok (.if_icmp .ge 17, 3) := by decide +kernel
theorem dX0_firstArcOfNoUse_10 : decode cX0_firstArcOfNoUse 10 = .ok (.aload_n 0, 1) := by decide +kernel
theorem dX0_firstArcOfNoUse_11 : decode cX0_firstArcOfNoUse 11 = .ok (.iload_n 1, 1) := by decide +kernel
theorem dX0_firstArcOfNoUse_12 : decode cX0_firstArcOfNoUse 12 = .ok (.invokevirtual 76, 3) := by decide +kernel
theorem dX0_firstArcOfNoUse_15 : decode cX0_firstArcOfNoUse 15 = .ok (.ifCond .eq 9, 3) := by decide +kernel
theorem dX0_firstArcOfNoUse_18 : decode cX0_firstArcOfNoUse 18 = .ok (.iinc 1 1, 3) := by decide +kernel
theorem dX0_firstArcOfNoUse_21 : decode cX0_firstArcOfNoUse 21 = .ok (.goto (-19), 3) := by decide +kernel
theorem dX0_firstArcOfNoUse_24 : decode cX0_firstArcOfNoUse 24 = .ok (.iload_n 1, 1) := by decide +kernel
theorem dX0_firstArcOfNoUse_25 : decode cX0_firstArcOfNoUse 25 = .ok (.ireturn, 1) := by decide +kernel
theorem dX0_noteShares_0 : decode cX0_noteShares 0 = .ok (.iload_n 1, 1) := by decide +kernel
theorem dX0_noteShares_1 : decode cX0_noteShares 1 = .ok (.iconst 1, 1) := by decide +kernel
theorem dX0_noteShares_2 : decode cX0_noteShares 2 = .ok (.iadd, 1) := by decide +kernel
theorem dX0_noteShares_3 : decode cX0_noteShares 3 = .ok (.aload_n 0, 1) := by decide +kernel
theorem dX0_noteShares_4 : decode cX0_noteShares 4 = .ok (.getfield 34, 3) := by decide +kernel
theorem dX0_noteShares_7 : decode cX0_noteShares 7 = .ok (.if_icmp .ge 14, 3) := by decide +kernel
theorem dX0_noteShares_10 : decode cX0_noteShares 10 = .ok (.aload_n 0, 1) := by decide +kernel
theorem dX0_noteShares_11 : decode cX0_noteShares 11 = .ok (.getfield 18, 3) := by decide +kernel
theorem dX0_noteShares_14 : decode cX0_noteShares 14 = .ok (.iload_n 1, 1) := by decide +kernel
theorem dX0_noteShares_15 : decode cX0_noteShares 15 = .ok (.iconst 1, 1) := by decide +kernel
theorem dX0_noteShares_16 : decode cX0_noteShares 16 = .ok (.iadd, 1) := by decide +kernel
theorem dX0_noteShares_17 : decode cX0_noteShares 17 = .ok (.iaload, 1) := by decide +kernel
theorem dX0_noteShares_18 : decode cX0_noteShares 18 = .ok (.goto 12, 3) := by decide +kernel
theorem dX0_noteShares_21 : decode cX0_noteShares 21 = .ok (.aload_n 0, 1) := by decide +kernel
theorem dX0_noteShares_22 : decode cX0_noteShares 22 = .ok (.getfield 18, 3) := by decide +kernel
theorem dX0_noteShares_25 : decode cX0_noteShares 25 = .ok (.iconst 0, 1) := by decide +kernel
theorem dX0_noteShares_26 : decode cX0_noteShares 26 = .ok (.iaload, 1) := by decide +kernel
theorem dX0_noteShares_27 : decode cX0_noteShares 27 = .ok (.bipush 24, 2) := by decide +kernel
theorem dX0_noteShares_29 : decode cX0_noteShares 29 = .ok (.iadd, 1) := by decide +kernel
theorem dX0_noteShares_30 : decode cX0_noteShares 30 = .ok (.istore_n 2, 1) := by decide +kernel
theorem dX0_noteShares_31 : decode cX0_noteShares 31 = .ok (.iconst 0, 1) := by decide +kernel
theorem dX0_noteShares_32 : decode cX0_noteShares 32 = .ok (.istore_n 3, 1) := by decide +kernel
theorem dX0_noteShares_33 : decode cX0_noteShares 33 = .ok (.iconst 0, 1) := by decide +kernel
theorem dX0_noteShares_34 : decode cX0_noteShares 34 = .ok (.istore 4, 2) := by decide +kernel
theorem dX0_noteShares_36 : decode cX0_noteShares 36 = .ok (.iload 4, 2) := by decide +kernel
theorem dX0_noteShares_38 : decode cX0_noteShares 38 = .ok (.aload_n 0, 1) := by decide +kernel
theorem dX0_noteShares_39 : decode cX0_noteShares 39 = .ok (.getfield 34, 3) := by decide +kernel
theorem dX0_noteShares_42 : decode cX0_noteShares 42 = .ok (.if_icmp .ge 65, 3) := by decide +kernel
theorem dX0_noteShares_45 : decode cX0_noteShares 45 = .ok (.aload_n 0, 1) := by decide +kernel
theorem dX0_noteShares_46 : decode cX0_noteShares 46 = .ok (.getfield 11, 3) := by decide +kernel
theorem dX0_noteShares_49 : decode cX0_noteShares 49 = .ok (.iload 4, 2) := by decide +kernel
theorem dX0_noteShares_51 : decode cX0_noteShares 51 = .ok (.bipush 48, 2) := by decide +kernel
theorem dX0_noteShares_53 : decode cX0_noteShares 53 = .ok (.imul, 1) := by decide +kernel
theorem dX0_noteShares_54 : decode cX0_noteShares 54 = .ok (.iload_n 2, 1) := by decide +kernel
theorem dX0_noteShares_55 : decode cX0_noteShares 55 = .ok (.iadd, 1) := by decide +kernel
theorem dX0_noteShares_56 : decode cX0_noteShares 56 = .ok (.iaload, 1) := by decide +kernel
theorem dX0_noteShares_57 : decode cX0_noteShares 57 = .ok (.aload_n 0, 1) := by decide +kernel
theorem dX0_noteShares_58 : decode cX0_noteShares 58 = .ok (.getfield 11, 3) := by decide +kernel
theorem dX0_noteShares_61 : decode cX0_noteShares 61 = .ok (.iload 4, 2) := by decide +kernel
theorem dX0_noteShares_63 : decode cX0_noteShares 63 = .ok (.bipush 48, 2) := by decide +kernel
theorem dX0_noteShares_65 : decode cX0_noteShares 65 = .ok (.imul, 1) := by decide +kernel
theorem dX0_noteShares_66 : decode cX0_noteShares 66 = .ok (.aload_n 0, 1) := by decide +kernel
theorem dX0_noteShares_67 : decode cX0_noteShares 67 = .ok (.getfield 18, 3) := by decide +kernel
theorem dX0_noteShares_70 : decode cX0_noteShares 70 = .ok (.iload_n 1, 1) := by decide +kernel
theorem dX0_noteShares_71 : decode cX0_noteShares 71 = .ok (.iaload, 1) := by decide +kernel
theorem dX0_noteShares_72 : decode cX0_noteShares 72 = .ok (.iadd, 1) := by decide +kernel
theorem dX0_noteShares_73 : decode cX0_noteShares 73 = .ok (.iaload, 1) := by decide +kernel
theorem dX0_noteShares_74 : decode cX0_noteShares 74 = .ok (.isub, 1) := by decide +kernel
theorem dX0_noteShares_75 : decode cX0_noteShares 75 = .ok (.istore 5, 2) := by decide +kernel
theorem dX0_noteShares_77 : decode cX0_noteShares 77 = .ok (.aload_n 0, 1) := by decide +kernel
theorem dX0_noteShares_78 : decode cX0_noteShares 78 = .ok (.getfield 15, 3) := by decide +kernel
theorem dX0_noteShares_81 : decode cX0_noteShares 81 = .ok (.iload_n 1, 1) := by decide +kernel
theorem dX0_noteShares_82 : decode cX0_noteShares 82 = .ok (.iconst 4, 1) := by decide +kernel
theorem dX0_noteShares_83 : decode cX0_noteShares 83 = .ok (.imul, 1) := by decide +kernel
theorem dX0_noteShares_84 : decode cX0_noteShares 84 = .ok (.iload 4, 2) := by decide +kernel
theorem dX0_noteShares_86 : decode cX0_noteShares 86 = .ok (.iadd, 1) := by decide +kernel
theorem dX0_noteShares_87 : decode cX0_noteShares 87 = .ok (.iload 5, 2) := by decide +kernel
theorem dX0_noteShares_89 : decode cX0_noteShares 89 = .ok (.iastore, 1) := by decide +kernel
theorem dX0_noteShares_90 : decode cX0_noteShares 90 = .ok (.iload_n 3, 1) := by decide +kernel
theorem dX0_noteShares_91 : decode cX0_noteShares 91 = .ok (.aload_n 0, 1) := by decide +kernel
theorem dX0_noteShares_92 : decode cX0_noteShares 92 = .ok (.iload 4, 2) := by decide +kernel
theorem dX0_noteShares_94 : decode cX0_noteShares 94 = .ok (.iload 5, 2) := by decide +kernel
theorem dX0_noteShares_96 : decode cX0_noteShares 96 = .ok (.invokevirtual 79, 3) := by decide +kernel
theorem dX0_noteShares_99 : decode cX0_noteShares 99 = .ok (.ior, 1) := by decide +kernel
theorem dX0_noteShares_100 : decode cX0_noteShares 100 = .ok (.istore_n 3, 1) := by decide +kernel
theorem dX0_noteShares_101 : decode cX0_noteShares 101 = .ok (.iinc 4 1, 3) := by decide +kernel
theorem dX0_noteShares_104 : decode cX0_noteShares 104 = .ok (.goto (-68), 3) := by decide +kernel
theorem dX0_noteShares_107 : decode cX0_noteShares 107 = .ok (.iload_n 3, 1) := by decide +kernel
theorem dX0_noteShares_108 : decode cX0_noteShares 108 = .ok (.ireturn, 1) := by decide +kernel
theorem dX0_isEnough_0 : decode cX0_isEnough 0 = .ok (.aload_n 0, 1) := by decide +kernel
theorem dX0_isEnough_1 : decode cX0_isEnough 1 = .ok (.getfield 30, 3) := by decide +kernel
theorem dX0_isEnough_4 : decode cX0_isEnough 4 = .ok (.ifCond .eq 32, 3) := by decide +kernel
theorem dX0_isEnough_7 : decode cX0_isEnough 7 = .ok (.iload_n 2, 1) := by decide +kernel
theorem dX0_isEnough_8 : decode cX0_isEnough 8 = .ok (.aload_n 0, 1) := by decide +kernel
theorem dX0_isEnough_9 : decode cX0_isEnough 9 = .ok (.getfield 34, 3) := by decide +kernel
theorem dX0_isEnough_12 : decode cX0_isEnough 12 = .ok (.imul, 1) := by decide +kernel
theorem dX0_isEnough_13 : decode cX0_isEnough 13 = .ok (.aload_n 0, 1) := by decide +kernel
theorem dX0_isEnough_14 : decode cX0_isEnough 14 = .ok (.getfield 11, 3) := by decide +kernel
theorem dX0_isEnough_17 : decode cX0_isEnough 17 = .ok (.iload_n 1, 1) := by decide +kernel
theorem dX0_isEnough_18 : decode cX0_isEnough 18 = .ok (.bipush 48, 2) := by decide +kernel
theorem dX0_isEnough_20 : decode cX0_isEnough 20 = .ok (.imul, 1) := by decide +kernel
theorem dX0_isEnough_21 : decode cX0_isEnough 21 = .ok (.bipush 24, 2) := by decide +kernel
theorem dX0_isEnough_23 : decode cX0_isEnough 23 = .ok (.iadd, 1) := by decide +kernel
theorem dX0_isEnough_24 : decode cX0_isEnough 24 = .ok (.iaload, 1) := by decide +kernel
theorem dX0_isEnough_25 : decode cX0_isEnough 25 = .ok (.if_icmp .lt 7, 3) := by decide +kernel
theorem dX0_isEnough_28 : decode cX0_isEnough 28 = .ok (.iconst 1, 1) := by decide +kernel
theorem dX0_isEnough_29 : decode cX0_isEnough 29 = .ok (.goto 20, 3) := by decide +kernel
theorem dX0_isEnough_32 : decode cX0_isEnough 32 = .ok (.iconst 0, 1) := by decide +kernel
theorem dX0_isEnough_33 : decode cX0_isEnough 33 = .ok (.goto 16, 3) := by decide +kernel
theorem dX0_isEnough_36 : decode cX0_isEnough 36 = .ok (.iload_n 2, 1) := by decide +kernel
theorem dX0_isEnough_37 : decode cX0_isEnough 37 = .ok (.aload_n 0, 1) := by decide +kernel
theorem dX0_isEnough_38 : decode cX0_isEnough 38 = .ok (.getfield 38, 3) := by decide +kernel
theorem dX0_isEnough_41 : decode cX0_isEnough 41 = .ok (.if_icmp .le 7, 3) := by decide +kernel
theorem dX0_isEnough_44 : decode cX0_isEnough 44 = .ok (.iconst 1, 1) := by decide +kernel
theorem dX0_isEnough_45 : decode cX0_isEnough 45 = .ok (.goto 4, 3) := by decide +kernel
theorem dX0_isEnough_48 : decode cX0_isEnough 48 = .ok (.iconst 0, 1) := by decide +kernel
theorem dX0_isEnough_49 : decode cX0_isEnough 49 = .ok (.ireturn, 1) := by decide +kernel
theorem dX0_chooseHeirs_0 : decode cX0_chooseHeirs 0 = .ok (.iconst 0, 1) := by decide +kernel
theorem dX0_chooseHeirs_1 : decode cX0_chooseHeirs 1 = .ok (.istore 4, 2) := by decide +kernel
theorem dX0_chooseHeirs_3 : decode cX0_chooseHeirs 3 = .ok (.iload 4, 2) := by decide +kernel
theorem dX0_chooseHeirs_5 : decode cX0_chooseHeirs 5 = .ok (.aload_n 0, 1) := by decide +kernel
theorem dX0_chooseHeirs_6 : decode cX0_chooseHeirs 6 = .ok (.getfield 34, 3) := by decide +kernel
theorem dX0_chooseHeirs_9 : decode cX0_chooseHeirs 9 = .ok (.if_icmp .ge 114, 3) := by decide +kernel
theorem dX0_chooseHeirs_12 : decode cX0_chooseHeirs 12 = .ok (.aload_n 0, 1) := by decide +kernel
theorem dX0_chooseHeirs_13 : decode cX0_chooseHeirs 13 = .ok (.invokevirtual 49, 3) := by decide +kernel
theorem dX0_chooseHeirs_16 : decode cX0_chooseHeirs 16 = .ok (.ifCond .ne 107, 3) := by decide +kernel
theorem dX0_chooseHeirs_19 : decode cX0_chooseHeirs 19 = .ok (.aload_n 0, 1) := by decide +kernel
theorem dX0_chooseHeirs_20 : decode cX0_chooseHeirs 20 = .ok (.getfield 15, 3) := by decide +kernel
theorem dX0_chooseHeirs_23 : decode cX0_chooseHeirs 23 = .ok (.iload_n 1, 1) := by decide +kernel
theorem dX0_chooseHeirs_24 : decode cX0_chooseHeirs 24 = .ok (.iconst 4, 1) := by decide +kernel
theorem dX0_chooseHeirs_25 : decode cX0_chooseHeirs 25 = .ok (.imul, 1) := by decide +kernel
theorem dX0_chooseHeirs_26 : decode cX0_chooseHeirs 26 = .ok (.iload 4, 2) := by decide +kernel
theorem dX0_chooseHeirs_28 : decode cX0_chooseHeirs 28 = .ok (.iadd, 1) := by decide +kernel
theorem dX0_chooseHeirs_29 : decode cX0_chooseHeirs 29 = .ok (.iaload, 1) := by decide +kernel
theorem dX0_chooseHeirs_30 : decode cX0_chooseHeirs 30 = .ok (.istore 5, 2) := by decide +kernel
theorem dX0_chooseHeirs_32 : decode cX0_chooseHeirs 32 = .ok (.iload_n 3, 1) := by decide +kernel
theorem dX0_chooseHeirs_33 : decode cX0_chooseHeirs 33 = .ok (.iload 5, 2) := by decide +kernel
theorem dX0_chooseHeirs_35 : decode cX0_chooseHeirs 35 = .ok (.invokestatic 61, 3) := by decide +kernel
theorem dX0_chooseHeirs_38 : decode cX0_chooseHeirs 38 = .ok (.istore 6, 2) := by decide +kernel
theorem dX0_chooseHeirs_40 : decode cX0_chooseHeirs 40 = .ok (.aload_n 0, 1) := by decide +kernel
theorem dX0_chooseHeirs_41 : decode cX0_chooseHeirs 41 = .ok (.getfield 30, 3) := by decide +kernel
theorem dX0_chooseHeirs_44 : decode cX0_chooseHeirs 44 = .ok (.ifCond .eq 22, 3) := by decide +kernel
theorem dX0_chooseHeirs_47 : decode cX0_chooseHeirs 47 = .ok (.aload_n 0, 1) := by decide +kernel
theorem dX0_chooseHeirs_48 : decode cX0_chooseHeirs 48 = .ok (.iload 4, 2) := by decide +kernel
theorem dX0_chooseHeirs_50 : decode cX0_chooseHeirs 50 = .ok (.iload 5, 2) := by decide +kernel
theorem dX0_chooseHeirs_52 : decode cX0_chooseHeirs 52 = .ok (.invokevirtual 83, 3) := by decide +kernel
theorem dX0_chooseHeirs_55 : decode cX0_chooseHeirs 55 = .ok (.ifCond .ne 7, 3) := by decide +kernel
theorem dX0_chooseHeirs_58 : decode cX0_chooseHeirs 58 = .ok (.iconst 1, 1) := by decide +kernel
theorem dX0_chooseHeirs_59 : decode cX0_chooseHeirs 59 = .ok (.goto 21, 3) := by decide +kernel
theorem dX0_chooseHeirs_62 : decode cX0_chooseHeirs 62 = .ok (.iconst 0, 1) := by decide +kernel
theorem dX0_chooseHeirs_63 : decode cX0_chooseHeirs 63 = .ok (.goto 17, 3) := by decide +kernel
theorem dX0_chooseHeirs_66 : decode cX0_chooseHeirs 66 = .ok (.iload 6, 2) := by decide +kernel
theorem dX0_chooseHeirs_68 : decode cX0_chooseHeirs 68 = .ok (.aload_n 0, 1) := by decide +kernel
theorem dX0_chooseHeirs_69 : decode cX0_chooseHeirs 69 = .ok (.getfield 38, 3) := by decide +kernel
theorem dX0_chooseHeirs_72 : decode cX0_chooseHeirs 72 = .ok (.if_icmp .le 7, 3) := by decide +kernel
theorem dX0_chooseHeirs_75 : decode cX0_chooseHeirs 75 = .ok (.iconst 1, 1) := by decide +kernel
theorem dX0_chooseHeirs_76 : decode cX0_chooseHeirs 76 = .ok (.goto 4, 3) := by decide +kernel
theorem dX0_chooseHeirs_79 : decode cX0_chooseHeirs 79 = .ok (.iconst 0, 1) := by decide +kernel
theorem dX0_chooseHeirs_80 : decode cX0_chooseHeirs 80 = .ok (.istore 7, 2) := by decide +kernel
theorem dX0_chooseHeirs_82 : decode cX0_chooseHeirs 82 = .ok (.iload_n 2, 1) := by decide +kernel
theorem dX0_chooseHeirs_83 : decode cX0_chooseHeirs 83 = .ok (.iload 4, 2) := by decide +kernel
theorem dX0_chooseHeirs_85 : decode cX0_chooseHeirs 85 = .ok (.ishr, 1) := by decide +kernel
theorem dX0_chooseHeirs_86 : decode cX0_chooseHeirs 86 = .ok (.iconst 1, 1) := by decide +kernel
theorem dX0_chooseHeirs_87 : decode cX0_chooseHeirs 87 = .ok (.iand, 1) := by decide +kernel
theorem dX0_chooseHeirs_88 : decode cX0_chooseHeirs 88 = .ok (.ifCond .ne 29, 3) := by decide +kernel
theorem dX0_chooseHeirs_91 : decode cX0_chooseHeirs 91 = .ok (.iload 7, 2) := by decide +kernel
theorem dX0_chooseHeirs_93 : decode cX0_chooseHeirs 93 = .ok (.ifCond .eq 24, 3) := by decide +kernel
theorem dX0_chooseHeirs_96 : decode cX0_chooseHeirs 96 = .ok (.aload_n 0, 1) := by decide +kernel
theorem dX0_chooseHeirs_97 : decode cX0_chooseHeirs 97 = .ok (.getfield 21, 3) := by decide +kernel
theorem dX0_chooseHeirs_100 : decode cX0_chooseHeirs 100 = .ok (.iload_n 1, 1) := by decide +kernel
theorem dX0_chooseHeirs_101 : decode cX0_chooseHeirs 101 = .ok (.iload 4, 2) := by decide +kernel
theorem dX0_chooseHeirs_103 : decode cX0_chooseHeirs 103 = .ok (.iastore, 1) := by decide +kernel
theorem dX0_chooseHeirs_104 : decode cX0_chooseHeirs 104 = .ok (.aload_n 0, 1) := by decide +kernel
theorem dX0_chooseHeirs_105 : decode cX0_chooseHeirs 105 = .ok (.iload_n 1, 1) := by decide +kernel
theorem dX0_chooseHeirs_106 : decode cX0_chooseHeirs 106 = .ok (.iload_n 2, 1) := by decide +kernel
theorem dX0_chooseHeirs_107 : decode cX0_chooseHeirs 107 = .ok (.iconst 1, 1) := by decide +kernel
theorem dX0_chooseHeirs_108 : decode cX0_chooseHeirs 108 = .ok (.iload 4, 2) := by decide +kernel
theorem dX0_chooseHeirs_110 : decode cX0_chooseHeirs 110 = .ok (.ishl, 1) := by decide +kernel
theorem dX0_chooseHeirs_111 : decode cX0_chooseHeirs 111 = .ok (.ior, 1) := by decide +kernel
theorem dX0_chooseHeirs_112 : decode cX0_chooseHeirs 112 = .ok (.iload 6, 2) := by decide +kernel
theorem dX0_chooseHeirs_114 : decode cX0_chooseHeirs 114 = .ok (.invokevirtual 86, 3) := by decide +kernel
theorem dX0_chooseHeirs_117 : decode cX0_chooseHeirs 117 = .ok (.iinc 4 1, 3) := by decide +kernel
theorem dX0_chooseHeirs_120 : decode cX0_chooseHeirs 120 = .ok (.goto (-117), 3) := by decide +kernel
theorem dX0_chooseHeirs_123 : decode cX0_chooseHeirs 123 = .ok (.return_, 1) := by decide +kernel
theorem dX0_chooseBehind_0 : decode cX0_chooseBehind 0 = .ok (.iload_n 1, 1) := by decide +kernel
theorem dX0_chooseBehind_1 : decode cX0_chooseBehind 1 = .ok (.iconst 1, 1) := by decide +kernel
theorem dX0_chooseBehind_2 : decode cX0_chooseBehind 2 = .ok (.iadd, 1) := by decide +kernel
theorem dX0_chooseBehind_3 : decode cX0_chooseBehind 3 = .ok (.aload_n 0, 1) := by decide +kernel
theorem dX0_chooseBehind_4 : decode cX0_chooseBehind 4 = .ok (.getfield 34, 3) := by decide +kernel
theorem dX0_chooseBehind_7 : decode cX0_chooseBehind 7 = .ok (.if_icmp .ge 15, 3) := by decide +kernel
theorem dX0_chooseBehind_10 : decode cX0_chooseBehind 10 = .ok (.aload_n 0, 1) := by decide +kernel
theorem dX0_chooseBehind_11 : decode cX0_chooseBehind 11 = .ok (.iload_n 1, 1) := by decide +kernel
theorem dX0_chooseBehind_12 : decode cX0_chooseBehind 12 = .ok (.iconst 1, 1) := by decide +kernel
theorem dX0_chooseBehind_13 : decode cX0_chooseBehind 13 = .ok (.iadd, 1) := by decide +kernel
theorem dX0_chooseBehind_14 : decode cX0_chooseBehind 14 = .ok (.iload_n 2, 1) := by decide +kernel
theorem dX0_chooseBehind_15 : decode cX0_chooseBehind 15 = .ok (.iload_n 3, 1) := by decide +kernel
theorem dX0_chooseBehind_16 : decode cX0_chooseBehind 16 = .ok (.invokevirtual 57, 3) := by decide +kernel
theorem dX0_chooseBehind_19 : decode cX0_chooseBehind 19 = .ok (.goto 8, 3) := by decide +kernel
theorem dX0_chooseBehind_22 : decode cX0_chooseBehind 22 = .ok (.aload_n 0, 1) := by decide +kernel
theorem dX0_chooseBehind_23 : decode cX0_chooseBehind 23 = .ok (.iload_n 3, 1) := by decide +kernel
theorem dX0_chooseBehind_24 : decode cX0_chooseBehind 24 = .ok (.invokevirtual 89, 3) := by decide +kernel
theorem dX0_chooseBehind_27 : decode cX0_chooseBehind 27 = .ok (.return_, 1) := by decide +kernel
theorem dX0_isEnvious_0 : decode cX0_isEnvious 0 = .ok (.iconst 0, 1) := by decide +kernel
theorem dX0_isEnvious_1 : decode cX0_isEnvious 1 = .ok (.istore_n 3, 1) := by decide +kernel
theorem dX0_isEnvious_2 : decode cX0_isEnvious 2 = .ok (.iconst 0, 1) := by decide +kernel
theorem dX0_isEnvious_3 : decode cX0_isEnvious 3 = .ok (.istore 4, 2) := by decide +kernel
theorem dX0_isEnvious_5 : decode cX0_isEnvious 5 = .ok (.iload 4, 2) := by decide +kernel
theorem dX0_isEnvious_7 : decode cX0_isEnvious 7 = .ok (.aload_n 0, 1) := by decide +kernel
theorem dX0_isEnvious_8 : decode cX0_isEnvious 8 = .ok (.getfield 34, 3) := by decide +kernel
theorem dX0_isEnvious_11 : decode cX0_isEnvious 11 = .ok (.if_icmp .ge 32, 3) := by decide +kernel
theorem dX0_isEnvious_14 : decode cX0_isEnvious 14 = .ok (.iload_n 3, 1) := by decide +kernel
theorem dX0_isEnvious_15 : decode cX0_isEnvious 15 = .ok (.aload_n 0, 1) := by decide +kernel
theorem dX0_isEnvious_16 : decode cX0_isEnvious 16 = .ok (.getfield 15, 3) := by decide +kernel
theorem dX0_isEnvious_19 : decode cX0_isEnvious 19 = .ok (.iload 4, 2) := by decide +kernel
theorem dX0_isEnvious_21 : decode cX0_isEnvious 21 = .ok (.iconst 4, 1) := by decide +kernel
theorem dX0_isEnvious_22 : decode cX0_isEnvious 22 = .ok (.imul, 1) := by decide +kernel
theorem dX0_isEnvious_23 : decode cX0_isEnvious 23 = .ok (.iload_n 1, 1) := by decide +kernel
theorem dX0_isEnvious_24 : decode cX0_isEnvious 24 = .ok (.iadd, 1) := by decide +kernel
theorem dX0_isEnvious_25 : decode cX0_isEnvious 25 = .ok (.iaload, 1) := by decide +kernel
theorem dX0_isEnvious_26 : decode cX0_isEnvious 26 = .ok (.iload_n 2, 1) := by decide +kernel
theorem dX0_isEnvious_27 : decode cX0_isEnvious 27 = .ok (.if_icmp .le 7, 3) := by decide +kernel
theorem dX0_isEnvious_30 : decode cX0_isEnvious 30 = .ok (.iconst 1, 1) := by decide +kernel
theorem dX0_isEnvious_31 : decode cX0_isEnvious 31 = .ok (.goto 4, 3) := by decide +kernel
theorem dX0_isEnvious_34 : decode cX0_isEnvious 34 = .ok (.iconst 0, 1) := by decide +kernel
theorem dX0_isEnvious_35 : decode cX0_isEnvious 35 = .ok (.ior, 1) := by decide +kernel
theorem dX0_isEnvious_36 : decode cX0_isEnvious 36 = .ok (.istore_n 3, 1) := by decide +kernel
theorem dX0_isEnvious_37 : decode cX0_isEnvious 37 = .ok (.iinc 4 1, 3) := by decide +kernel
theorem dX0_isEnvious_40 : decode cX0_isEnvious 40 = .ok (.goto (-35), 3) := by decide +kernel
theorem dX0_isEnvious_43 : decode cX0_isEnvious 43 = .ok (.iload_n 3, 1) := by decide +kernel
theorem dX0_isEnvious_44 : decode cX0_isEnvious 44 = .ok (.ireturn, 1) := by decide +kernel
theorem dX0_keep_0 : decode cX0_keep 0 = .ok (.aload_n 0, 1) := by decide +kernel
theorem dX0_keep_1 : decode cX0_keep 1 = .ok (.iload_n 1, 1) := by decide +kernel
theorem dX0_keep_2 : decode cX0_keep 2 = .ok (.putfield 38, 3) := by decide +kernel
theorem dX0_keep_5 : decode cX0_keep 5 = .ok (.aload_n 0, 1) := by decide +kernel
theorem dX0_keep_6 : decode cX0_keep 6 = .ok (.getfield 18, 3) := by decide +kernel
theorem dX0_keep_9 : decode cX0_keep 9 = .ok (.iconst 0, 1) := by decide +kernel
theorem dX0_keep_10 : decode cX0_keep 10 = .ok (.aload_n 0, 1) := by decide +kernel
theorem dX0_keep_11 : decode cX0_keep 11 = .ok (.getfield 24, 3) := by decide +kernel
theorem dX0_keep_14 : decode cX0_keep 14 = .ok (.iconst 0, 1) := by decide +kernel
theorem dX0_keep_15 : decode cX0_keep 15 = .ok (.aload_n 0, 1) := by decide +kernel
theorem dX0_keep_16 : decode cX0_keep 16 = .ok (.getfield 34, 3) := by decide +kernel
theorem dX0_keep_19 : decode cX0_keep 19 = .ok (.invokestatic 93, 3) := by decide +kernel
theorem dX0_keep_22 : decode cX0_keep 22 = .ok (.aload_n 0, 1) := by decide +kernel
theorem dX0_keep_23 : decode cX0_keep 23 = .ok (.getfield 21, 3) := by decide +kernel
theorem dX0_keep_26 : decode cX0_keep 26 = .ok (.iconst 0, 1) := by decide +kernel
theorem dX0_keep_27 : decode cX0_keep 27 = .ok (.aload_n 0, 1) := by decide +kernel
theorem dX0_keep_28 : decode cX0_keep 28 = .ok (.getfield 27, 3) := by decide +kernel
theorem dX0_keep_31 : decode cX0_keep 31 = .ok (.iconst 0, 1) := by decide +kernel
theorem dX0_keep_32 : decode cX0_keep 32 = .ok (.aload_n 0, 1) := by decide +kernel
theorem dX0_keep_33 : decode cX0_keep 33 = .ok (.getfield 34, 3) := by decide +kernel
theorem dX0_keep_36 : decode cX0_keep 36 = .ok (.invokestatic 93, 3) := by decide +kernel
theorem dX0_keep_39 : decode cX0_keep 39 = .ok (.return_, 1) := by decide +kernel
theorem dX1_init_0 : decode cX1_init 0 = .ok (.aload_n 0, 1) := by decide +kernel
theorem dX1_init_1 : decode cX1_init 1 = .ok (.invokespecial 3, 3) := by decide +kernel
theorem dX1_init_4 : decode cX1_init 4 = .ok (.aload_n 0, 1) := by decide +kernel
theorem dX1_init_5 : decode cX1_init 5 = .ok (.sipush 480, 3) := by decide +kernel
theorem dX1_init_8 : decode cX1_init 8 = .ok (.newarray .int, 2) := by decide +kernel
theorem dX1_init_10 : decode cX1_init 10 = .ok (.putfield 11, 3) := by decide +kernel
theorem dX1_init_13 : decode cX1_init 13 = .ok (.aload_n 0, 1) := by decide +kernel
theorem dX1_init_14 : decode cX1_init 14 = .ok (.bipush 120, 2) := by decide +kernel
theorem dX1_init_16 : decode cX1_init 16 = .ok (.newarray .int, 2) := by decide +kernel
theorem dX1_init_18 : decode cX1_init 18 = .ok (.putfield 15, 3) := by decide +kernel
theorem dX1_init_21 : decode cX1_init 21 = .ok (.aload_n 0, 1) := by decide +kernel
theorem dX1_init_22 : decode cX1_init 22 = .ok (.bipush 120, 2) := by decide +kernel
theorem dX1_init_24 : decode cX1_init 24 = .ok (.newarray .int, 2) := by decide +kernel
theorem dX1_init_26 : decode cX1_init 26 = .ok (.putfield 18, 3) := by decide +kernel
theorem dX1_init_29 : decode cX1_init 29 = .ok (.aload_n 0, 1) := by decide +kernel
theorem dX1_init_30 : decode cX1_init 30 = .ok (.bipush 120, 2) := by decide +kernel
theorem dX1_init_32 : decode cX1_init 32 = .ok (.newarray .boolean, 2) := by decide +kernel
theorem dX1_init_34 : decode cX1_init 34 = .ok (.putfield 21, 3) := by decide +kernel
theorem dX1_init_37 : decode cX1_init 37 = .ok (.return_, 1) := by decide +kernel
theorem dX1_lengthFor_0 : decode cX1_lengthFor 0 = .ok (.iconst 0, 1) := by decide +kernel
theorem dX1_lengthFor_1 : decode cX1_lengthFor 1 = .ok (.istore_n 3, 1) := by decide +kernel
theorem dX1_lengthFor_2 : decode cX1_lengthFor 2 = .ok (.iload_n 3, 1) := by decide +kernel
theorem dX1_lengthFor_3 : decode cX1_lengthFor 3 = .ok (.iconst 5, 1) := by decide +kernel
theorem dX1_lengthFor_4 : decode cX1_lengthFor 4 = .ok (.if_icmp .ge 73, 3) := by decide +kernel
theorem dX1_lengthFor_7 : decode cX1_lengthFor 7 = .ok (.iconst 0, 1) := by decide +kernel
theorem dX1_lengthFor_8 : decode cX1_lengthFor 8 = .ok (.istore 4, 2) := by decide +kernel
theorem dX1_lengthFor_10 : decode cX1_lengthFor 10 = .ok (.iload 4, 2) := by decide +kernel
theorem dX1_lengthFor_12 : decode cX1_lengthFor 12 = .ok (.bipush 24, 2) := by decide +kernel
theorem dX1_lengthFor_14 : decode cX1_lengthFor 14 = .ok (.if_icmp .ge 57, 3) := by decide +kernel
theorem dX1_lengthFor_17 : decode cX1_lengthFor 17 = .ok (.iload_n 3, 1) := by decide +kernel
theorem dX1_lengthFor_18 : decode cX1_lengthFor 18 = .ok (.bipush 24, 2) := by decide +kernel
theorem dX1_lengthFor_20 : decode cX1_lengthFor 20 = .ok (.imul, 1) := by decide +kernel
theorem dX1_lengthFor_21 : decode cX1_lengthFor 21 = .ok (.iload 4, 2) := by decide +kernel
theorem dX1_lengthFor_23 : decode cX1_lengthFor 23 = .ok (.iadd, 1) := by decide +kernel
theorem dX1_lengthFor_24 : decode cX1_lengthFor 24 = .ok (.istore 5, 2) := by decide +kernel
theorem dX1_lengthFor_26 : decode cX1_lengthFor 26 = .ok (.aload_n 0, 1) := by decide +kernel
theorem dX1_lengthFor_27 : decode cX1_lengthFor 27 = .ok (.getfield 21, 3) := by decide +kernel
theorem dX1_lengthFor_30 : decode cX1_lengthFor 30 = .ok (.iload 5, 2) := by decide +kernel
theorem dX1_lengthFor_32 : decode cX1_lengthFor 32 = .ok (.aload_n 2, 1) := by decide +kernel
theorem dX1_lengthFor_33 : decode cX1_lengthFor 33 = .ok (.iload_n 3, 1) := by decide +kernel
theorem dX1_lengthFor_34 : decode cX1_lengthFor 34 = .ok (.iload 4, 2) := by decide +kernel
theorem dX1_lengthFor_36 : decode cX1_lengthFor 36 = .ok (.invokevirtual 25, 3) := by decide +kernel
theorem dX1_lengthFor_39 : decode cX1_lengthFor 39 = .ok (.ifCond .ne 17, 3) := by decide +kernel
theorem dX1_lengthFor_42 : decode cX1_lengthFor 42 = .ok (.aload_n 2, 1) := by decide +kernel
theorem dX1_lengthFor_43 : decode cX1_lengthFor 43 = .ok (.iload 4, 2) := by decide +kernel
theorem dX1_lengthFor_45 : decode cX1_lengthFor 45 = .ok (.invokevirtual 31, 3) := by decide +kernel
theorem dX1_lengthFor_48 : decode cX1_lengthFor 48 = .ok (.iload_n 1, 1) := by decide +kernel
theorem dX1_lengthFor_49 : decode cX1_lengthFor 49 = .ok (.if_icmp .eq 7, 3) := by decide +kernel
theorem dX1_lengthFor_52 : decode cX1_lengthFor 52 = .ok (.iconst 1, 1) := by decide +kernel
theorem dX1_lengthFor_53 : decode cX1_lengthFor 53 = .ok (.goto 4, 3) := by decide +kernel
theorem dX1_lengthFor_56 : decode cX1_lengthFor 56 = .ok (.iconst 0, 1) := by decide +kernel
theorem dX1_lengthFor_57 : decode cX1_lengthFor 57 = .ok (.bastore, 1) := by decide +kernel
theorem dX1_lengthFor_58 : decode cX1_lengthFor 58 = .ok (.aload_n 0, 1) := by decide +kernel
theorem dX1_lengthFor_59 : decode cX1_lengthFor 59 = .ok (.iload 5, 2) := by decide +kernel
theorem dX1_lengthFor_61 : decode cX1_lengthFor 61 = .ok (.iload_n 3, 1) := by decide +kernel
theorem dX1_lengthFor_62 : decode cX1_lengthFor 62 = .ok (.invokevirtual 35, 3) := by decide +kernel
theorem dX1_lengthFor_65 : decode cX1_lengthFor 65 = .ok (.iinc 4 1, 3) := by decide +kernel
theorem dX1_lengthFor_68 : decode cX1_lengthFor 68 = .ok (.goto (-58), 3) := by decide +kernel
theorem dX1_lengthFor_71 : decode cX1_lengthFor 71 = .ok (.iinc 3 1, 3) := by decide +kernel
theorem dX1_lengthFor_74 : decode cX1_lengthFor 74 = .ok (.goto (-72), 3) := by decide +kernel
theorem dX1_lengthFor_77 : decode cX1_lengthFor 77 = .ok (.iconst 0, 1) := by decide +kernel
theorem dX1_lengthFor_78 : decode cX1_lengthFor 78 = .ok (.istore_n 3, 1) := by decide +kernel
theorem dX1_lengthFor_79 : decode cX1_lengthFor 79 = .ok (.iconst 0, 1) := by decide +kernel
theorem dX1_lengthFor_80 : decode cX1_lengthFor 80 = .ok (.istore 4, 2) := by decide +kernel
theorem dX1_lengthFor_82 : decode cX1_lengthFor 82 = .ok (.iload 4, 2) := by decide +kernel
theorem dX1_lengthFor_84 : decode cX1_lengthFor 84 = .ok (.sipush 1000, 3) := by decide +kernel
theorem dX1_lengthFor_87 : decode cX1_lengthFor 87 = .ok (.if_icmp .ge 36, 3) := by decide +kernel
theorem dX1_lengthFor_90 : decode cX1_lengthFor 90 = .ok (.aload_n 0, 1) := by decide +kernel
theorem dX1_lengthFor_91 : decode cX1_lengthFor 91 = .ok (.iload_n 1, 1) := by decide +kernel
theorem dX1_lengthFor_92 : decode cX1_lengthFor 92 = .ok (.aload_n 2, 1) := by decide +kernel
theorem dX1_lengthFor_93 : decode cX1_lengthFor 93 = .ok (.invokevirtual 39, 3) := by decide +kernel
theorem dX1_lengthFor_96 : decode cX1_lengthFor 96 = .ok (.istore 5, 2) := by decide +kernel
theorem dX1_lengthFor_98 : decode cX1_lengthFor 98 = .ok (.iload 5, 2) := by decide +kernel
theorem dX1_lengthFor_100 : decode cX1_lengthFor 100 = .ok (.bipush (-6), 2) := by decide +kernel
theorem dX1_lengthFor_102 : decode cX1_lengthFor 102 = .ok (.if_icmp .ne 6, 3) := by decide +kernel
theorem dX1_lengthFor_105 : decode cX1_lengthFor 105 = .ok (.goto 18, 3) := by decide +kernel
theorem dX1_lengthFor_108 : decode cX1_lengthFor 108 = .ok (.iload_n 3, 1) := by decide +kernel
theorem dX1_lengthFor_109 : decode cX1_lengthFor 109 = .ok (.aload_n 0, 1) := by decide +kernel
theorem dX1_lengthFor_110 : decode cX1_lengthFor 110 = .ok (.iload 5, 2) := by decide +kernel
theorem dX1_lengthFor_112 : decode cX1_lengthFor 112 = .ok (.invokevirtual 43, 3) := by decide +kernel
theorem dX1_lengthFor_115 : decode cX1_lengthFor 115 = .ok (.iadd, 1) := by decide +kernel
theorem dX1_lengthFor_116 : decode cX1_lengthFor 116 = .ok (.istore_n 3, 1) := by decide +kernel
theorem dX1_lengthFor_117 : decode cX1_lengthFor 117 = .ok (.iinc 4 1, 3) := by decide +kernel
theorem dX1_lengthFor_120 : decode cX1_lengthFor 120 = .ok (.goto (-38), 3) := by decide +kernel
theorem dX1_lengthFor_123 : decode cX1_lengthFor 123 = .ok (.iload_n 3, 1) := by decide +kernel
theorem dX1_lengthFor_124 : decode cX1_lengthFor 124 = .ok (.ireturn, 1) := by decide +kernel
theorem dX1_openSides_0 : decode cX1_openSides 0 = .ok (.aload_n 0, 1) := by decide +kernel
theorem dX1_openSides_1 : decode cX1_openSides 1 = .ok (.getfield 11, 3) := by decide +kernel
theorem dX1_openSides_4 : decode cX1_openSides 4 = .ok (.iload_n 1, 1) := by decide +kernel
theorem dX1_openSides_5 : decode cX1_openSides 5 = .ok (.iconst 4, 1) := by decide +kernel
theorem dX1_openSides_6 : decode cX1_openSides 6 = .ok (.imul, 1) := by decide +kernel
theorem dX1_openSides_7 : decode cX1_openSides 7 = .ok (.iconst 0, 1) := by decide +kernel
theorem dX1_openSides_8 : decode cX1_openSides 8 = .ok (.iadd, 1) := by decide +kernel
theorem dX1_openSides_9 : decode cX1_openSides 9 = .ok (.iconst 2, 1) := by decide +kernel
theorem dX1_openSides_10 : decode cX1_openSides 10 = .ok (.iastore, 1) := by decide +kernel
theorem dX1_openSides_11 : decode cX1_openSides 11 = .ok (.aload_n 0, 1) := by decide +kernel
theorem dX1_openSides_12 : decode cX1_openSides 12 = .ok (.getfield 11, 3) := by decide +kernel
theorem dX1_openSides_15 : decode cX1_openSides 15 = .ok (.iload_n 1, 1) := by decide +kernel
theorem dX1_openSides_16 : decode cX1_openSides 16 = .ok (.iconst 4, 1) := by decide +kernel
theorem dX1_openSides_17 : decode cX1_openSides 17 = .ok (.imul, 1) := by decide +kernel
theorem dX1_openSides_18 : decode cX1_openSides 18 = .ok (.iconst 1, 1) := by decide +kernel
theorem dX1_openSides_19 : decode cX1_openSides 19 = .ok (.iadd, 1) := by decide +kernel
theorem dX1_openSides_20 : decode cX1_openSides 20 = .ok (.iconst 2, 1) := by decide +kernel
theorem dX1_openSides_21 : decode cX1_openSides 21 = .ok (.iastore, 1) := by decide +kernel
theorem dX1_openSides_22 : decode cX1_openSides 22 = .ok (.aload_n 0, 1) := by decide +kernel
theorem dX1_openSides_23 : decode cX1_openSides 23 = .ok (.getfield 11, 3) := by decide +kernel
theorem dX1_openSides_26 : decode cX1_openSides 26 = .ok (.iload_n 1, 1) := by decide +kernel
theorem dX1_openSides_27 : decode cX1_openSides 27 = .ok (.iconst 4, 1) := by decide +kernel
theorem dX1_openSides_28 : decode cX1_openSides 28 = .ok (.imul, 1) := by decide +kernel
theorem dX1_openSides_29 : decode cX1_openSides 29 = .ok (.iconst 2, 1) := by decide +kernel
theorem dX1_openSides_30 : decode cX1_openSides 30 = .ok (.iadd, 1) := by decide +kernel
theorem dX1_openSides_31 : decode cX1_openSides 31 = .ok (.iload_n 2, 1) := by decide +kernel
theorem dX1_openSides_32 : decode cX1_openSides 32 = .ok (.iconst 1, 1) := by decide +kernel
theorem dX1_openSides_33 : decode cX1_openSides 33 = .ok (.iadd, 1) := by decide +kernel
theorem dX1_openSides_34 : decode cX1_openSides 34 = .ok (.iconst 5, 1) := by decide +kernel
theorem dX1_openSides_35 : decode cX1_openSides 35 = .ok (.if_icmp .ge 9, 3) := by decide +kernel
theorem dX1_openSides_38 : decode cX1_openSides 38 = .ok (.iconst 5, 1) := by decide +kernel
theorem dX1_openSides_39 : decode cX1_openSides 39 = .ok (.iload_n 2, 1) := by decide +kernel
theorem dX1_openSides_40 : decode cX1_openSides 40 = .ok (.isub, 1) := by decide +kernel
theorem dX1_openSides_41 : decode cX1_openSides 41 = .ok (.goto 4, 3) := by decide +kernel
theorem dX1_openSides_44 : decode cX1_openSides 44 = .ok (.iconst 0, 1) := by decide +kernel
theorem dX1_openSides_45 : decode cX1_openSides 45 = .ok (.iastore, 1) := by decide +kernel
theorem dX1_openSides_46 : decode cX1_openSides 46 = .ok (.aload_n 0, 1) := by decide +kernel
theorem dX1_openSides_47 : decode cX1_openSides 47 = .ok (.getfield 11, 3) := by decide +kernel
theorem dX1_openSides_50 : decode cX1_openSides 50 = .ok (.iload_n 1, 1) := by decide +kernel
theorem dX1_openSides_51 : decode cX1_openSides 51 = .ok (.iconst 4, 1) := by decide +kernel
theorem dX1_openSides_52 : decode cX1_openSides 52 = .ok (.imul, 1) := by decide +kernel
theorem dX1_openSides_53 : decode cX1_openSides 53 = .ok (.iconst 3, 1) := by decide +kernel
theorem dX1_openSides_54 : decode cX1_openSides 54 = .ok (.iadd, 1) := by decide +kernel
theorem dX1_openSides_55 : decode cX1_openSides 55 = .ok (.iload_n 2, 1) := by decide +kernel
theorem dX1_openSides_56 : decode cX1_openSides 56 = .ok (.ifCond .le 11, 3) := by decide +kernel
theorem dX1_openSides_59 : decode cX1_openSides 59 = .ok (.iconst 5, 1) := by decide +kernel
theorem dX1_openSides_60 : decode cX1_openSides 60 = .ok (.iload_n 2, 1) := by decide +kernel
theorem dX1_openSides_61 : decode cX1_openSides 61 = .ok (.iconst 1, 1) := by decide +kernel
theorem dX1_openSides_62 : decode cX1_openSides 62 = .ok (.isub, 1) := by decide +kernel
theorem dX1_openSides_63 : decode cX1_openSides 63 = .ok (.isub, 1) := by decide +kernel
theorem dX1_openSides_64 : decode cX1_openSides 64 = .ok (.goto 4, 3) := by decide +kernel
theorem dX1_openSides_67 : decode cX1_openSides 67 = .ok (.iconst 0, 1) := by decide +kernel
theorem dX1_openSides_68 : decode cX1_openSides 68 = .ok (.iastore, 1) := by decide +kernel
theorem dX1_openSides_69 : decode cX1_openSides 69 = .ok (.return_, 1) := by decide +kernel
theorem dX1_seekGoal_0 : decode cX1_seekGoal 0 = .ok (.aload_n 0, 1) := by decide +kernel
theorem dX1_seekGoal_1 : decode cX1_seekGoal 1 = .ok (.iconst 0, 1) := by decide +kernel
theorem dX1_seekGoal_2 : decode cX1_seekGoal 2 = .ok (.putfield 46, 3) := by decide +kernel
theorem dX1_seekGoal_5 : decode cX1_seekGoal 5 = .ok (.iconst 0, 1) := by decide +kernel
theorem dX1_seekGoal_6 : decode cX1_seekGoal 6 = .ok (.istore_n 3, 1) := by decide +kernel
theorem dX1_seekGoal_7 : decode cX1_seekGoal 7 = .ok (.iload_n 3, 1) := by decide +kernel
theorem dX1_seekGoal_8 : decode cX1_seekGoal 8 = .ok (.bipush 120, 2) := by decide +kernel
theorem dX1_seekGoal_10 : decode cX1_seekGoal 10 = .ok (.if_icmp .ge 52, 3) := by decide +kernel
theorem dX1_seekGoal_13 : decode cX1_seekGoal 13 = .ok (.aload_n 0, 1) := by decide +kernel
theorem dX1_seekGoal_14 : decode cX1_seekGoal 14 = .ok (.getfield 15, 3) := by decide +kernel
theorem dX1_seekGoal_17 : decode cX1_seekGoal 17 = .ok (.iload_n 3, 1) := by decide +kernel
theorem dX1_seekGoal_18 : decode cX1_seekGoal 18 = .ok (.iconst (-1), 1) := by decide +kernel
theorem dX1_seekGoal_19 : decode cX1_seekGoal 19 = .ok (.iastore, 1) := by decide +kernel
theorem dX1_seekGoal_20 : decode cX1_seekGoal 20 = .ok (.iload_n 3, 1) := by decide +kernel
theorem dX1_seekGoal_21 : decode cX1_seekGoal 21 = .ok (.bipush 24, 2) := by decide +kernel
theorem dX1_seekGoal_23 : decode cX1_seekGoal 23 = .ok (.irem, 1) := by decide +kernel
theorem dX1_seekGoal_24 : decode cX1_seekGoal 24 = .ok (.istore 4, 2) := by decide +kernel
theorem dX1_seekGoal_26 : decode cX1_seekGoal 26 = .ok (.aload_n 2, 1) := by decide +kernel
theorem dX1_seekGoal_27 : decode cX1_seekGoal 27 = .ok (.iload_n 3, 1) := by decide +kernel
theorem dX1_seekGoal_28 : decode cX1_seekGoal 28 = .ok (.bipush 24, 2) := by decide +kernel
theorem dX1_seekGoal_30 : decode cX1_seekGoal 30 = .ok (.idiv, 1) := by decide +kernel
theorem dX1_seekGoal_31 : decode cX1_seekGoal 31 = .ok (.iload 4, 2) := by decide +kernel
theorem dX1_seekGoal_33 : decode cX1_seekGoal 33 = .ok (.invokevirtual 25, 3) := by decide +kernel
theorem dX1_seekGoal_36 : decode cX1_seekGoal 36 = .ok (.iconst 2, 1) := by decide +kernel
theorem dX1_seekGoal_37 : decode cX1_seekGoal 37 = .ok (.if_icmp .ne 19, 3) := by decide +kernel
theorem dX1_seekGoal_40 : decode cX1_seekGoal 40 = .ok (.aload_n 2, 1) := by decide +kernel
theorem dX1_seekGoal_41 : decode cX1_seekGoal 41 = .ok (.iload 4, 2) := by decide +kernel
theorem dX1_seekGoal_43 : decode cX1_seekGoal 43 = .ok (.invokevirtual 31, 3) := by decide +kernel
theorem dX1_seekGoal_46 : decode cX1_seekGoal 46 = .ok (.iload_n 1, 1) := by decide +kernel
theorem dX1_seekGoal_47 : decode cX1_seekGoal 47 = .ok (.if_icmp .ne 9, 3) := by decide +kernel
theorem dX1_seekGoal_50 : decode cX1_seekGoal 50 = .ok (.aload_n 0, 1) := by decide +kernel
theorem dX1_seekGoal_51 : decode cX1_seekGoal 51 = .ok (.iload_n 3, 1) := by decide +kernel
theorem dX1_seekGoal_52 : decode cX1_seekGoal 52 = .ok (.iconst 4, 1) := by decide +kernel
theorem dX1_seekGoal_53 : decode cX1_seekGoal 53 = .ok (.invokevirtual 50, 3) := by decide +kernel
theorem dX1_seekGoal_56 : decode cX1_seekGoal 56 = .ok (.iinc 3 1, 3) := by decide +kernel
theorem dX1_seekGoal_59 : decode cX1_seekGoal 59 = .ok (.goto (-52), 3) := by decide +kernel
theorem dX1_seekGoal_62 : decode cX1_seekGoal 62 = .ok (.iconst 0, 1) := by decide +kernel
theorem dX1_seekGoal_63 : decode cX1_seekGoal 63 = .ok (.istore_n 3, 1) := by decide +kernel
theorem dX1_seekGoal_64 : decode cX1_seekGoal 64 = .ok (.iload_n 3, 1) := by decide +kernel
theorem dX1_seekGoal_65 : decode cX1_seekGoal 65 = .ok (.aload_n 0, 1) := by decide +kernel
theorem dX1_seekGoal_66 : decode cX1_seekGoal 66 = .ok (.getfield 46, 3) := by decide +kernel
theorem dX1_seekGoal_69 : decode cX1_seekGoal 69 = .ok (.if_icmp .ge 79, 3) := by decide +kernel
theorem dX1_seekGoal_72 : decode cX1_seekGoal 72 = .ok (.iload_n 3, 1) := by decide +kernel
theorem dX1_seekGoal_73 : decode cX1_seekGoal 73 = .ok (.bipush 120, 2) := by decide +kernel
theorem dX1_seekGoal_75 : decode cX1_seekGoal 75 = .ok (.if_icmp .ge 73, 3) := by decide +kernel
theorem dX1_seekGoal_78 : decode cX1_seekGoal 78 = .ok (.aload_n 0, 1) := by decide +kernel
theorem dX1_seekGoal_79 : decode cX1_seekGoal 79 = .ok (.getfield 18, 3) := by decide +kernel
theorem dX1_seekGoal_82 : decode cX1_seekGoal 82 = .ok (.iload_n 3, 1) := by decide +kernel
theorem dX1_seekGoal_83 : decode cX1_seekGoal 83 = .ok (.iaload, 1) := by decide +kernel
theorem dX1_seekGoal_84 : decode cX1_seekGoal 84 = .ok (.istore 4, 2) := by decide +kernel
theorem dX1_seekGoal_86 : decode cX1_seekGoal 86 = .ok (.aload_n 0, 1) := by decide +kernel
theorem dX1_seekGoal_87 : decode cX1_seekGoal 87 = .ok (.getfield 21, 3) := by decide +kernel
theorem dX1_seekGoal_90 : decode cX1_seekGoal 90 = .ok (.iload 4, 2) := by decide +kernel
theorem dX1_seekGoal_92 : decode cX1_seekGoal 92 = .ok (.baload, 1) := by decide +kernel
theorem dX1_seekGoal_93 : decode cX1_seekGoal 93 = .ok (.ifCond .eq 6, 3) := by decide +kernel
theorem dX1_seekGoal_96 : decode cX1_seekGoal 96 = .ok (.iload 4, 2) := by decide +kernel
theorem dX1_seekGoal_98 : decode cX1_seekGoal 98 = .ok (.ireturn, 1) := by decide +kernel
theorem dX1_seekGoal_99 : decode cX1_seekGoal 99 = .ok (.iconst 0, 1) := by decide +kernel
theorem dX1_seekGoal_100 : decode cX1_seekGoal 100 = .ok (.istore 5, 2) := by decide +kernel
theorem dX1_seekGoal_102 : decode cX1_seekGoal 102 = .ok (.iload 5, 2) := by decide +kernel
theorem dX1_seekGoal_104 : decode cX1_seekGoal 104 = .ok (.iconst 4, 1) := by decide +kernel
theorem dX1_seekGoal_105 : decode cX1_seekGoal 105 = .ok (.if_icmp .ge 37, 3) := by decide +kernel
theorem dX1_seekGoal_108 : decode cX1_seekGoal 108 = .ok (.aload_n 0, 1) := by decide +kernel
theorem dX1_seekGoal_109 : decode cX1_seekGoal 109 = .ok (.getfield 11, 3) := by decide +kernel
theorem dX1_seekGoal_112 : decode cX1_seekGoal 112 = .ok (.iload 4, 2) := by decide +kernel
theorem dX1_seekGoal_114 : decode cX1_seekGoal 114 = .ok (.iconst 4, 1) := by decide +kernel
theorem dX1_seekGoal_115 : decode cX1_seekGoal 115 = .ok (.imul, 1) := by decide +kernel
theorem dX1_seekGoal_116 : decode cX1_seekGoal 116 = .ok (.iload 5, 2) := by decide +kernel
theorem dX1_seekGoal_118 : decode cX1_seekGoal 118 = .ok (.iadd, 1) := by decide +kernel
theorem dX1_seekGoal_119 : decode cX1_seekGoal 119 = .ok (.iaload, 1) := by decide +kernel
theorem dX1_seekGoal_120 : decode cX1_seekGoal 120 = .ok (.ifCond .le 16, 3) := by decide +kernel
theorem dX1_seekGoal_123 : decode cX1_seekGoal 123 = .ok (.aload_n 0, 1) := by decide +kernel
theorem dX1_seekGoal_124 : decode cX1_seekGoal 124 = .ok (.iload 4, 2) := by decide +kernel
theorem dX1_seekGoal_126 : decode cX1_seekGoal 126 = .ok (.iload 5, 2) := by decide +kernel
theorem dX1_seekGoal_128 : decode cX1_seekGoal 128 = .ok (.invokestatic 53, 3) := by decide +kernel
theorem dX1_seekGoal_131 : decode cX1_seekGoal 131 = .ok (.iload 5, 2) := by decide +kernel
theorem dX1_seekGoal_133 : decode cX1_seekGoal 133 = .ok (.invokevirtual 50, 3) := by decide +kernel
theorem dX1_seekGoal_136 : decode cX1_seekGoal 136 = .ok (.iinc 5 1, 3) := by decide +kernel
theorem dX1_seekGoal_139 : decode cX1_seekGoal 139 = .ok (.goto (-37), 3) := by decide +kernel
theorem dX1_seekGoal_142 : decode cX1_seekGoal 142 = .ok (.iinc 3 1, 3) := by decide +kernel
theorem dX1_seekGoal_145 : decode cX1_seekGoal 145 = .ok (.goto (-81), 3) := by decide +kernel
theorem dX1_seekGoal_148 : decode cX1_seekGoal 148 = .ok (.bipush (-6), 2) := by decide +kernel
theorem dX1_seekGoal_150 : decode cX1_seekGoal 150 = .ok (.ireturn, 1) := by decide +kernel
theorem dX1_reach_0 : decode cX1_reach 0 = .ok (.aload_n 0, 1) := by decide +kernel
theorem dX1_reach_1 : decode cX1_reach 1 = .ok (.getfield 15, 3) := by decide +kernel
theorem dX1_reach_4 : decode cX1_reach 4 = .ok (.iload_n 1, 1) := by decide +kernel
theorem dX1_reach_5 : decode cX1_reach 5 = .ok (.iaload, 1) := by decide +kernel
theorem dX1_reach_6 : decode cX1_reach 6 = .ok (.iconst (-1), 1) := by decide +kernel
theorem dX1_reach_7 : decode cX1_reach 7 = .ok (.if_icmp .ne 39, 3) := by decide +kernel
theorem dX1_reach_10 : decode cX1_reach 10 = .ok (.aload_n 0, 1) := by decide +kernel
theorem dX1_reach_11 : decode cX1_reach 11 = .ok (.getfield 46, 3) := by decide +kernel
theorem dX1_reach_14 : decode cX1_reach 14 = .ok (.bipush 120, 2) := by decide +kernel
theorem dX1_reach_16 : decode cX1_reach 16 = .ok (.if_icmp .ge 30, 3) := by decide +kernel
theorem dX1_reach_19 : decode cX1_reach 19 = .ok (.aload_n 0, 1) := by decide +kernel
theorem dX1_reach_20 : decode cX1_reach 20 = .ok (.getfield 15, 3) := by decide +kernel
theorem dX1_reach_23 : decode cX1_reach 23 = .ok (.iload_n 1, 1) := by decide +kernel
theorem dX1_reach_24 : decode cX1_reach 24 = .ok (.iload_n 2, 1) := by decide +kernel
theorem dX1_reach_25 : decode cX1_reach 25 = .ok (.iastore, 1) := by decide +kernel
theorem dX1_reach_26 : decode cX1_reach 26 = .ok (.aload_n 0, 1) := by decide +kernel
theorem dX1_reach_27 : decode cX1_reach 27 = .ok (.getfield 18, 3) := by decide +kernel
theorem dX1_reach_30 : decode cX1_reach 30 = .ok (.aload_n 0, 1) := by decide +kernel
theorem dX1_reach_31 : decode cX1_reach 31 = .ok (.getfield 46, 3) := by decide +kernel
theorem dX1_reach_34 : decode cX1_reach 34 = .ok (.iload_n 1, 1) := by decide +kernel
theorem dX1_reach_35 : decode cX1_reach 35 = .ok (.iastore, 1) := by decide +kernel
theorem dX1_reach_36 : decode cX1_reach 36 = .ok (.aload_n 0, 1) := by decide +kernel
theorem dX1_reach_37 : decode cX1_reach 37 = .ok (.dup, 1) := by decide +kernel
theorem dX1_reach_38 : decode cX1_reach 38 = .ok (.getfield 46, 3) := by decide +kernel
theorem dX1_reach_41 : decode cX1_reach 41 = .ok (.iconst 1, 1) := by decide +kernel
theorem dX1_reach_42 : decode cX1_reach 42 = .ok (.iadd, 1) := by decide +kernel
theorem dX1_reach_43 : decode cX1_reach 43 = .ok (.putfield 46, 3) := by decide +kernel
theorem dX1_reach_46 : decode cX1_reach 46 = .ok (.return_, 1) := by decide +kernel
theorem dX1_beside_0 : decode cX1_beside 0 = .ok (.iload_n 0, 1) := by decide +kernel
theorem dX1_beside_1 : decode cX1_beside 1 = .ok (.bipush 24, 2) := by decide +kernel
theorem dX1_beside_3 : decode cX1_beside 3 = .ok (.idiv, 1) := by decide +kernel
theorem dX1_beside_4 : decode cX1_beside 4 = .ok (.istore_n 2, 1) := by decide +kernel
theorem dX1_beside_5 : decode cX1_beside 5 = .ok (.iload_n 0, 1) := by decide +kernel
theorem dX1_beside_6 : decode cX1_beside 6 = .ok (.bipush 24, 2) := by decide +kernel
theorem dX1_beside_8 : decode cX1_beside 8 = .ok (.irem, 1) := by decide +kernel
theorem dX1_beside_9 : decode cX1_beside 9 = .ok (.istore_n 3, 1) := by decide +kernel
theorem dX1_beside_10 : decode cX1_beside 10 = .ok (.iload_n 1, 1) := by decide +kernel
theorem dX1_beside_11 : decode cX1_beside 11 = .ok (.tableswitch 57 0 2 #[25, 37, 52], 25) := by decide +kernel
theorem dX1_beside_36 : decode cX1_beside 36 = .ok (.iload_n 2, 1) := by decide +kernel
theorem dX1_beside_37 : decode cX1_beside 37 = .ok (.bipush 24, 2) := by decide +kernel
theorem dX1_beside_39 : decode cX1_beside 39 = .ok (.imul, 1) := by decide +kernel
theorem dX1_beside_40 : decode cX1_beside 40 = .ok (.iload_n 3, 1) := by decide +kernel
theorem dX1_beside_41 : decode cX1_beside 41 = .ok (.iconst 1, 1) := by decide +kernel
theorem dX1_beside_42 : decode cX1_beside 42 = .ok (.iadd, 1) := by decide +kernel
theorem dX1_beside_43 : decode cX1_beside 43 = .ok (.bipush 24, 2) := by decide +kernel
theorem dX1_beside_45 : decode cX1_beside 45 = .ok (.irem, 1) := by decide +kernel
theorem dX1_beside_46 : decode cX1_beside 46 = .ok (.iadd, 1) := by decide +kernel
theorem dX1_beside_47 : decode cX1_beside 47 = .ok (.ireturn, 1) := by decide +kernel
theorem dX1_beside_48 : decode cX1_beside 48 = .ok (.iload_n 2, 1) := by decide +kernel
theorem dX1_beside_49 : decode cX1_beside 49 = .ok (.bipush 24, 2) := by decide +kernel
theorem dX1_beside_51 : decode cX1_beside 51 = .ok (.imul, 1) := by decide +kernel
theorem dX1_beside_52 : decode cX1_beside 52 = .ok (.iload_n 3, 1) := by decide +kernel
theorem dX1_beside_53 : decode cX1_beside 53 = .ok (.bipush 24, 2) := by decide +kernel
theorem dX1_beside_55 : decode cX1_beside 55 = .ok (.iadd, 1) := by decide +kernel
theorem dX1_beside_56 : decode cX1_beside 56 = .ok (.iconst 1, 1) := by decide +kernel
theorem dX1_beside_57 : decode cX1_beside 57 = .ok (.isub, 1) := by decide +kernel
theorem dX1_beside_58 : decode cX1_beside 58 = .ok (.bipush 24, 2) := by decide +kernel
theorem dX1_beside_60 : decode cX1_beside 60 = .ok (.irem, 1) := by decide +kernel
theorem dX1_beside_61 : decode cX1_beside 61 = .ok (.iadd, 1) := by decide +kernel
theorem dX1_beside_62 : decode cX1_beside 62 = .ok (.ireturn, 1) := by decide +kernel
theorem dX1_beside_63 : decode cX1_beside 63 = .ok (.iload_n 0, 1) := by decide +kernel
theorem dX1_beside_64 : decode cX1_beside 64 = .ok (.bipush 24, 2) := by decide +kernel
theorem dX1_beside_66 : decode cX1_beside 66 = .ok (.iadd, 1) := by decide +kernel
theorem dX1_beside_67 : decode cX1_beside 67 = .ok (.ireturn, 1) := by decide +kernel
theorem dX1_beside_68 : decode cX1_beside 68 = .ok (.iload_n 0, 1) := by decide +kernel
theorem dX1_beside_69 : decode cX1_beside 69 = .ok (.bipush 24, 2) := by decide +kernel
theorem dX1_beside_71 : decode cX1_beside 71 = .ok (.isub, 1) := by decide +kernel
theorem dX1_beside_72 : decode cX1_beside 72 = .ok (.ireturn, 1) := by decide +kernel
theorem dX1_opposite_0 : decode cX1_opposite 0 = .ok (.iload_n 0, 1) := by decide +kernel
theorem dX1_opposite_1 : decode cX1_opposite 1 = .ok (.iconst 1, 1) := by decide +kernel
theorem dX1_opposite_2 : decode cX1_opposite 2 = .ok (.ixor, 1) := by decide +kernel
theorem dX1_opposite_3 : decode cX1_opposite 3 = .ok (.ireturn, 1) := by decide +kernel
theorem dX1_streamTo_0 : decode cX1_streamTo 0 = .ok (.sipush 1000, 3) := by decide +kernel
theorem dX1_streamTo_3 : decode cX1_streamTo 3 = .ok (.istore_n 2, 1) := by decide +kernel
theorem dX1_streamTo_4 : decode cX1_streamTo 4 = .ok (.iload_n 1, 1) := by decide +kernel
theorem dX1_streamTo_5 : decode cX1_streamTo 5 = .ok (.istore_n 3, 1) := by decide +kernel
theorem dX1_streamTo_6 : decode cX1_streamTo 6 = .ok (.iconst 0, 1) := by decide +kernel
theorem dX1_streamTo_7 : decode cX1_streamTo 7 = .ok (.istore 4, 2) := by decide +kernel
theorem dX1_streamTo_9 : decode cX1_streamTo 9 = .ok (.aload_n 0, 1) := by decide +kernel
theorem dX1_streamTo_10 : decode cX1_streamTo 10 = .ok (.getfield 15, 3) := by decide +kernel
theorem dX1_streamTo_13 : decode cX1_streamTo 13 = .ok (.iload_n 3, 1) := by decide +kernel
theorem dX1_streamTo_14 : decode cX1_streamTo 14 = .ok (.iaload, 1) := by decide +kernel
theorem dX1_streamTo_15 : decode cX1_streamTo 15 = .ok (.iconst 4, 1) := by decide +kernel
theorem dX1_streamTo_16 : decode cX1_streamTo 16 = .ok (.if_icmp .eq 50, 3) := by decide +kernel
theorem dX1_streamTo_19 : decode cX1_streamTo 19 = .ok (.iload 4, 2) := by decide +kernel
theorem dX1_streamTo_21 : decode cX1_streamTo 21 = .ok (.bipush 120, 2) := by decide +kernel
theorem dX1_streamTo_23 : decode cX1_streamTo 23 = .ok (.if_icmp .ge 43, 3) := by decide +kernel
theorem dX1_streamTo_26 : decode cX1_streamTo 26 = .ok (.aload_n 0, 1) := by decide +kernel
theorem dX1_streamTo_27 : decode cX1_streamTo 27 = .ok (.getfield 15, 3) := by decide +kernel
theorem dX1_streamTo_30 : decode cX1_streamTo 30 = .ok (.iload_n 3, 1) := by decide +kernel
theorem dX1_streamTo_31 : decode cX1_streamTo 31 = .ok (.iaload, 1) := by decide +kernel
theorem dX1_streamTo_32 : decode cX1_streamTo 32 = .ok (.istore 5, 2) := by decide +kernel
theorem dX1_streamTo_34 : decode cX1_streamTo 34 = .ok (.iload_n 3, 1) := by decide +kernel
theorem dX1_streamTo_35 : decode cX1_streamTo 35 = .ok (.iload 5, 2) := by decide +kernel
theorem dX1_streamTo_37 : decode cX1_streamTo 37 = .ok (.invokestatic 56, 3) := by decide +kernel
theorem dX1_streamTo_40 : decode cX1_streamTo 40 = .ok (.invokestatic 53, 3) := by decide +kernel
theorem dX1_streamTo_43 : decode cX1_streamTo 43 = .ok (.istore_n 3, 1) := by decide +kernel
theorem dX1_streamTo_44 : decode cX1_streamTo 44 = .ok (.iload_n 2, 1) := by decide +kernel
theorem dX1_streamTo_45 : decode cX1_streamTo 45 = .ok (.aload_n 0, 1) := by decide +kernel
theorem dX1_streamTo_46 : decode cX1_streamTo 46 = .ok (.getfield 11, 3) := by decide +kernel
theorem dX1_streamTo_49 : decode cX1_streamTo 49 = .ok (.iload_n 3, 1) := by decide +kernel
theorem dX1_streamTo_50 : decode cX1_streamTo 50 = .ok (.iconst 4, 1) := by decide +kernel
theorem dX1_streamTo_51 : decode cX1_streamTo 51 = .ok (.imul, 1) := by decide +kernel
theorem dX1_streamTo_52 : decode cX1_streamTo 52 = .ok (.iload 5, 2) := by decide +kernel
theorem dX1_streamTo_54 : decode cX1_streamTo 54 = .ok (.iadd, 1) := by decide +kernel
theorem dX1_streamTo_55 : decode cX1_streamTo 55 = .ok (.iaload, 1) := by decide +kernel
theorem dX1_streamTo_56 : decode cX1_streamTo 56 = .ok (.invokestatic 59, 3) := by decide +kernel
theorem dX1_streamTo_59 : decode cX1_streamTo 59 = .ok (.istore_n 2, 1) := by decide +kernel
theorem dX1_streamTo_60 : decode cX1_streamTo 60 = .ok (.iinc 4 1, 3) := by decide +kernel
theorem dX1_streamTo_63 : decode cX1_streamTo 63 = .ok (.goto (-54), 3) := by decide +kernel
theorem dX1_streamTo_66 : decode cX1_streamTo 66 = .ok (.iload_n 1, 1) := by decide +kernel
theorem dX1_streamTo_67 : decode cX1_streamTo 67 = .ok (.istore_n 3, 1) := by decide +kernel
theorem dX1_streamTo_68 : decode cX1_streamTo 68 = .ok (.iconst 0, 1) := by decide +kernel
theorem dX1_streamTo_69 : decode cX1_streamTo 69 = .ok (.istore 4, 2) := by decide +kernel
theorem dX1_streamTo_71 : decode cX1_streamTo 71 = .ok (.aload_n 0, 1) := by decide +kernel
theorem dX1_streamTo_72 : decode cX1_streamTo 72 = .ok (.getfield 15, 3) := by decide +kernel
theorem dX1_streamTo_75 : decode cX1_streamTo 75 = .ok (.iload_n 3, 1) := by decide +kernel
theorem dX1_streamTo_76 : decode cX1_streamTo 76 = .ok (.iaload, 1) := by decide +kernel
theorem dX1_streamTo_77 : decode cX1_streamTo 77 = .ok (.iconst 4, 1) := by decide +kernel
theorem dX1_streamTo_78 : decode cX1_streamTo 78 = .ok (.if_icmp .eq 67, 3) := by decide +kernel
theorem dX1_streamTo_81 : decode cX1_streamTo 81 = .ok (.iload 4, 2) := by decide +kernel
theorem dX1_streamTo_83 : decode cX1_streamTo 83 = .ok (.bipush 120, 2) := by decide +kernel
theorem dX1_streamTo_85 : decode cX1_streamTo 85 = .ok (.if_icmp .ge 60, 3) := by decide +kernel
theorem dX1_streamTo_88 : decode cX1_streamTo 88 = .ok (.aload_n 0, 1) := by decide +kernel
theorem dX1_streamTo_89 : decode cX1_streamTo 89 = .ok (.getfield 15, 3) := by decide +kernel
theorem dX1_streamTo_92 : decode cX1_streamTo 92 = .ok (.iload_n 3, 1) := by decide +kernel
theorem dX1_streamTo_93 : decode cX1_streamTo 93 = .ok (.iaload, 1) := by decide +kernel
theorem dX1_streamTo_94 : decode cX1_streamTo 94 = .ok (.istore 5, 2) := by decide +kernel
theorem dX1_streamTo_96 : decode cX1_streamTo 96 = .ok (.aload_n 0, 1) := by decide +kernel
theorem dX1_streamTo_97 : decode cX1_streamTo 97 = .ok (.getfield 11, 3) := by decide +kernel
theorem dX1_streamTo_100 : decode cX1_streamTo 100 = .ok (.iload_n 3, 1) := by decide +kernel
theorem dX1_streamTo_101 : decode cX1_streamTo 101 = .ok (.iconst 4, 1) := by decide +kernel
theorem dX1_streamTo_102 : decode cX1_streamTo 102 = .ok (.imul, 1) := by decide +kernel
theorem dX1_streamTo_103 : decode cX1_streamTo 103 = .ok (.iload 5, 2) := by decide +kernel
theorem dX1_streamTo_105 : decode cX1_streamTo 105 = .ok (.invokestatic 56, 3) := by decide +kernel
theorem dX1_streamTo_108 : decode cX1_streamTo 108 = .ok (.iadd, 1) := by decide +kernel
theorem dX1_streamTo_109 : decode cX1_streamTo 109 = .ok (.dup2, 1) := by decide +kernel
theorem dX1_streamTo_110 : decode cX1_streamTo 110 = .ok (.iaload, 1) := by decide +kernel
theorem dX1_streamTo_111 : decode cX1_streamTo 111 = .ok (.iload_n 2, 1) := by decide +kernel
theorem dX1_streamTo_112 : decode cX1_streamTo 112 = .ok (.iadd, 1) := by decide +kernel
theorem dX1_streamTo_113 : decode cX1_streamTo 113 = .ok (.iastore, 1) := by decide +kernel
theorem dX1_streamTo_114 : decode cX1_streamTo 114 = .ok (.iload_n 3, 1) := by decide +kernel
theorem dX1_streamTo_115 : decode cX1_streamTo 115 = .ok (.iload 5, 2) := by decide +kernel
theorem dX1_streamTo_117 : decode cX1_streamTo 117 = .ok (.invokestatic 56, 3) := by decide +kernel
theorem dX1_streamTo_120 : decode cX1_streamTo 120 = .ok (.invokestatic 53, 3) := by decide +kernel
theorem dX1_streamTo_123 : decode cX1_streamTo 123 = .ok (.istore_n 3, 1) := by decide +kernel
theorem dX1_streamTo_124 : decode cX1_streamTo 124 = .ok (.aload_n 0, 1) := by decide +kernel
theorem dX1_streamTo_125 : decode cX1_streamTo 125 = .ok (.getfield 11, 3) := by decide +kernel
theorem dX1_streamTo_128 : decode cX1_streamTo 128 = .ok (.iload_n 3, 1) := by decide +kernel
theorem dX1_streamTo_129 : decode cX1_streamTo 129 = .ok (.iconst 4, 1) := by decide +kernel
theorem dX1_streamTo_130 : decode cX1_streamTo 130 = .ok (.imul, 1) := by decide +kernel
theorem dX1_streamTo_131 : decode cX1_streamTo 131 = .ok (.iload 5, 2) := by decide +kernel
theorem dX1_streamTo_133 : decode cX1_streamTo 133 = .ok (.iadd, 1) := by decide +kernel
theorem dX1_streamTo_134 : decode cX1_streamTo 134 = .ok (.dup2, 1) := by decide +kernel
theorem dX1_streamTo_135 : decode cX1_streamTo 135 = .ok (.iaload, 1) := by decide +kernel
theorem dX1_streamTo_136 : decode cX1_streamTo 136 = .ok (.iload_n 2, 1) := by decide +kernel
theorem dX1_streamTo_137 : decode cX1_streamTo 137 = .ok (.isub, 1) := by decide +kernel
theorem dX1_streamTo_138 : decode cX1_streamTo 138 = .ok (.iastore, 1) := by decide +kernel
theorem dX1_streamTo_139 : decode cX1_streamTo 139 = .ok (.iinc 4 1, 3) := by decide +kernel
theorem dX1_streamTo_142 : decode cX1_streamTo 142 = .ok (.goto (-71), 3) := by decide +kernel
theorem dX1_streamTo_145 : decode cX1_streamTo 145 = .ok (.iload_n 2, 1) := by decide +kernel
theorem dX1_streamTo_146 : decode cX1_streamTo 146 = .ok (.ireturn, 1) := by decide +kernel
theorem dX2_init_0 : decode cX2_init 0 = .ok (.aload_n 0, 1) := by decide +kernel
theorem dX2_init_1 : decode cX2_init 1 = .ok (.invokespecial 3, 3) := by decide +kernel
theorem dX2_init_4 : decode cX2_init 4 = .ok (.aload_n 0, 1) := by decide +kernel
theorem dX2_init_5 : decode cX2_init 5 = .ok (.bipush 120, 2) := by decide +kernel
theorem dX2_init_7 : decode cX2_init 7 = .ok (.newarray .int, 2) := by decide +kernel
theorem dX2_init_9 : decode cX2_init 9 = .ok (.putfield 9, 3) := by decide +kernel
theorem dX2_init_12 : decode cX2_init 12 = .ok (.aload_n 0, 1) := by decide +kernel
theorem dX2_init_13 : decode cX2_init 13 = .ok (.sipush 504, 3) := by decide +kernel
theorem dX2_init_16 : decode cX2_init 16 = .ok (.newarray .int, 2) := by decide +kernel
theorem dX2_init_18 : decode cX2_init 18 = .ok (.putfield 15, 3) := by decide +kernel
theorem dX2_init_21 : decode cX2_init 21 = .ok (.aload_n 0, 1) := by decide +kernel
theorem dX2_init_22 : decode cX2_init 22 = .ok (.bipush 30, 2) := by decide +kernel
theorem dX2_init_24 : decode cX2_init 24 = .ok (.newarray .int, 2) := by decide +kernel
theorem dX2_init_26 : decode cX2_init 26 = .ok (.putfield 18, 3) := by decide +kernel
theorem dX2_init_29 : decode cX2_init 29 = .ok (.aload_n 0, 1) := by decide +kernel
theorem dX2_init_30 : decode cX2_init 30 = .ok (.bipush 6, 2) := by decide +kernel
theorem dX2_init_32 : decode cX2_init 32 = .ok (.newarray .int, 2) := by decide +kernel
theorem dX2_init_34 : decode cX2_init 34 = .ok (.putfield 21, 3) := by decide +kernel
theorem dX2_init_37 : decode cX2_init 37 = .ok (.aload_n 0, 1) := by decide +kernel
theorem dX2_init_38 : decode cX2_init 38 = .ok (.iconst 5, 1) := by decide +kernel
theorem dX2_init_39 : decode cX2_init 39 = .ok (.putfield 24, 3) := by decide +kernel
theorem dX2_init_42 : decode cX2_init 42 = .ok (.iconst 0, 1) := by decide +kernel
theorem dX2_init_43 : decode cX2_init 43 = .ok (.istore_n 1, 1) := by decide +kernel
theorem dX2_init_44 : decode cX2_init 44 = .ok (.iload_n 1, 1) := by decide +kernel
theorem dX2_init_45 : decode cX2_init 45 = .ok (.bipush 120, 2) := by decide +kernel
theorem dX2_init_47 : decode cX2_init 47 = .ok (.if_icmp .ge 23, 3) := by decide +kernel
theorem dX2_init_50 : decode cX2_init 50 = .ok (.aload_n 0, 1) := by decide +kernel
theorem dX2_init_51 : decode cX2_init 51 = .ok (.getfield 9, 3) := by decide +kernel
theorem dX2_init_54 : decode cX2_init 54 = .ok (.iload_n 1, 1) := by decide +kernel
theorem dX2_init_55 : decode cX2_init 55 = .ok (.getstatic 28, 3) := by decide +kernel
theorem dX2_init_58 : decode cX2_init 58 = .ok (.iload_n 1, 1) := by decide +kernel
theorem dX2_init_59 : decode cX2_init 59 = .ok (.bipush 24, 2) := by decide +kernel
theorem dX2_init_61 : decode cX2_init 61 = .ok (.idiv, 1) := by decide +kernel
theorem dX2_init_62 : decode cX2_init 62 = .ok (.iaload, 1) := by decide +kernel
theorem dX2_init_63 : decode cX2_init 63 = .ok (.iastore, 1) := by decide +kernel
theorem dX2_init_64 : decode cX2_init 64 = .ok (.iinc 1 1, 3) := by decide +kernel
theorem dX2_init_67 : decode cX2_init 67 = .ok (.goto (-23), 3) := by decide +kernel
theorem dX2_init_70 : decode cX2_init 70 = .ok (.iconst 0, 1) := by decide +kernel
theorem dX2_init_71 : decode cX2_init 71 = .ok (.istore_n 1, 1) := by decide +kernel
theorem dX2_init_72 : decode cX2_init 72 = .ok (.iload_n 1, 1) := by decide +kernel
theorem dX2_init_73 : decode cX2_init 73 = .ok (.bipush 30, 2) := by decide +kernel
theorem dX2_init_75 : decode cX2_init 75 = .ok (.if_icmp .ge 22, 3) := by decide +kernel
theorem dX2_init_78 : decode cX2_init 78 = .ok (.aload_n 0, 1) := by decide +kernel
theorem dX2_init_79 : decode cX2_init 79 = .ok (.getfield 18, 3) := by decide +kernel
theorem dX2_init_82 : decode cX2_init 82 = .ok (.iload_n 1, 1) := by decide +kernel
theorem dX2_init_83 : decode cX2_init 83 = .ok (.getstatic 31, 3) := by decide +kernel
theorem dX2_init_86 : decode cX2_init 86 = .ok (.iload_n 1, 1) := by decide +kernel
theorem dX2_init_87 : decode cX2_init 87 = .ok (.iconst 5, 1) := by decide +kernel
theorem dX2_init_88 : decode cX2_init 88 = .ok (.irem, 1) := by decide +kernel
theorem dX2_init_89 : decode cX2_init 89 = .ok (.iaload, 1) := by decide +kernel
theorem dX2_init_90 : decode cX2_init 90 = .ok (.iastore, 1) := by decide +kernel
theorem dX2_init_91 : decode cX2_init 91 = .ok (.iinc 1 1, 3) := by decide +kernel
theorem dX2_init_94 : decode cX2_init 94 = .ok (.goto (-22), 3) := by decide +kernel
theorem dX2_init_97 : decode cX2_init 97 = .ok (.return_, 1) := by decide +kernel
theorem dX2_copyFrom_0 : decode cX2_copyFrom 0 = .ok (.aload_n 1, 1) := by decide +kernel
theorem dX2_copyFrom_1 : decode cX2_copyFrom 1 = .ok (.getfield 9, 3) := by decide +kernel
theorem dX2_copyFrom_4 : decode cX2_copyFrom 4 = .ok (.iconst 0, 1) := by decide +kernel
theorem dX2_copyFrom_5 : decode cX2_copyFrom 5 = .ok (.aload_n 0, 1) := by decide +kernel
theorem dX2_copyFrom_6 : decode cX2_copyFrom 6 = .ok (.getfield 9, 3) := by decide +kernel
theorem dX2_copyFrom_9 : decode cX2_copyFrom 9 = .ok (.iconst 0, 1) := by decide +kernel
theorem dX2_copyFrom_10 : decode cX2_copyFrom 10 = .ok (.bipush 120, 2) := by decide +kernel
theorem dX2_copyFrom_12 : decode cX2_copyFrom 12 = .ok (.invokestatic 34, 3) := by decide +kernel
theorem dX2_copyFrom_15 : decode cX2_copyFrom 15 = .ok (.aload_n 1, 1) := by decide +kernel
theorem dX2_copyFrom_16 : decode cX2_copyFrom 16 = .ok (.getfield 15, 3) := by decide +kernel
theorem dX2_copyFrom_19 : decode cX2_copyFrom 19 = .ok (.iconst 0, 1) := by decide +kernel
theorem dX2_copyFrom_20 : decode cX2_copyFrom 20 = .ok (.aload_n 0, 1) := by decide +kernel
theorem dX2_copyFrom_21 : decode cX2_copyFrom 21 = .ok (.getfield 15, 3) := by decide +kernel
theorem dX2_copyFrom_24 : decode cX2_copyFrom 24 = .ok (.iconst 0, 1) := by decide +kernel
theorem dX2_copyFrom_25 : decode cX2_copyFrom 25 = .ok (.sipush 504, 3) := by decide +kernel
theorem dX2_copyFrom_28 : decode cX2_copyFrom 28 = .ok (.invokestatic 34, 3) := by decide +kernel
theorem dX2_copyFrom_31 : decode cX2_copyFrom 31 = .ok (.aload_n 1, 1) := by decide +kernel
theorem dX2_copyFrom_32 : decode cX2_copyFrom 32 = .ok (.getfield 18, 3) := by decide +kernel
theorem dX2_copyFrom_35 : decode cX2_copyFrom 35 = .ok (.iconst 0, 1) := by decide +kernel
theorem dX2_copyFrom_36 : decode cX2_copyFrom 36 = .ok (.aload_n 0, 1) := by decide +kernel
theorem dX2_copyFrom_37 : decode cX2_copyFrom 37 = .ok (.getfield 18, 3) := by decide +kernel
theorem dX2_copyFrom_40 : decode cX2_copyFrom 40 = .ok (.iconst 0, 1) := by decide +kernel
theorem dX2_copyFrom_41 : decode cX2_copyFrom 41 = .ok (.bipush 30, 2) := by decide +kernel
theorem dX2_copyFrom_43 : decode cX2_copyFrom 43 = .ok (.invokestatic 34, 3) := by decide +kernel
theorem dX2_copyFrom_46 : decode cX2_copyFrom 46 = .ok (.aload_n 1, 1) := by decide +kernel
theorem dX2_copyFrom_47 : decode cX2_copyFrom 47 = .ok (.getfield 21, 3) := by decide +kernel
theorem dX2_copyFrom_50 : decode cX2_copyFrom 50 = .ok (.iconst 0, 1) := by decide +kernel
theorem dX2_copyFrom_51 : decode cX2_copyFrom 51 = .ok (.aload_n 0, 1) := by decide +kernel
theorem dX2_copyFrom_52 : decode cX2_copyFrom 52 = .ok (.getfield 21, 3) := by decide +kernel
theorem dX2_copyFrom_55 : decode cX2_copyFrom 55 = .ok (.iconst 0, 1) := by decide +kernel
theorem dX2_copyFrom_56 : decode cX2_copyFrom 56 = .ok (.bipush 6, 2) := by decide +kernel
theorem dX2_copyFrom_58 : decode cX2_copyFrom 58 = .ok (.invokestatic 34, 3) := by decide +kernel
theorem dX2_copyFrom_61 : decode cX2_copyFrom 61 = .ok (.aload_n 0, 1) := by decide +kernel
theorem dX2_copyFrom_62 : decode cX2_copyFrom 62 = .ok (.aload_n 1, 1) := by decide +kernel
theorem dX2_copyFrom_63 : decode cX2_copyFrom 63 = .ok (.getfield 40, 3) := by decide +kernel
theorem dX2_copyFrom_66 : decode cX2_copyFrom 66 = .ok (.putfield 40, 3) := by decide +kernel
theorem dX2_copyFrom_69 : decode cX2_copyFrom 69 = .ok (.aload_n 0, 1) := by decide +kernel
theorem dX2_copyFrom_70 : decode cX2_copyFrom 70 = .ok (.aload_n 1, 1) := by decide +kernel
theorem dX2_copyFrom_71 : decode cX2_copyFrom 71 = .ok (.getfield 24, 3) := by decide +kernel
theorem dX2_copyFrom_74 : decode cX2_copyFrom 74 = .ok (.putfield 24, 3) := by decide +kernel
theorem dX2_copyFrom_77 : decode cX2_copyFrom 77 = .ok (.return_, 1) := by decide +kernel
theorem dX2_sortAt_0 : decode cX2_sortAt 0 = .ok (.aload_n 0, 1) := by decide +kernel
theorem dX2_sortAt_1 : decode cX2_sortAt 1 = .ok (.getfield 9, 3) := by decide +kernel
theorem dX2_sortAt_4 : decode cX2_sortAt 4 = .ok (.iload_n 1, 1) := by decide +kernel
theorem dX2_sortAt_5 : decode cX2_sortAt 5 = .ok (.bipush 24, 2) := by decide +kernel
theorem dX2_sortAt_7 : decode cX2_sortAt 7 = .ok (.imul, 1) := by decide +kernel
theorem dX2_sortAt_8 : decode cX2_sortAt 8 = .ok (.iload_n 2, 1) := by decide +kernel
theorem dX2_sortAt_9 : decode cX2_sortAt 9 = .ok (.iadd, 1) := by decide +kernel
theorem dX2_sortAt_10 : decode cX2_sortAt 10 = .ok (.iaload, 1) := by decide +kernel
theorem dX2_sortAt_11 : decode cX2_sortAt 11 = .ok (.ireturn, 1) := by decide +kernel
theorem dX2_setRing_0 : decode cX2_setRing 0 = .ok (.aload_n 2, 1) := by decide +kernel
theorem dX2_setRing_1 : decode cX2_setRing 1 = .ok (.iconst 0, 1) := by decide +kernel
theorem dX2_setRing_2 : decode cX2_setRing 2 = .ok (.aload_n 0, 1) := by decide +kernel
theorem dX2_setRing_3 : decode cX2_setRing 3 = .ok (.getfield 9, 3) := by decide +kernel
theorem dX2_setRing_6 : decode cX2_setRing 6 = .ok (.iload_n 1, 1) := by decide +kernel
theorem dX2_setRing_7 : decode cX2_setRing 7 = .ok (.bipush 24, 2) := by decide +kernel
theorem dX2_setRing_9 : decode cX2_setRing 9 = .ok (.imul, 1) := by decide +kernel
theorem dX2_setRing_10 : decode cX2_setRing 10 = .ok (.bipush 24, 2) := by decide +kernel
theorem dX2_setRing_12 : decode cX2_setRing 12 = .ok (.invokestatic 34, 3) := by decide +kernel
theorem dX2_setRing_15 : decode cX2_setRing 15 = .ok (.return_, 1) := by decide +kernel
theorem dX2_sectorsOfSort_0 : decode cX2_sectorsOfSort 0 = .ok (.iconst 0, 1) := by decide +kernel
theorem dX2_sectorsOfSort_1 : decode cX2_sectorsOfSort 1 = .ok (.istore_n 3, 1) := by decide +kernel
theorem dX2_sectorsOfSort_2 : decode cX2_sectorsOfSort 2 = .ok (.iconst 0, 1) := by decide +kernel
theorem dX2_sectorsOfSort_3 : decode cX2_sectorsOfSort 3 = .ok (.istore 4, 2) := by decide +kernel
theorem dX2_sectorsOfSort_5 : decode cX2_sectorsOfSort 5 = .ok (.iload 4, 2) := by decide +kernel
theorem dX2_sectorsOfSort_7 : decode cX2_sectorsOfSort 7 = .ok (.bipush 24, 2) := by decide +kernel
theorem dX2_sectorsOfSort_9 : decode cX2_sectorsOfSort 9 = .ok (.if_icmp .ge 27, 3) := by decide +kernel
theorem dX2_sectorsOfSort_12 : decode cX2_sectorsOfSort 12 = .ok (.aload_n 0, 1) := by decide +kernel
theorem dX2_sectorsOfSort_13 : decode cX2_sectorsOfSort 13 = .ok (.iload_n 1, 1) := by decide +kernel
theorem dX2_sectorsOfSort_14 : decode cX2_sectorsOfSort 14 = .ok (.iload 4, 2) := by decide +kernel
theorem dX2_sectorsOfSort_16 : decode cX2_sectorsOfSort 16 = .ok (.invokevirtual 43, 3) := by decide +kernel
theorem dX2_sectorsOfSort_19 : decode cX2_sectorsOfSort 19 = .ok (.iload_n 2, 1) := by decide +kernel
theorem dX2_sectorsOfSort_20 : decode cX2_sectorsOfSort 20 = .ok (.if_icmp .ne 10, 3) := by decide +kernel
theorem dX2_sectorsOfSort_23 : decode cX2_sectorsOfSort 23 = .ok (.iload_n 3, 1) := by decide +kernel
theorem dX2_sectorsOfSort_24 : decode cX2_sectorsOfSort 24 = .ok (.iconst 1, 1) := by decide +kernel
theorem dX2_sectorsOfSort_25 : decode cX2_sectorsOfSort 25 = .ok (.iload 4, 2) := by decide +kernel
theorem dX2_sectorsOfSort_27 : decode cX2_sectorsOfSort 27 = .ok (.ishl, 1) := by decide +kernel
theorem dX2_sectorsOfSort_28 : decode cX2_sectorsOfSort 28 = .ok (.ior, 1) := by decide +kernel
theorem dX2_sectorsOfSort_29 : decode cX2_sectorsOfSort 29 = .ok (.istore_n 3, 1) := by decide +kernel
theorem dX2_sectorsOfSort_30 : decode cX2_sectorsOfSort 30 = .ok (.iinc 4 1, 3) := by decide +kernel
theorem dX2_sectorsOfSort_33 : decode cX2_sectorsOfSort 33 = .ok (.goto (-28), 3) := by decide +kernel
theorem dX2_sectorsOfSort_36 : decode cX2_sectorsOfSort 36 = .ok (.iload_n 3, 1) := by decide +kernel
theorem dX2_sectorsOfSort_37 : decode cX2_sectorsOfSort 37 = .ok (.ireturn, 1) := by decide +kernel
theorem dX2_ownerBehind_0 : decode cX2_ownerBehind 0 = .ok (.aload_n 0, 1) := by decide +kernel
theorem dX2_ownerBehind_1 : decode cX2_ownerBehind 1 = .ok (.getfield 15, 3) := by decide +kernel
theorem dX2_ownerBehind_4 : decode cX2_ownerBehind 4 = .ok (.iload_n 1, 1) := by decide +kernel
theorem dX2_ownerBehind_5 : decode cX2_ownerBehind 5 = .ok (.bipush 24, 2) := by decide +kernel
theorem dX2_ownerBehind_7 : decode cX2_ownerBehind 7 = .ok (.imul, 1) := by decide +kernel
theorem dX2_ownerBehind_8 : decode cX2_ownerBehind 8 = .ok (.iload_n 2, 1) := by decide +kernel
theorem dX2_ownerBehind_9 : decode cX2_ownerBehind 9 = .ok (.iadd, 1) := by decide +kernel
theorem dX2_ownerBehind_10 : decode cX2_ownerBehind 10 = .ok (.iaload, 1) := by decide +kernel
theorem dX2_ownerBehind_11 : decode cX2_ownerBehind 11 = .ok (.ireturn, 1) := by decide +kernel
theorem dX2_ownerOf_0 : decode cX2_ownerOf 0 = .ok (.aload_n 0, 1) := by decide +kernel
theorem dX2_ownerOf_1 : decode cX2_ownerOf 1 = .ok (.aload_n 0, 1) := by decide +kernel
theorem dX2_ownerOf_2 : decode cX2_ownerOf 2 = .ok (.getfield 40, 3) := by decide +kernel
theorem dX2_ownerOf_5 : decode cX2_ownerOf 5 = .ok (.iload_n 1, 1) := by decide +kernel
theorem dX2_ownerOf_6 : decode cX2_ownerOf 6 = .ok (.invokevirtual 47, 3) := by decide +kernel
theorem dX2_ownerOf_9 : decode cX2_ownerOf 9 = .ok (.ireturn, 1) := by decide +kernel
theorem dX2_sectorsOf_0 : decode cX2_sectorsOf 0 = .ok (.iconst 0, 1) := by decide +kernel
theorem dX2_sectorsOf_1 : decode cX2_sectorsOf 1 = .ok (.istore_n 2, 1) := by decide +kernel
theorem dX2_sectorsOf_2 : decode cX2_sectorsOf 2 = .ok (.iconst 0, 1) := by decide +kernel
theorem dX2_sectorsOf_3 : decode cX2_sectorsOf 3 = .ok (.istore_n 3, 1) := by decide +kernel
theorem dX2_sectorsOf_4 : decode cX2_sectorsOf 4 = .ok (.iload_n 3, 1) := by decide +kernel
theorem dX2_sectorsOf_5 : decode cX2_sectorsOf 5 = .ok (.bipush 24, 2) := by decide +kernel
theorem dX2_sectorsOf_7 : decode cX2_sectorsOf 7 = .ok (.if_icmp .ge 24, 3) := by decide +kernel
theorem dX2_sectorsOf_10 : decode cX2_sectorsOf 10 = .ok (.aload_n 0, 1) := by decide +kernel
theorem dX2_sectorsOf_11 : decode cX2_sectorsOf 11 = .ok (.iload_n 3, 1) := by decide +kernel
theorem dX2_sectorsOf_12 : decode cX2_sectorsOf 12 = .ok (.invokevirtual 50, 3) := by decide +kernel
theorem dX2_sectorsOf_15 : decode cX2_sectorsOf 15 = .ok (.iload_n 1, 1) := by decide +kernel
theorem dX2_sectorsOf_16 : decode cX2_sectorsOf 16 = .ok (.if_icmp .ne 9, 3) := by decide +kernel
theorem dX2_sectorsOf_19 : decode cX2_sectorsOf 19 = .ok (.iload_n 2, 1) := by decide +kernel
theorem dX2_sectorsOf_20 : decode cX2_sectorsOf 20 = .ok (.iconst 1, 1) := by decide +kernel
theorem dX2_sectorsOf_21 : decode cX2_sectorsOf 21 = .ok (.iload_n 3, 1) := by decide +kernel
theorem dX2_sectorsOf_22 : decode cX2_sectorsOf 22 = .ok (.ishl, 1) := by decide +kernel
theorem dX2_sectorsOf_23 : decode cX2_sectorsOf 23 = .ok (.ior, 1) := by decide +kernel
theorem dX2_sectorsOf_24 : decode cX2_sectorsOf 24 = .ok (.istore_n 2, 1) := by decide +kernel
theorem dX2_sectorsOf_25 : decode cX2_sectorsOf 25 = .ok (.iinc 3 1, 3) := by decide +kernel
theorem dX2_sectorsOf_28 : decode cX2_sectorsOf 28 = .ok (.goto (-24), 3) := by decide +kernel
theorem dX2_sectorsOf_31 : decode cX2_sectorsOf 31 = .ok (.iload_n 2, 1) := by decide +kernel
theorem dX2_sectorsOf_32 : decode cX2_sectorsOf 32 = .ok (.ireturn, 1) := by decide +kernel
theorem dX2_ownersOf_0 : decode cX2_ownersOf 0 = .ok (.iconst 0, 1) := by decide +kernel
theorem dX2_ownersOf_1 : decode cX2_ownersOf 1 = .ok (.istore_n 2, 1) := by decide +kernel
theorem dX2_ownersOf_2 : decode cX2_ownersOf 2 = .ok (.iconst 0, 1) := by decide +kernel
theorem dX2_ownersOf_3 : decode cX2_ownersOf 3 = .ok (.istore_n 3, 1) := by decide +kernel
theorem dX2_ownersOf_4 : decode cX2_ownersOf 4 = .ok (.iload_n 3, 1) := by decide +kernel
theorem dX2_ownersOf_5 : decode cX2_ownersOf 5 = .ok (.bipush 24, 2) := by decide +kernel
theorem dX2_ownersOf_7 : decode cX2_ownersOf 7 = .ok (.if_icmp .ge 27, 3) := by decide +kernel
theorem dX2_ownersOf_10 : decode cX2_ownersOf 10 = .ok (.iload_n 1, 1) := by decide +kernel
theorem dX2_ownersOf_11 : decode cX2_ownersOf 11 = .ok (.iload_n 3, 1) := by decide +kernel
theorem dX2_ownersOf_12 : decode cX2_ownersOf 12 = .ok (.ishr, 1) := by decide +kernel
theorem dX2_ownersOf_13 : decode cX2_ownersOf 13 = .ok (.iconst 1, 1) := by decide +kernel
theorem dX2_ownersOf_14 : decode cX2_ownersOf 14 = .ok (.iand, 1) := by decide +kernel
theorem dX2_ownersOf_15 : decode cX2_ownersOf 15 = .ok (.ifCond .eq 13, 3) := by decide +kernel
theorem dX2_ownersOf_18 : decode cX2_ownersOf 18 = .ok (.iload_n 2, 1) := by decide +kernel
theorem dX2_ownersOf_19 : decode cX2_ownersOf 19 = .ok (.iconst 1, 1) := by decide +kernel
theorem dX2_ownersOf_20 : decode cX2_ownersOf 20 = .ok (.aload_n 0, 1) := by decide +kernel
theorem dX2_ownersOf_21 : decode cX2_ownersOf 21 = .ok (.iload_n 3, 1) := by decide +kernel
theorem dX2_ownersOf_22 : decode cX2_ownersOf 22 = .ok (.invokevirtual 50, 3) := by decide +kernel
theorem dX2_ownersOf_25 : decode cX2_ownersOf 25 = .ok (.ishl, 1) := by decide +kernel
theorem dX2_ownersOf_26 : decode cX2_ownersOf 26 = .ok (.ior, 1) := by decide +kernel
theorem dX2_ownersOf_27 : decode cX2_ownersOf 27 = .ok (.istore_n 2, 1) := by decide +kernel
theorem dX2_ownersOf_28 : decode cX2_ownersOf 28 = .ok (.iinc 3 1, 3) := by decide +kernel
theorem dX2_ownersOf_31 : decode cX2_ownersOf 31 = .ok (.goto (-27), 3) := by decide +kernel
theorem dX2_ownersOf_34 : decode cX2_ownersOf 34 = .ok (.iload_n 2, 1) := by decide +kernel
theorem dX2_ownersOf_35 : decode cX2_ownersOf 35 = .ok (.ireturn, 1) := by decide +kernel
theorem dX2_setSlices_0 : decode cX2_setSlices 0 = .ok (.aload_n 0, 1) := by decide +kernel
theorem dX2_setSlices_1 : decode cX2_setSlices 1 = .ok (.iconst 0, 1) := by decide +kernel
theorem dX2_setSlices_2 : decode cX2_setSlices 2 = .ok (.putfield 40, 3) := by decide +kernel
theorem dX2_setSlices_5 : decode cX2_setSlices 5 = .ok (.aload_n 1, 1) := by decide +kernel
theorem dX2_setSlices_6 : decode cX2_setSlices 6 = .ok (.iconst 0, 1) := by decide +kernel
theorem dX2_setSlices_7 : decode cX2_setSlices 7 = .ok (.aload_n 0, 1) := by decide +kernel
theorem dX2_setSlices_8 : decode cX2_setSlices 8 = .ok (.getfield 15, 3) := by decide +kernel
theorem dX2_setSlices_11 : decode cX2_setSlices 11 = .ok (.iconst 0, 1) := by decide +kernel
theorem dX2_setSlices_12 : decode cX2_setSlices 12 = .ok (.bipush 24, 2) := by decide +kernel
theorem dX2_setSlices_14 : decode cX2_setSlices 14 = .ok (.invokestatic 34, 3) := by decide +kernel
theorem dX2_setSlices_17 : decode cX2_setSlices 17 = .ok (.return_, 1) := by decide +kernel
theorem dX2_beginGeneration_0 : decode cX2_beginGeneration 0 = .ok (.aload_n 0, 1) := by decide +kernel
theorem dX2_beginGeneration_1 : decode cX2_beginGeneration 1 = .ok (.getfield 15, 3) := by decide +kernel
theorem dX2_beginGeneration_4 : decode cX2_beginGeneration 4 = .ok (.aload_n 0, 1) := by decide +kernel
theorem dX2_beginGeneration_5 : decode cX2_beginGeneration 5 = .ok (.getfield 40, 3) := by decide +kernel
theorem dX2_beginGeneration_8 : decode cX2_beginGeneration 8 = .ok (.bipush 24, 2) := by decide +kernel
theorem dX2_beginGeneration_10 : decode cX2_beginGeneration 10 = .ok (.imul, 1) := by decide +kernel
theorem dX2_beginGeneration_11 : decode cX2_beginGeneration 11 = .ok (.aload_n 0, 1) := by decide +kernel
theorem dX2_beginGeneration_12 : decode cX2_beginGeneration 12 = .ok (.getfield 15, 3) := by decide +kernel
theorem dX2_beginGeneration_15 : decode cX2_beginGeneration 15 = .ok (.aload_n 0, 1) := by decide +kernel
theorem dX2_beginGeneration_16 : decode cX2_beginGeneration 16 = .ok (.getfield 40, 3) := by decide +kernel
theorem dX2_beginGeneration_19 : decode cX2_beginGeneration 19 = .ok (.iconst 1, 1) := by decide +kernel
theorem dX2_beginGeneration_20 : decode cX2_beginGeneration 20 = .ok (.iadd, 1) := by decide +kernel
theorem dX2_beginGeneration_21 : decode cX2_beginGeneration 21 = .ok (.bipush 24, 2) := by decide +kernel
theorem dX2_beginGeneration_23 : decode cX2_beginGeneration 23 = .ok (.imul, 1) := by decide +kernel
theorem dX2_beginGeneration_24 : decode cX2_beginGeneration 24 = .ok (.bipush 24, 2) := by decide +kernel
theorem dX2_beginGeneration_26 : decode cX2_beginGeneration 26 = .ok (.invokestatic 34, 3) := by decide +kernel
theorem dX2_beginGeneration_29 : decode cX2_beginGeneration 29 = .ok (.aload_n 0, 1) := by decide +kernel
theorem dX2_beginGeneration_30 : decode cX2_beginGeneration 30 = .ok (.dup, 1) := by decide +kernel
theorem dX2_beginGeneration_31 : decode cX2_beginGeneration 31 = .ok (.getfield 40, 3) := by decide +kernel
theorem dX2_beginGeneration_34 : decode cX2_beginGeneration 34 = .ok (.iconst 1, 1) := by decide +kernel
theorem dX2_beginGeneration_35 : decode cX2_beginGeneration 35 = .ok (.iadd, 1) := by decide +kernel
theorem dX2_beginGeneration_36 : decode cX2_beginGeneration 36 = .ok (.putfield 40, 3) := by decide +kernel
theorem dX2_beginGeneration_39 : decode cX2_beginGeneration 39 = .ok (.return_, 1) := by decide +kernel
theorem dX2_give_0 : decode cX2_give 0 = .ok (.aload_n 0, 1) := by decide +kernel
theorem dX2_give_1 : decode cX2_give 1 = .ok (.getfield 15, 3) := by decide +kernel
theorem dX2_give_4 : decode cX2_give 4 = .ok (.aload_n 0, 1) := by decide +kernel
theorem dX2_give_5 : decode cX2_give 5 = .ok (.getfield 40, 3) := by decide +kernel
theorem dX2_give_8 : decode cX2_give 8 = .ok (.bipush 24, 2) := by decide +kernel
theorem dX2_give_10 : decode cX2_give 10 = .ok (.imul, 1) := by decide +kernel
theorem dX2_give_11 : decode cX2_give 11 = .ok (.iload_n 1, 1) := by decide +kernel
theorem dX2_give_12 : decode cX2_give 12 = .ok (.iadd, 1) := by decide +kernel
theorem dX2_give_13 : decode cX2_give 13 = .ok (.iload_n 2, 1) := by decide +kernel
theorem dX2_give_14 : decode cX2_give 14 = .ok (.iastore, 1) := by decide +kernel
theorem dX2_give_15 : decode cX2_give 15 = .ok (.return_, 1) := by decide +kernel
theorem dX2_giveAway_0 : decode cX2_giveAway 0 = .ok (.iconst 0, 1) := by decide +kernel
theorem dX2_giveAway_1 : decode cX2_giveAway 1 = .ok (.istore_n 3, 1) := by decide +kernel
theorem dX2_giveAway_2 : decode cX2_giveAway 2 = .ok (.iconst 0, 1) := by decide +kernel
theorem dX2_giveAway_3 : decode cX2_giveAway 3 = .ok (.istore 4, 2) := by decide +kernel
theorem dX2_giveAway_5 : decode cX2_giveAway 5 = .ok (.iload 4, 2) := by decide +kernel
theorem dX2_giveAway_7 : decode cX2_giveAway 7 = .ok (.bipush 24, 2) := by decide +kernel
theorem dX2_giveAway_9 : decode cX2_giveAway 9 = .ok (.if_icmp .ge 31, 3) := by decide +kernel
theorem dX2_giveAway_12 : decode cX2_giveAway 12 = .ok (.aload_n 0, 1) := by decide +kernel
theorem dX2_giveAway_13 : decode cX2_giveAway 13 = .ok (.iload 4, 2) := by decide +kernel
theorem dX2_giveAway_15 : decode cX2_giveAway 15 = .ok (.invokevirtual 50, 3) := by decide +kernel
theorem dX2_giveAway_18 : decode cX2_giveAway 18 = .ok (.iload_n 1, 1) := by decide +kernel
theorem dX2_giveAway_19 : decode cX2_giveAway 19 = .ok (.if_icmp .ne 15, 3) := by decide +kernel
theorem dX2_giveAway_22 : decode cX2_giveAway 22 = .ok (.aload_n 0, 1) := by decide +kernel
theorem dX2_giveAway_23 : decode cX2_giveAway 23 = .ok (.iload 4, 2) := by decide +kernel
theorem dX2_giveAway_25 : decode cX2_giveAway 25 = .ok (.aload_n 2, 1) := by decide +kernel
theorem dX2_giveAway_26 : decode cX2_giveAway 26 = .ok (.iload_n 3, 1) := by decide +kernel
theorem dX2_giveAway_27 : decode cX2_giveAway 27 = .ok (.iaload, 1) := by decide +kernel
theorem dX2_giveAway_28 : decode cX2_giveAway 28 = .ok (.invokevirtual 54, 3) := by decide +kernel
theorem dX2_giveAway_31 : decode cX2_giveAway 31 = .ok (.iinc 3 1, 3) := by decide +kernel
theorem dX2_giveAway_34 : decode cX2_giveAway 34 = .ok (.iinc 4 1, 3) := by decide +kernel
theorem dX2_giveAway_37 : decode cX2_giveAway 37 = .ok (.goto (-32), 3) := by decide +kernel
theorem dX2_giveAway_40 : decode cX2_giveAway 40 = .ok (.return_, 1) := by decide +kernel
theorem dX2_join_0 : decode cX2_join 0 = .ok (.iconst 0, 1) := by decide +kernel
theorem dX2_join_1 : decode cX2_join 1 = .ok (.istore_n 3, 1) := by decide +kernel
theorem dX2_join_2 : decode cX2_join 2 = .ok (.iload_n 3, 1) := by decide +kernel
theorem dX2_join_3 : decode cX2_join 3 = .ok (.bipush 24, 2) := by decide +kernel
theorem dX2_join_5 : decode cX2_join 5 = .ok (.if_icmp .ge 24, 3) := by decide +kernel
theorem dX2_join_8 : decode cX2_join 8 = .ok (.aload_n 0, 1) := by decide +kernel
theorem dX2_join_9 : decode cX2_join 9 = .ok (.iload_n 3, 1) := by decide +kernel
theorem dX2_join_10 : decode cX2_join 10 = .ok (.invokevirtual 50, 3) := by decide +kernel
theorem dX2_join_13 : decode cX2_join 13 = .ok (.iload_n 2, 1) := by decide +kernel
theorem dX2_join_14 : decode cX2_join 14 = .ok (.if_icmp .ne 9, 3) := by decide +kernel
theorem dX2_join_17 : decode cX2_join 17 = .ok (.aload_n 0, 1) := by decide +kernel
theorem dX2_join_18 : decode cX2_join 18 = .ok (.iload_n 3, 1) := by decide +kernel
theorem dX2_join_19 : decode cX2_join 19 = .ok (.iload_n 1, 1) := by decide +kernel
theorem dX2_join_20 : decode cX2_join 20 = .ok (.invokevirtual 54, 3) := by decide +kernel
theorem dX2_join_23 : decode cX2_join 23 = .ok (.iinc 3 1, 3) := by decide +kernel
theorem dX2_join_26 : decode cX2_join 26 = .ok (.goto (-24), 3) := by decide +kernel
theorem dX2_join_29 : decode cX2_join 29 = .ok (.return_, 1) := by decide +kernel
theorem dX2_setWorth_0 : decode cX2_setWorth 0 = .ok (.aload_n 0, 1) := by decide +kernel
theorem dX2_setWorth_1 : decode cX2_setWorth 1 = .ok (.getfield 18, 3) := by decide +kernel
theorem dX2_setWorth_4 : decode cX2_setWorth 4 = .ok (.iload_n 1, 1) := by decide +kernel
theorem dX2_setWorth_5 : decode cX2_setWorth 5 = .ok (.iconst 5, 1) := by decide +kernel
theorem dX2_setWorth_6 : decode cX2_setWorth 6 = .ok (.imul, 1) := by decide +kernel
theorem dX2_setWorth_7 : decode cX2_setWorth 7 = .ok (.iload_n 2, 1) := by decide +kernel
theorem dX2_setWorth_8 : decode cX2_setWorth 8 = .ok (.iadd, 1) := by decide +kernel
theorem dX2_setWorth_9 : decode cX2_setWorth 9 = .ok (.iaload, 1) := by decide +kernel
theorem dX2_setWorth_10 : decode cX2_setWorth 10 = .ok (.istore 4, 2) := by decide +kernel
theorem dX2_setWorth_12 : decode cX2_setWorth 12 = .ok (.aload_n 0, 1) := by decide +kernel
theorem dX2_setWorth_13 : decode cX2_setWorth 13 = .ok (.getfield 18, 3) := by decide +kernel
theorem dX2_setWorth_16 : decode cX2_setWorth 16 = .ok (.iload_n 1, 1) := by decide +kernel
theorem dX2_setWorth_17 : decode cX2_setWorth 17 = .ok (.iconst 5, 1) := by decide +kernel
theorem dX2_setWorth_18 : decode cX2_setWorth 18 = .ok (.imul, 1) := by decide +kernel
theorem dX2_setWorth_19 : decode cX2_setWorth 19 = .ok (.iload_n 2, 1) := by decide +kernel
theorem dX2_setWorth_20 : decode cX2_setWorth 20 = .ok (.iadd, 1) := by decide +kernel
theorem dX2_setWorth_21 : decode cX2_setWorth 21 = .ok (.iload_n 3, 1) := by decide +kernel
theorem dX2_setWorth_22 : decode cX2_setWorth 22 = .ok (.iastore, 1) := by decide +kernel
theorem dX2_setWorth_23 : decode cX2_setWorth 23 = .ok (.iload 4, 2) := by decide +kernel
theorem dX2_setWorth_25 : decode cX2_setWorth 25 = .ok (.ireturn, 1) := by decide +kernel
theorem dX2_shareOfSector_0 : decode cX2_shareOfSector 0 = .ok (.iconst 0, 1) := by decide +kernel
theorem dX2_shareOfSector_1 : decode cX2_shareOfSector 1 = .ok (.istore_n 3, 1) := by decide +kernel
theorem dX2_shareOfSector_2 : decode cX2_shareOfSector 2 = .ok (.iconst 0, 1) := by decide +kernel
theorem dX2_shareOfSector_3 : decode cX2_shareOfSector 3 = .ok (.istore 4, 2) := by decide +kernel
theorem dX2_shareOfSector_5 : decode cX2_shareOfSector 5 = .ok (.iload 4, 2) := by decide +kernel
theorem dX2_shareOfSector_7 : decode cX2_shareOfSector 7 = .ok (.iconst 5, 1) := by decide +kernel
theorem dX2_shareOfSector_8 : decode cX2_shareOfSector 8 = .ok (.if_icmp .ge 28, 3) := by decide +kernel
theorem dX2_shareOfSector_11 : decode cX2_shareOfSector 11 = .ok (.iload_n 3, 1) := by decide +kernel
theorem dX2_shareOfSector_12 : decode cX2_shareOfSector 12 = .ok (.aload_n 0, 1) := by decide +kernel
theorem dX2_shareOfSector_13 : decode cX2_shareOfSector 13 = .ok (.getfield 18, 3) := by decide +kernel
theorem dX2_shareOfSector_16 : decode cX2_shareOfSector 16 = .ok (.iload_n 1, 1) := by decide +kernel
theorem dX2_shareOfSector_17 : decode cX2_shareOfSector 17 = .ok (.iconst 5, 1) := by decide +kernel
theorem dX2_shareOfSector_18 : decode cX2_shareOfSector 18 = .ok (.imul, 1) := by decide +kernel
theorem dX2_shareOfSector_19 : decode cX2_shareOfSector 19 = .ok (.aload_n 0, 1) := by decide +kernel
theorem dX2_shareOfSector_20 : decode cX2_shareOfSector 20 = .ok (.iload 4, 2) := by decide +kernel
theorem dX2_shareOfSector_22 : decode cX2_shareOfSector 22 = .ok (.iload_n 2, 1) := by decide +kernel
theorem dX2_shareOfSector_23 : decode cX2_shareOfSector 23 = .ok (.invokevirtual 43, 3) := by decide +kernel
theorem dX2_shareOfSector_26 : decode cX2_shareOfSector 26 = .ok (.iadd, 1) := by decide +kernel
theorem dX2_shareOfSector_27 : decode cX2_shareOfSector 27 = .ok (.iaload, 1) := by decide +kernel
theorem dX2_shareOfSector_28 : decode cX2_shareOfSector 28 = .ok (.iadd, 1) := by decide +kernel
theorem dX2_shareOfSector_29 : decode cX2_shareOfSector 29 = .ok (.istore_n 3, 1) := by decide +kernel
theorem dX2_shareOfSector_30 : decode cX2_shareOfSector 30 = .ok (.iinc 4 1, 3) := by decide +kernel
theorem dX2_shareOfSector_33 : decode cX2_shareOfSector 33 = .ok (.goto (-28), 3) := by decide +kernel
theorem dX2_shareOfSector_36 : decode cX2_shareOfSector 36 = .ok (.iload_n 3, 1) := by decide +kernel
theorem dX2_shareOfSector_37 : decode cX2_shareOfSector 37 = .ok (.ireturn, 1) := by decide +kernel
theorem dX2_shareOf_0 : decode cX2_shareOf 0 = .ok (.iconst 0, 1) := by decide +kernel
theorem dX2_shareOf_1 : decode cX2_shareOf 1 = .ok (.istore_n 3, 1) := by decide +kernel
theorem dX2_shareOf_2 : decode cX2_shareOf 2 = .ok (.iconst 0, 1) := by decide +kernel
theorem dX2_shareOf_3 : decode cX2_shareOf 3 = .ok (.istore 4, 2) := by decide +kernel
theorem dX2_shareOf_5 : decode cX2_shareOf 5 = .ok (.iload 4, 2) := by decide +kernel
theorem dX2_shareOf_7 : decode cX2_shareOf 7 = .ok (.bipush 24, 2) := by decide +kernel
theorem dX2_shareOf_9 : decode cX2_shareOf 9 = .ok (.if_icmp .ge 28, 3) := by decide +kernel
theorem dX2_shareOf_12 : decode cX2_shareOf 12 = .ok (.iload_n 2, 1) := by decide +kernel
theorem dX2_shareOf_13 : decode cX2_shareOf 13 = .ok (.iload 4, 2) := by decide +kernel
theorem dX2_shareOf_15 : decode cX2_shareOf 15 = .ok (.ishr, 1) := by decide +kernel
theorem dX2_shareOf_16 : decode cX2_shareOf 16 = .ok (.iconst 1, 1) := by decide +kernel
theorem dX2_shareOf_17 : decode cX2_shareOf 17 = .ok (.iand, 1) := by decide +kernel
theorem dX2_shareOf_18 : decode cX2_shareOf 18 = .ok (.ifCond .eq 13, 3) := by decide +kernel
theorem dX2_shareOf_21 : decode cX2_shareOf 21 = .ok (.iload_n 3, 1) := by decide +kernel
theorem dX2_shareOf_22 : decode cX2_shareOf 22 = .ok (.aload_n 0, 1) := by decide +kernel
theorem dX2_shareOf_23 : decode cX2_shareOf 23 = .ok (.iload_n 1, 1) := by decide +kernel
theorem dX2_shareOf_24 : decode cX2_shareOf 24 = .ok (.iload 4, 2) := by decide +kernel
theorem dX2_shareOf_26 : decode cX2_shareOf 26 = .ok (.invokevirtual 58, 3) := by decide +kernel
theorem dX2_shareOf_29 : decode cX2_shareOf 29 = .ok (.iadd, 1) := by decide +kernel
theorem dX2_shareOf_30 : decode cX2_shareOf 30 = .ok (.istore_n 3, 1) := by decide +kernel
theorem dX2_shareOf_31 : decode cX2_shareOf 31 = .ok (.iinc 4 1, 3) := by decide +kernel
theorem dX2_shareOf_34 : decode cX2_shareOf 34 = .ok (.goto (-29), 3) := by decide +kernel
theorem dX2_shareOf_37 : decode cX2_shareOf 37 = .ok (.iload_n 3, 1) := by decide +kernel
theorem dX2_shareOf_38 : decode cX2_shareOf 38 = .ok (.ireturn, 1) := by decide +kernel
theorem dX2_hasRight_0 : decode cX2_hasRight 0 = .ok (.aload_n 0, 1) := by decide +kernel
theorem dX2_hasRight_1 : decode cX2_hasRight 1 = .ok (.getfield 21, 3) := by decide +kernel
theorem dX2_hasRight_4 : decode cX2_hasRight 4 = .ok (.iload_n 2, 1) := by decide +kernel
theorem dX2_hasRight_5 : decode cX2_hasRight 5 = .ok (.iaload, 1) := by decide +kernel
theorem dX2_hasRight_6 : decode cX2_hasRight 6 = .ok (.iload_n 1, 1) := by decide +kernel
theorem dX2_hasRight_7 : decode cX2_hasRight 7 = .ok (.ishr, 1) := by decide +kernel
theorem dX2_hasRight_8 : decode cX2_hasRight 8 = .ok (.iconst 1, 1) := by decide +kernel
theorem dX2_hasRight_9 : decode cX2_hasRight 9 = .ok (.iand, 1) := by decide +kernel
theorem dX2_hasRight_10 : decode cX2_hasRight 10 = .ok (.ifCond .eq 7, 3) := by decide +kernel
theorem dX2_hasRight_13 : decode cX2_hasRight 13 = .ok (.iconst 1, 1) := by decide +kernel
theorem dX2_hasRight_14 : decode cX2_hasRight 14 = .ok (.goto 4, 3) := by decide +kernel
theorem dX2_hasRight_17 : decode cX2_hasRight 17 = .ok (.iconst 0, 1) := by decide +kernel
theorem dX2_hasRight_18 : decode cX2_hasRight 18 = .ok (.ireturn, 1) := by decide +kernel
theorem dX2_setRight_0 : decode cX2_setRight 0 = .ok (.aload_n 0, 1) := by decide +kernel
theorem dX2_setRight_1 : decode cX2_setRight 1 = .ok (.iload_n 2, 1) := by decide +kernel
theorem dX2_setRight_2 : decode cX2_setRight 2 = .ok (.iload_n 1, 1) := by decide +kernel
theorem dX2_setRight_3 : decode cX2_setRight 3 = .ok (.invokevirtual 61, 3) := by decide +kernel
theorem dX2_setRight_6 : decode cX2_setRight 6 = .ok (.istore 4, 2) := by decide +kernel
theorem dX2_setRight_8 : decode cX2_setRight 8 = .ok (.iconst 1, 1) := by decide +kernel
theorem dX2_setRight_9 : decode cX2_setRight 9 = .ok (.iload_n 2, 1) := by decide +kernel
theorem dX2_setRight_10 : decode cX2_setRight 10 = .ok (.ishl, 1) := by decide +kernel
theorem dX2_setRight_11 : decode cX2_setRight 11 = .ok (.istore 5, 2) := by decide +kernel
theorem dX2_setRight_13 : decode cX2_setRight 13 = .ok (.aload_n 0, 1) := by decide +kernel
theorem dX2_setRight_14 : decode cX2_setRight 14 = .ok (.getfield 21, 3) := by decide +kernel
theorem dX2_setRight_17 : decode cX2_setRight 17 = .ok (.iload_n 1, 1) := by decide +kernel
theorem dX2_setRight_18 : decode cX2_setRight 18 = .ok (.iload_n 3, 1) := by decide +kernel
theorem dX2_setRight_19 : decode cX2_setRight 19 = .ok (.ifCond .eq 15, 3) := by decide +kernel
theorem dX2_setRight_22 : decode cX2_setRight 22 = .ok (.aload_n 0, 1) := by decide +kernel
theorem dX2_setRight_23 : decode cX2_setRight 23 = .ok (.getfield 21, 3) := by decide +kernel
theorem dX2_setRight_26 : decode cX2_setRight 26 = .ok (.iload_n 1, 1) := by decide +kernel
theorem dX2_setRight_27 : decode cX2_setRight 27 = .ok (.iaload, 1) := by decide +kernel
theorem dX2_setRight_28 : decode cX2_setRight 28 = .ok (.iload 5, 2) := by decide +kernel
theorem dX2_setRight_30 : decode cX2_setRight 30 = .ok (.ior, 1) := by decide +kernel
theorem dX2_setRight_31 : decode cX2_setRight 31 = .ok (.goto 14, 3) := by decide +kernel
theorem dX2_setRight_34 : decode cX2_setRight 34 = .ok (.aload_n 0, 1) := by decide +kernel
theorem dX2_setRight_35 : decode cX2_setRight 35 = .ok (.getfield 21, 3) := by decide +kernel
theorem dX2_setRight_38 : decode cX2_setRight 38 = .ok (.iload_n 1, 1) := by decide +kernel
theorem dX2_setRight_39 : decode cX2_setRight 39 = .ok (.iaload, 1) := by decide +kernel
theorem dX2_setRight_40 : decode cX2_setRight 40 = .ok (.iload 5, 2) := by decide +kernel
theorem dX2_setRight_42 : decode cX2_setRight 42 = .ok (.iconst (-1), 1) := by decide +kernel
theorem dX2_setRight_43 : decode cX2_setRight 43 = .ok (.ixor, 1) := by decide +kernel
theorem dX2_setRight_44 : decode cX2_setRight 44 = .ok (.iand, 1) := by decide +kernel
theorem dX2_setRight_45 : decode cX2_setRight 45 = .ok (.iastore, 1) := by decide +kernel
theorem dX2_setRight_46 : decode cX2_setRight 46 = .ok (.iload 4, 2) := by decide +kernel
theorem dX2_setRight_48 : decode cX2_setRight 48 = .ok (.ireturn, 1) := by decide +kernel
theorem dX2_isFreeFor_0 : decode cX2_isFreeFor 0 = .ok (.aload_n 0, 1) := by decide +kernel
theorem dX2_isFreeFor_1 : decode cX2_isFreeFor 1 = .ok (.iload_n 2, 1) := by decide +kernel
theorem dX2_isFreeFor_2 : decode cX2_isFreeFor 2 = .ok (.invokevirtual 50, 3) := by decide +kernel
theorem dX2_isFreeFor_5 : decode cX2_isFreeFor 5 = .ok (.istore_n 3, 1) := by decide +kernel
theorem dX2_isFreeFor_6 : decode cX2_isFreeFor 6 = .ok (.iload_n 3, 1) := by decide +kernel
theorem dX2_isFreeFor_7 : decode cX2_isFreeFor 7 = .ok (.iload_n 1, 1) := by decide +kernel
theorem dX2_isFreeFor_8 : decode cX2_isFreeFor 8 = .ok (.if_icmp .eq 12, 3) := by decide +kernel
theorem dX2_isFreeFor_11 : decode cX2_isFreeFor 11 = .ok (.aload_n 0, 1) := by decide +kernel
theorem dX2_isFreeFor_12 : decode cX2_isFreeFor 12 = .ok (.iload_n 1, 1) := by decide +kernel
theorem dX2_isFreeFor_13 : decode cX2_isFreeFor 13 = .ok (.iload_n 3, 1) := by decide +kernel
theorem dX2_isFreeFor_14 : decode cX2_isFreeFor 14 = .ok (.invokevirtual 61, 3) := by decide +kernel
theorem dX2_isFreeFor_17 : decode cX2_isFreeFor 17 = .ok (.ifCond .eq 7, 3) := by decide +kernel
theorem dX2_isFreeFor_20 : decode cX2_isFreeFor 20 = .ok (.iconst 1, 1) := by decide +kernel
theorem dX2_isFreeFor_21 : decode cX2_isFreeFor 21 = .ok (.goto 4, 3) := by decide +kernel
theorem dX2_isFreeFor_24 : decode cX2_isFreeFor 24 = .ok (.iconst 0, 1) := by decide +kernel
theorem dX2_isFreeFor_25 : decode cX2_isFreeFor 25 = .ok (.ireturn, 1) := by decide +kernel
theorem dX3_init_0 : decode cX3_init 0 = .ok (.aload_n 0, 1) := by decide +kernel
theorem dX3_init_1 : decode cX3_init 1 = .ok (.invokespecial 3, 3) := by decide +kernel
theorem dX3_init_4 : decode cX3_init 4 = .ok (.aload_n 0, 1) := by decide +kernel
theorem dX3_init_5 : decode cX3_init 5 = .ok (.bipush 60, 2) := by decide +kernel
theorem dX3_init_7 : decode cX3_init 7 = .ok (.newarray .char, 2) := by decide +kernel
theorem dX3_init_9 : decode cX3_init 9 = .ok (.putfield 9, 3) := by decide +kernel
theorem dX3_init_12 : decode cX3_init 12 = .ok (.aload_n 0, 1) := by decide +kernel
theorem dX3_init_13 : decode cX3_init 13 = .ok (.bipush 24, 2) := by decide +kernel
theorem dX3_init_15 : decode cX3_init 15 = .ok (.newarray .int, 2) := by decide +kernel
theorem dX3_init_17 : decode cX3_init 17 = .ok (.putfield 15, 3) := by decide +kernel
theorem dX3_init_20 : decode cX3_init 20 = .ok (.return_, 1) := by decide +kernel
theorem dX3_add_0 : decode cX3_add 0 = .ok (.aload_n 0, 1) := by decide +kernel
theorem dX3_add_1 : decode cX3_add 1 = .ok (.getfield 19, 3) := by decide +kernel
theorem dX3_add_4 : decode cX3_add 4 = .ok (.bipush 60, 2) := by decide +kernel
theorem dX3_add_6 : decode cX3_add 6 = .ok (.if_icmp .lt 6, 3) := by decide +kernel
theorem dX3_add_9 : decode cX3_add 9 = .ok (.bipush (-4), 2) := by decide +kernel
theorem dX3_add_11 : decode cX3_add 11 = .ok (.ireturn, 1) := by decide +kernel
theorem dX3_add_12 : decode cX3_add 12 = .ok (.aload_n 0, 1) := by decide +kernel
theorem dX3_add_13 : decode cX3_add 13 = .ok (.getfield 9, 3) := by decide +kernel
theorem dX3_add_16 : decode cX3_add 16 = .ok (.aload_n 0, 1) := by decide +kernel
theorem dX3_add_17 : decode cX3_add 17 = .ok (.getfield 19, 3) := by decide +kernel
theorem dX3_add_20 : decode cX3_add 20 = .ok (.iload_n 1, 1) := by decide +kernel
theorem dX3_add_21 : decode cX3_add 21 = .ok (.castore, 1) := by decide +kernel
theorem dX3_add_22 : decode cX3_add 22 = .ok (.aload_n 0, 1) := by decide +kernel
theorem dX3_add_23 : decode cX3_add 23 = .ok (.dup, 1) := by decide +kernel
theorem dX3_add_24 : decode cX3_add 24 = .ok (.getfield 19, 3) := by decide +kernel
theorem dX3_add_27 : decode cX3_add 27 = .ok (.iconst 1, 1) := by decide +kernel
theorem dX3_add_28 : decode cX3_add 28 = .ok (.iadd, 1) := by decide +kernel
theorem dX3_add_29 : decode cX3_add 29 = .ok (.putfield 19, 3) := by decide +kernel
theorem dX3_add_32 : decode cX3_add 32 = .ok (.aload_n 0, 1) := by decide +kernel
theorem dX3_add_33 : decode cX3_add 33 = .ok (.getfield 19, 3) := by decide +kernel
theorem dX3_add_36 : decode cX3_add 36 = .ok (.ireturn, 1) := by decide +kernel
theorem dX3_empty_0 : decode cX3_empty 0 = .ok (.aload_n 0, 1) := by decide +kernel
theorem dX3_empty_1 : decode cX3_empty 1 = .ok (.getfield 19, 3) := by decide +kernel
theorem dX3_empty_4 : decode cX3_empty 4 = .ok (.istore_n 1, 1) := by decide +kernel
theorem dX3_empty_5 : decode cX3_empty 5 = .ok (.aload_n 0, 1) := by decide +kernel
theorem dX3_empty_6 : decode cX3_empty 6 = .ok (.iconst 0, 1) := by decide +kernel
theorem dX3_empty_7 : decode cX3_empty 7 = .ok (.putfield 19, 3) := by decide +kernel
theorem dX3_empty_10 : decode cX3_empty 10 = .ok (.iload_n 1, 1) := by decide +kernel
theorem dX3_empty_11 : decode cX3_empty 11 = .ok (.ireturn, 1) := by decide +kernel
theorem dX3_hasAt_0 : decode cX3_hasAt 0 = .ok (.iload_n 1, 1) := by decide +kernel
theorem dX3_hasAt_1 : decode cX3_hasAt 1 = .ok (.aload_n 0, 1) := by decide +kernel
theorem dX3_hasAt_2 : decode cX3_hasAt 2 = .ok (.getfield 19, 3) := by decide +kernel
theorem dX3_hasAt_5 : decode cX3_hasAt 5 = .ok (.if_icmp .ge 17, 3) := by decide +kernel
theorem dX3_hasAt_8 : decode cX3_hasAt 8 = .ok (.aload_n 0, 1) := by decide +kernel
theorem dX3_hasAt_9 : decode cX3_hasAt 9 = .ok (.getfield 9, 3) := by decide +kernel
theorem dX3_hasAt_12 : decode cX3_hasAt 12 = .ok (.iload_n 1, 1) := by decide +kernel
theorem dX3_hasAt_13 : decode cX3_hasAt 13 = .ok (.caload, 1) := by decide +kernel
theorem dX3_hasAt_14 : decode cX3_hasAt 14 = .ok (.iload_n 2, 1) := by decide +kernel
theorem dX3_hasAt_15 : decode cX3_hasAt 15 = .ok (.if_icmp .ne 7, 3) := by decide +kernel
theorem dX3_hasAt_18 : decode cX3_hasAt 18 = .ok (.iconst 1, 1) := by decide +kernel
theorem dX3_hasAt_19 : decode cX3_hasAt 19 = .ok (.goto 4, 3) := by decide +kernel
theorem dX3_hasAt_22 : decode cX3_hasAt 22 = .ok (.iconst 0, 1) := by decide +kernel
theorem dX3_hasAt_23 : decode cX3_hasAt 23 = .ok (.ireturn, 1) := by decide +kernel
theorem dX3_letterAt_0 : decode cX3_letterAt 0 = .ok (.iload_n 1, 1) := by decide +kernel
theorem dX3_letterAt_1 : decode cX3_letterAt 1 = .ok (.aload_n 0, 1) := by decide +kernel
theorem dX3_letterAt_2 : decode cX3_letterAt 2 = .ok (.getfield 19, 3) := by decide +kernel
theorem dX3_letterAt_5 : decode cX3_letterAt 5 = .ok (.if_icmp .ge 16, 3) := by decide +kernel
theorem dX3_letterAt_8 : decode cX3_letterAt 8 = .ok (.aload_n 2, 1) := by decide +kernel
theorem dX3_letterAt_9 : decode cX3_letterAt 9 = .ok (.aload_n 0, 1) := by decide +kernel
theorem dX3_letterAt_10 : decode cX3_letterAt 10 = .ok (.getfield 9, 3) := by decide +kernel
theorem dX3_letterAt_13 : decode cX3_letterAt 13 = .ok (.iload_n 1, 1) := by decide +kernel
theorem dX3_letterAt_14 : decode cX3_letterAt 14 = .ok (.caload, 1) := by decide +kernel
theorem dX3_letterAt_15 : decode cX3_letterAt 15 = .ok (.invokevirtual 23, 3) := by decide +kernel
theorem dX3_letterAt_18 : decode cX3_letterAt 18 = .ok (.goto 4, 3) := by decide +kernel
theorem dX3_letterAt_21 : decode cX3_letterAt 21 = .ok (.iconst (-1), 1) := by decide +kernel
theorem dX3_letterAt_22 : decode cX3_letterAt 22 = .ok (.ireturn, 1) := by decide +kernel
theorem dX3_digitAt_0 : decode cX3_digitAt 0 = .ok (.iload_n 1, 1) := by decide +kernel
theorem dX3_digitAt_1 : decode cX3_digitAt 1 = .ok (.aload_n 0, 1) := by decide +kernel
theorem dX3_digitAt_2 : decode cX3_digitAt 2 = .ok (.getfield 19, 3) := by decide +kernel
theorem dX3_digitAt_5 : decode cX3_digitAt 5 = .ok (.if_icmp .ge 15, 3) := by decide +kernel
theorem dX3_digitAt_8 : decode cX3_digitAt 8 = .ok (.aload_n 0, 1) := by decide +kernel
theorem dX3_digitAt_9 : decode cX3_digitAt 9 = .ok (.getfield 9, 3) := by decide +kernel
theorem dX3_digitAt_12 : decode cX3_digitAt 12 = .ok (.iload_n 1, 1) := by decide +kernel
theorem dX3_digitAt_13 : decode cX3_digitAt 13 = .ok (.caload, 1) := by decide +kernel
theorem dX3_digitAt_14 : decode cX3_digitAt 14 = .ok (.bipush 48, 2) := by decide +kernel
theorem dX3_digitAt_16 : decode cX3_digitAt 16 = .ok (.isub, 1) := by decide +kernel
theorem dX3_digitAt_17 : decode cX3_digitAt 17 = .ok (.goto 4, 3) := by decide +kernel
theorem dX3_digitAt_20 : decode cX3_digitAt 20 = .ok (.iconst 0, 1) := by decide +kernel
theorem dX3_digitAt_21 : decode cX3_digitAt 21 = .ok (.istore_n 2, 1) := by decide +kernel
theorem dX3_digitAt_22 : decode cX3_digitAt 22 = .ok (.iload_n 2, 1) := by decide +kernel
theorem dX3_digitAt_23 : decode cX3_digitAt 23 = .ok (.iconst 1, 1) := by decide +kernel
theorem dX3_digitAt_24 : decode cX3_digitAt 24 = .ok (.if_icmp .lt 13, 3) := by decide +kernel
theorem dX3_digitAt_27 : decode cX3_digitAt 27 = .ok (.iload_n 2, 1) := by decide +kernel
theorem dX3_digitAt_28 : decode cX3_digitAt 28 = .ok (.bipush 9, 2) := by decide +kernel
theorem dX3_digitAt_30 : decode cX3_digitAt 30 = .ok (.if_icmp .gt 7, 3) := by decide +kernel
theorem dX3_digitAt_33 : decode cX3_digitAt 33 = .ok (.iload_n 2, 1) := by decide +kernel
theorem dX3_digitAt_34 : decode cX3_digitAt 34 = .ok (.goto 4, 3) := by decide +kernel
theorem dX3_digitAt_37 : decode cX3_digitAt 37 = .ok (.iconst 0, 1) := by decide +kernel
theorem dX3_digitAt_38 : decode cX3_digitAt 38 = .ok (.ireturn, 1) := by decide +kernel
theorem dX3_faultOfRuns_0 : decode cX3_faultOfRuns 0 = .ok (.iload_n 3, 1) := by decide +kernel
theorem dX3_faultOfRuns_1 : decode cX3_faultOfRuns 1 = .ok (.istore 4, 2) := by decide +kernel
theorem dX3_faultOfRuns_3 : decode cX3_faultOfRuns 3 = .ok (.iload_n 2, 1) := by decide +kernel
theorem dX3_faultOfRuns_4 : decode cX3_faultOfRuns 4 = .ok (.istore 5, 2) := by decide +kernel
theorem dX3_faultOfRuns_6 : decode cX3_faultOfRuns 6 = .ok (.iload 5, 2) := by decide +kernel
theorem dX3_faultOfRuns_8 : decode cX3_faultOfRuns 8 = .ok (.aload_n 0, 1) := by decide +kernel
theorem dX3_faultOfRuns_9 : decode cX3_faultOfRuns 9 = .ok (.getfield 19, 3) := by decide +kernel
theorem dX3_faultOfRuns_12 : decode cX3_faultOfRuns 12 = .ok (.if_icmp .ge 61, 3) := by decide +kernel
theorem dX3_faultOfRuns_15 : decode cX3_faultOfRuns 15 = .ok (.iload 4, 2) := by decide +kernel
theorem dX3_faultOfRuns_17 : decode cX3_faultOfRuns 17 = .ok (.ifCond .eq 13, 3) := by decide +kernel
theorem dX3_faultOfRuns_20 : decode cX3_faultOfRuns 20 = .ok (.aload_n 0, 1) := by decide +kernel
theorem dX3_faultOfRuns_21 : decode cX3_faultOfRuns 21 = .ok (.iload 5, 2) := by decide +kernel
theorem dX3_faultOfRuns_23 : decode cX3_faultOfRuns 23 = .ok (.aload_n 1, 1) := by decide +kernel
theorem dX3_faultOfRuns_24 : decode cX3_faultOfRuns 24 = .ok (.invokevirtual 29, 3) := by decide +kernel
theorem dX3_faultOfRuns_27 : decode cX3_faultOfRuns 27 = .ok (.ifCond .ge 6, 3) := by decide +kernel
theorem dX3_faultOfRuns_30 : decode cX3_faultOfRuns 30 = .ok (.iload 5, 2) := by decide +kernel
theorem dX3_faultOfRuns_32 : decode cX3_faultOfRuns 32 = .ok (.ireturn, 1) := by decide +kernel
theorem dX3_faultOfRuns_33 : decode cX3_faultOfRuns 33 = .ok (.aload_n 0, 1) := by decide +kernel
theorem dX3_faultOfRuns_34 : decode cX3_faultOfRuns 34 = .ok (.iload 5, 2) := by decide +kernel
theorem dX3_faultOfRuns_36 : decode cX3_faultOfRuns 36 = .ok (.iconst 1, 1) := by decide +kernel
theorem dX3_faultOfRuns_37 : decode cX3_faultOfRuns 37 = .ok (.iadd, 1) := by decide +kernel
theorem dX3_faultOfRuns_38 : decode cX3_faultOfRuns 38 = .ok (.invokevirtual 33, 3) := by decide +kernel
theorem dX3_faultOfRuns_41 : decode cX3_faultOfRuns 41 = .ok (.istore 6, 2) := by decide +kernel
theorem dX3_faultOfRuns_43 : decode cX3_faultOfRuns 43 = .ok (.iload 6, 2) := by decide +kernel
theorem dX3_faultOfRuns_45 : decode cX3_faultOfRuns 45 = .ok (.ifCond .eq 10, 3) := by decide +kernel
theorem dX3_faultOfRuns_48 : decode cX3_faultOfRuns 48 = .ok (.iload 6, 2) := by decide +kernel
theorem dX3_faultOfRuns_50 : decode cX3_faultOfRuns 50 = .ok (.iload 4, 2) := by decide +kernel
theorem dX3_faultOfRuns_52 : decode cX3_faultOfRuns 52 = .ok (.if_icmp .le 8, 3) := by decide +kernel
theorem dX3_faultOfRuns_55 : decode cX3_faultOfRuns 55 = .ok (.iload 5, 2) := by decide +kernel
theorem dX3_faultOfRuns_57 : decode cX3_faultOfRuns 57 = .ok (.iconst 1, 1) := by decide +kernel
theorem dX3_faultOfRuns_58 : decode cX3_faultOfRuns 58 = .ok (.iadd, 1) := by decide +kernel
theorem dX3_faultOfRuns_59 : decode cX3_faultOfRuns 59 = .ok (.ireturn, 1) := by decide +kernel
theorem dX3_faultOfRuns_60 : decode cX3_faultOfRuns 60 = .ok (.iload 4, 2) := by decide +kernel
theorem dX3_faultOfRuns_62 : decode cX3_faultOfRuns 62 = .ok (.iload 6, 2) := by decide +kernel
theorem dX3_faultOfRuns_64 : decode cX3_faultOfRuns 64 = .ok (.isub, 1) := by decide +kernel
theorem dX3_faultOfRuns_65 : decode cX3_faultOfRuns 65 = .ok (.istore 4, 2) := by decide +kernel
theorem dX3_faultOfRuns_67 : decode cX3_faultOfRuns 67 = .ok (.iinc 5 2, 3) := by decide +kernel
theorem dX3_faultOfRuns_70 : decode cX3_faultOfRuns 70 = .ok (.goto (-64), 3) := by decide +kernel
theorem dX3_faultOfRuns_73 : decode cX3_faultOfRuns 73 = .ok (.iload 4, 2) := by decide +kernel
theorem dX3_faultOfRuns_75 : decode cX3_faultOfRuns 75 = .ok (.ifCond .ne 8, 3) := by decide +kernel
theorem dX3_faultOfRuns_78 : decode cX3_faultOfRuns 78 = .ok (.bipush (-6), 2) := by decide +kernel
theorem dX3_faultOfRuns_80 : decode cX3_faultOfRuns 80 = .ok (.goto 7, 3) := by decide +kernel
theorem dX3_faultOfRuns_83 : decode cX3_faultOfRuns 83 = .ok (.aload_n 0, 1) := by decide +kernel
theorem dX3_faultOfRuns_84 : decode cX3_faultOfRuns 84 = .ok (.getfield 19, 3) := by decide +kernel
theorem dX3_faultOfRuns_87 : decode cX3_faultOfRuns 87 = .ok (.ireturn, 1) := by decide +kernel
theorem dX3_readRuns_0 : decode cX3_readRuns 0 = .ok (.iconst 0, 1) := by decide +kernel
theorem dX3_readRuns_1 : decode cX3_readRuns 1 = .ok (.istore_n 3, 1) := by decide +kernel
theorem dX3_readRuns_2 : decode cX3_readRuns 2 = .ok (.iload_n 2, 1) := by decide +kernel
theorem dX3_readRuns_3 : decode cX3_readRuns 3 = .ok (.istore 4, 2) := by decide +kernel
theorem dX3_readRuns_5 : decode cX3_readRuns 5 = .ok (.iload 4, 2) := by decide +kernel
theorem dX3_readRuns_7 : decode cX3_readRuns 7 = .ok (.aload_n 0, 1) := by decide +kernel
theorem dX3_readRuns_8 : decode cX3_readRuns 8 = .ok (.getfield 19, 3) := by decide +kernel
theorem dX3_readRuns_11 : decode cX3_readRuns 11 = .ok (.if_icmp .ge 56, 3) := by decide +kernel
theorem dX3_readRuns_14 : decode cX3_readRuns 14 = .ok (.aload_n 0, 1) := by decide +kernel
theorem dX3_readRuns_15 : decode cX3_readRuns 15 = .ok (.iload 4, 2) := by decide +kernel
theorem dX3_readRuns_17 : decode cX3_readRuns 17 = .ok (.aload_n 1, 1) := by decide +kernel
theorem dX3_readRuns_18 : decode cX3_readRuns 18 = .ok (.invokevirtual 29, 3) := by decide +kernel
theorem dX3_readRuns_21 : decode cX3_readRuns 21 = .ok (.istore 5, 2) := by decide +kernel
theorem dX3_readRuns_23 : decode cX3_readRuns 23 = .ok (.aload_n 0, 1) := by decide +kernel
theorem dX3_readRuns_24 : decode cX3_readRuns 24 = .ok (.iload 4, 2) := by decide +kernel
theorem dX3_readRuns_26 : decode cX3_readRuns 26 = .ok (.iconst 1, 1) := by decide +kernel
theorem dX3_readRuns_27 : decode cX3_readRuns 27 = .ok (.iadd, 1) := by decide +kernel
theorem dX3_readRuns_28 : decode cX3_readRuns 28 = .ok (.invokevirtual 33, 3) := by decide +kernel
theorem dX3_readRuns_31 : decode cX3_readRuns 31 = .ok (.istore 6, 2) := by decide +kernel
theorem dX3_readRuns_33 : decode cX3_readRuns 33 = .ok (.iload 6, 2) := by decide +kernel
theorem dX3_readRuns_35 : decode cX3_readRuns 35 = .ok (.ifCond .le 26, 3) := by decide +kernel
theorem dX3_readRuns_38 : decode cX3_readRuns 38 = .ok (.iload_n 3, 1) := by decide +kernel
theorem dX3_readRuns_39 : decode cX3_readRuns 39 = .ok (.bipush 24, 2) := by decide +kernel
theorem dX3_readRuns_41 : decode cX3_readRuns 41 = .ok (.if_icmp .ge 20, 3) := by decide +kernel
theorem dX3_readRuns_44 : decode cX3_readRuns 44 = .ok (.aload_n 0, 1) := by decide +kernel
theorem dX3_readRuns_45 : decode cX3_readRuns 45 = .ok (.getfield 15, 3) := by decide +kernel
theorem dX3_readRuns_48 : decode cX3_readRuns 48 = .ok (.iload_n 3, 1) := by decide +kernel
theorem dX3_readRuns_49 : decode cX3_readRuns 49 = .ok (.iload 5, 2) := by decide +kernel
theorem dX3_readRuns_51 : decode cX3_readRuns 51 = .ok (.iastore, 1) := by decide +kernel
theorem dX3_readRuns_52 : decode cX3_readRuns 52 = .ok (.iinc 3 1, 3) := by decide +kernel
theorem dX3_readRuns_55 : decode cX3_readRuns 55 = .ok (.iinc 6 (-1), 3) := by decide +kernel
theorem dX3_readRuns_58 : decode cX3_readRuns 58 = .ok (.goto (-25), 3) := by decide +kernel
theorem dX3_readRuns_61 : decode cX3_readRuns 61 = .ok (.iinc 4 2, 3) := by decide +kernel
theorem dX3_readRuns_64 : decode cX3_readRuns 64 = .ok (.goto (-59), 3) := by decide +kernel
theorem dX3_readRuns_67 : decode cX3_readRuns 67 = .ok (.aload_n 0, 1) := by decide +kernel
theorem dX3_readRuns_68 : decode cX3_readRuns 68 = .ok (.getfield 15, 3) := by decide +kernel
theorem dX3_readRuns_71 : decode cX3_readRuns 71 = .ok (.areturn, 1) := by decide +kernel
theorem dJ6_bitCount_0f7a4_0 : decode cJ6_bitCount_0f7a4 0 = .ok (.iload_n 0, 1) := by decide +kernel
theorem dJ6_bitCount_0f7a4_1 : decode cJ6_bitCount_0f7a4 1 = .ok (.iload_n 0, 1) := by decide +kernel
theorem dJ6_bitCount_0f7a4_2 : decode cJ6_bitCount_0f7a4 2 = .ok (.iconst 1, 1) := by decide +kernel
theorem dJ6_bitCount_0f7a4_3 : decode cJ6_bitCount_0f7a4 3 = .ok (.iushr, 1) := by decide +kernel
theorem dJ6_bitCount_0f7a4_4 : decode cJ6_bitCount_0f7a4 4 = .ok (.ldc_w 265, 3) := by decide +kernel
theorem dJ6_bitCount_0f7a4_7 : decode cJ6_bitCount_0f7a4 7 = .ok (.iand, 1) := by decide +kernel
theorem dJ6_bitCount_0f7a4_8 : decode cJ6_bitCount_0f7a4 8 = .ok (.isub, 1) := by decide +kernel
theorem dJ6_bitCount_0f7a4_9 : decode cJ6_bitCount_0f7a4 9 = .ok (.istore_n 0, 1) := by decide +kernel
theorem dJ6_bitCount_0f7a4_10 : decode cJ6_bitCount_0f7a4 10 = .ok (.iload_n 0, 1) := by decide +kernel
theorem dJ6_bitCount_0f7a4_11 : decode cJ6_bitCount_0f7a4 11 = .ok (.ldc_w 266, 3) := by decide +kernel
theorem dJ6_bitCount_0f7a4_14 : decode cJ6_bitCount_0f7a4 14 = .ok (.iand, 1) := by decide +kernel
theorem dJ6_bitCount_0f7a4_15 : decode cJ6_bitCount_0f7a4 15 = .ok (.iload_n 0, 1) := by decide +kernel
theorem dJ6_bitCount_0f7a4_16 : decode cJ6_bitCount_0f7a4 16 = .ok (.iconst 2, 1) := by decide +kernel
theorem dJ6_bitCount_0f7a4_17 : decode cJ6_bitCount_0f7a4 17 = .ok (.iushr, 1) := by decide +kernel
theorem dJ6_bitCount_0f7a4_18 : decode cJ6_bitCount_0f7a4 18 = .ok (.ldc_w 266, 3) := by decide +kernel
theorem dJ6_bitCount_0f7a4_21 : decode cJ6_bitCount_0f7a4 21 = .ok (.iand, 1) := by decide +kernel
theorem dJ6_bitCount_0f7a4_22 : decode cJ6_bitCount_0f7a4 22 = .ok (.iadd, 1) := by decide +kernel
theorem dJ6_bitCount_0f7a4_23 : decode cJ6_bitCount_0f7a4 23 = .ok (.istore_n 0, 1) := by decide +kernel
theorem dJ6_bitCount_0f7a4_24 : decode cJ6_bitCount_0f7a4 24 = .ok (.iload_n 0, 1) := by decide +kernel
theorem dJ6_bitCount_0f7a4_25 : decode cJ6_bitCount_0f7a4 25 = .ok (.iload_n 0, 1) := by decide +kernel
theorem dJ6_bitCount_0f7a4_26 : decode cJ6_bitCount_0f7a4 26 = .ok (.iconst 4, 1) := by decide +kernel
theorem dJ6_bitCount_0f7a4_27 : decode cJ6_bitCount_0f7a4 27 = .ok (.iushr, 1) := by decide +kernel
theorem dJ6_bitCount_0f7a4_28 : decode cJ6_bitCount_0f7a4 28 = .ok (.iadd, 1) := by decide +kernel
theorem dJ6_bitCount_0f7a4_29 : decode cJ6_bitCount_0f7a4 29 = .ok (.ldc_w 267, 3) := by decide +kernel
theorem dJ6_bitCount_0f7a4_32 : decode cJ6_bitCount_0f7a4 32 = .ok (.iand, 1) := by decide +kernel
theorem dJ6_bitCount_0f7a4_33 : decode cJ6_bitCount_0f7a4 33 = .ok (.istore_n 0, 1) := by decide +kernel
theorem dJ6_bitCount_0f7a4_34 : decode cJ6_bitCount_0f7a4 34 = .ok (.iload_n 0, 1) := by decide +kernel
theorem dJ6_bitCount_0f7a4_35 : decode cJ6_bitCount_0f7a4 35 = .ok (.iload_n 0, 1) := by decide +kernel
theorem dJ6_bitCount_0f7a4_36 : decode cJ6_bitCount_0f7a4 36 = .ok (.bipush 8, 2) := by decide +kernel
theorem dJ6_bitCount_0f7a4_38 : decode cJ6_bitCount_0f7a4 38 = .ok (.iushr, 1) := by decide +kernel
theorem dJ6_bitCount_0f7a4_39 : decode cJ6_bitCount_0f7a4 39 = .ok (.iadd, 1) := by decide +kernel
theorem dJ6_bitCount_0f7a4_40 : decode cJ6_bitCount_0f7a4 40 = .ok (.istore_n 0, 1) := by decide +kernel
theorem dJ6_bitCount_0f7a4_41 : decode cJ6_bitCount_0f7a4 41 = .ok (.iload_n 0, 1) := by decide +kernel
theorem dJ6_bitCount_0f7a4_42 : decode cJ6_bitCount_0f7a4 42 = .ok (.iload_n 0, 1) := by decide +kernel
theorem dJ6_bitCount_0f7a4_43 : decode cJ6_bitCount_0f7a4 43 = .ok (.bipush 16, 2) := by decide +kernel
theorem dJ6_bitCount_0f7a4_45 : decode cJ6_bitCount_0f7a4 45 = .ok (.iushr, 1) := by decide +kernel
theorem dJ6_bitCount_0f7a4_46 : decode cJ6_bitCount_0f7a4 46 = .ok (.iadd, 1) := by decide +kernel
theorem dJ6_bitCount_0f7a4_47 : decode cJ6_bitCount_0f7a4 47 = .ok (.istore_n 0, 1) := by decide +kernel
theorem dJ6_bitCount_0f7a4_48 : decode cJ6_bitCount_0f7a4 48 = .ok (.iload_n 0, 1) := by decide +kernel
theorem dJ6_bitCount_0f7a4_49 : decode cJ6_bitCount_0f7a4 49 = .ok (.bipush 63, 2) := by decide +kernel
theorem dJ6_bitCount_0f7a4_51 : decode cJ6_bitCount_0f7a4 51 = .ok (.iand, 1) := by decide +kernel
theorem dJ6_bitCount_0f7a4_52 : decode cJ6_bitCount_0f7a4 52 = .ok (.ireturn, 1) := by decide +kernel
theorem dJ0_length_8abf5_0 : decode cJ0_length_8abf5 0 = .ok (.aload_n 0, 1) := by decide +kernel
theorem dJ0_length_8abf5_1 : decode cJ0_length_8abf5 1 = .ok (.getfield 9, 3) := by decide +kernel
theorem dJ0_length_8abf5_4 : decode cJ0_length_8abf5 4 = .ok (.arraylength, 1) := by decide +kernel
theorem dJ0_length_8abf5_5 : decode cJ0_length_8abf5 5 = .ok (.aload_n 0, 1) := by decide +kernel
theorem dJ0_length_8abf5_6 : decode cJ0_length_8abf5 6 = .ok (.invokevirtual 335, 3) := by decide +kernel
theorem dJ0_length_8abf5_9 : decode cJ0_length_8abf5 9 = .ok (.ishr, 1) := by decide +kernel
theorem dJ0_length_8abf5_10 : decode cJ0_length_8abf5 10 = .ok (.ireturn, 1) := by decide +kernel
theorem dJ0_charAt_5068e_0 : decode cJ0_charAt_5068e 0 = .ok (.aload_n 0, 1) := by decide +kernel
theorem dJ0_charAt_5068e_1 : decode cJ0_charAt_5068e 1 = .ok (.invokevirtual 492, 3) := by decide +kernel
theorem dJ0_charAt_5068e_4 : decode cJ0_charAt_5068e 4 = .ok (.ifCond .eq 12, 3) := by decide +kernel
theorem dJ0_charAt_5068e_7 : decode cJ0_charAt_5068e 7 = .ok (.aload_n 0, 1) := by decide +kernel
theorem dJ0_charAt_5068e_8 : decode cJ0_charAt_5068e 8 = .ok (.getfield 9, 3) := by decide +kernel
theorem dJ0_charAt_5068e_11 : decode cJ0_charAt_5068e 11 = .ok (.iload_n 1, 1) := by decide +kernel
theorem dJ0_charAt_5068e_12 : decode cJ0_charAt_5068e 12 = .ok (.invokestatic 495, 3) := by decide +kernel
theorem dJ0_charAt_5068e_15 : decode cJ0_charAt_5068e 15 = .ok (.ireturn, 1) := by decide +kernel
theorem dJ0_charAt_5068e_16 : decode cJ0_charAt_5068e 16 = .ok (.aload_n 0, 1) := by decide +kernel
theorem dJ0_charAt_5068e_17 : decode cJ0_charAt_5068e 17 = .ok (.getfield 9, 3) := by decide +kernel
theorem dJ0_charAt_5068e_20 : decode cJ0_charAt_5068e 20 = .ok (.iload_n 1, 1) := by decide +kernel
theorem dJ0_charAt_5068e_21 : decode cJ0_charAt_5068e 21 = .ok (.invokestatic 498, 3) := by decide +kernel
theorem dJ0_charAt_5068e_24 : decode cJ0_charAt_5068e 24 = .ok (.ireturn, 1) := by decide +kernel
theorem dJ0_indexOf_0f7a4_0 : decode cJ0_indexOf_0f7a4 0 = .ok (.aload_n 0, 1) := by decide +kernel
theorem dJ0_indexOf_0f7a4_1 : decode cJ0_indexOf_0f7a4 1 = .ok (.iload_n 1, 1) := by decide +kernel
theorem dJ0_indexOf_0f7a4_2 : decode cJ0_indexOf_0f7a4 2 = .ok (.iconst 0, 1) := by decide +kernel
theorem dJ0_indexOf_0f7a4_3 : decode cJ0_indexOf_0f7a4 3 = .ok (.invokevirtual 633, 3) := by decide +kernel
theorem dJ0_indexOf_0f7a4_6 : decode cJ0_indexOf_0f7a4 6 = .ok (.ireturn, 1) := by decide +kernel
theorem dJ0_indexOf_7cf53_0 : decode cJ0_indexOf_7cf53 0 = .ok (.aload_n 0, 1) := by decide +kernel
theorem dJ0_indexOf_7cf53_1 : decode cJ0_indexOf_7cf53 1 = .ok (.invokevirtual 492, 3) := by decide +kernel
theorem dJ0_indexOf_7cf53_4 : decode cJ0_indexOf_7cf53 4 = .ok (.ifCond .eq 19, 3) := by decide +kernel
theorem dJ0_indexOf_7cf53_7 : decode cJ0_indexOf_7cf53 7 = .ok (.aload_n 0, 1) := by decide +kernel
theorem dJ0_indexOf_7cf53_8 : decode cJ0_indexOf_7cf53 8 = .ok (.getfield 9, 3) := by decide +kernel
theorem dJ0_indexOf_7cf53_11 : decode cJ0_indexOf_7cf53 11 = .ok (.iload_n 1, 1) := by decide +kernel
theorem dJ0_indexOf_7cf53_12 : decode cJ0_indexOf_7cf53 12 = .ok (.iload_n 2, 1) := by decide +kernel
theorem dJ0_indexOf_7cf53_13 : decode cJ0_indexOf_7cf53 13 = .ok (.aload_n 0, 1) := by decide +kernel
theorem dJ0_indexOf_7cf53_14 : decode cJ0_indexOf_7cf53 14 = .ok (.invokevirtual 505, 3) := by decide +kernel
theorem dJ0_indexOf_7cf53_17 : decode cJ0_indexOf_7cf53 17 = .ok (.invokestatic 637, 3) := by decide +kernel
theorem dJ0_indexOf_7cf53_20 : decode cJ0_indexOf_7cf53 20 = .ok (.goto 16, 3) := by decide +kernel
theorem dJ0_indexOf_7cf53_23 : decode cJ0_indexOf_7cf53 23 = .ok (.aload_n 0, 1) := by decide +kernel
theorem dJ0_indexOf_7cf53_24 : decode cJ0_indexOf_7cf53 24 = .ok (.getfield 9, 3) := by decide +kernel
theorem dJ0_indexOf_7cf53_27 : decode cJ0_indexOf_7cf53 27 = .ok (.iload_n 1, 1) := by decide +kernel
theorem dJ0_indexOf_7cf53_28 : decode cJ0_indexOf_7cf53 28 = .ok (.iload_n 2, 1) := by decide +kernel
theorem dJ0_indexOf_7cf53_29 : decode cJ0_indexOf_7cf53 29 = .ok (.aload_n 0, 1) := by decide +kernel
theorem dJ0_indexOf_7cf53_30 : decode cJ0_indexOf_7cf53 30 = .ok (.invokevirtual 505, 3) := by decide +kernel
theorem dJ0_indexOf_7cf53_33 : decode cJ0_indexOf_7cf53 33 = .ok (.invokestatic 640, 3) := by decide +kernel
theorem dJ0_indexOf_7cf53_36 : decode cJ0_indexOf_7cf53 36 = .ok (.ireturn, 1) := by decide +kernel
theorem dJ0_coder_7d493_0 : decode cJ0_coder_7d493 0 = .ok (.getstatic 38, 3) := by decide +kernel
theorem dJ0_coder_7d493_3 : decode cJ0_coder_7d493 3 = .ok (.ifCond .eq 10, 3) := by decide +kernel
theorem dJ0_coder_7d493_6 : decode cJ0_coder_7d493 6 = .ok (.aload_n 0, 1) := by decide +kernel
theorem dJ0_coder_7d493_7 : decode cJ0_coder_7d493 7 = .ok (.getfield 15, 3) := by decide +kernel
theorem dJ0_coder_7d493_10 : decode cJ0_coder_7d493 10 = .ok (.goto 4, 3) := by decide +kernel
theorem dJ0_coder_7d493_13 : decode cJ0_coder_7d493 13 = .ok (.iconst 1, 1) := by decide +kernel
theorem dJ0_coder_7d493_14 : decode cJ0_coder_7d493 14 = .ok (.ireturn, 1) := by decide +kernel
theorem dJ0_isLatin1_aae02_0 : decode cJ0_isLatin1_aae02 0 = .ok (.getstatic 38, 3) := by decide +kernel
theorem dJ0_isLatin1_aae02_3 : decode cJ0_isLatin1_aae02 3 = .ok (.ifCond .eq 14, 3) := by decide +kernel
theorem dJ0_isLatin1_aae02_6 : decode cJ0_isLatin1_aae02 6 = .ok (.aload_n 0, 1) := by decide +kernel
theorem dJ0_isLatin1_aae02_7 : decode cJ0_isLatin1_aae02 7 = .ok (.getfield 15, 3) := by decide +kernel
theorem dJ0_isLatin1_aae02_10 : decode cJ0_isLatin1_aae02 10 = .ok (.ifCond .ne 7, 3) := by decide +kernel
theorem dJ0_isLatin1_aae02_13 : decode cJ0_isLatin1_aae02 13 = .ok (.iconst 1, 1) := by decide +kernel
theorem dJ0_isLatin1_aae02_14 : decode cJ0_isLatin1_aae02 14 = .ok (.goto 4, 3) := by decide +kernel
theorem dJ0_isLatin1_aae02_17 : decode cJ0_isLatin1_aae02 17 = .ok (.iconst 0, 1) := by decide +kernel
theorem dJ0_isLatin1_aae02_18 : decode cJ0_isLatin1_aae02 18 = .ok (.ireturn, 1) := by decide +kernel
theorem dJ0_checkIndex_df160_0 : decode cJ0_checkIndex_df160 0 = .ok (.iload_n 0, 1) := by decide +kernel
theorem dJ0_checkIndex_df160_1 : decode cJ0_checkIndex_df160 1 = .ok (.iload_n 1, 1) := by decide +kernel
theorem dJ0_checkIndex_df160_2 : decode cJ0_checkIndex_df160 2 = .ok (.getstatic 1053, 3) := by decide +kernel
theorem dJ0_checkIndex_df160_5 : decode cJ0_checkIndex_df160 5 = .ok (.invokestatic 1059, 3) := by decide +kernel
theorem dJ0_checkIndex_df160_8 : decode cJ0_checkIndex_df160 8 = .ok (.pop, 1) := by decide +kernel
theorem dJ0_checkIndex_df160_9 : decode cJ0_checkIndex_df160 9 = .ok (.return_, 1) := by decide +kernel
theorem dJ0_checkBoundsBeginEnd_23922_0 : decode cJ0_checkBoundsBeginEnd_23922 0 = .ok (.iload_n 0, 1) := by decide +kernel
theorem dJ0_checkBoundsBeginEnd_23922_1 : decode cJ0_checkBoundsBeginEnd_23922 1 = .ok (.iload_n 1, 1) := by decide +kernel
theorem dJ0_checkBoundsBeginEnd_23922_2 : decode cJ0_checkBoundsBeginEnd_23922 2 = .ok (.iload_n 2, 1) := by decide +kernel
theorem dJ0_checkBoundsBeginEnd_23922_3 : decode cJ0_checkBoundsBeginEnd_23922 3 = .ok (.getstatic 1053, 3) := by decide +kernel
theorem dJ0_checkBoundsBeginEnd_23922_6 : decode cJ0_checkBoundsBeginEnd_23922 6 = .ok (.invokestatic 1062, 3) := by decide +kernel
theorem dJ0_checkBoundsBeginEnd_23922_9 : decode cJ0_checkBoundsBeginEnd_23922 9 = .ok (.pop, 1) := by decide +kernel
theorem dJ0_checkBoundsBeginEnd_23922_10 : decode cJ0_checkBoundsBeginEnd_23922 10 = .ok (.return_, 1) := by decide +kernel
theorem dJ1_charAt_3b067_0 : decode cJ1_charAt_3b067 0 = .ok (.iload_n 1, 1) := by decide +kernel
theorem dJ1_charAt_3b067_1 : decode cJ1_charAt_3b067 1 = .ok (.aload_n 0, 1) := by decide +kernel
theorem dJ1_charAt_3b067_2 : decode cJ1_charAt_3b067 2 = .ok (.arraylength, 1) := by decide +kernel
theorem dJ1_charAt_3b067_3 : decode cJ1_charAt_3b067 3 = .ok (.invokestatic 9, 3) := by decide +kernel
theorem dJ1_charAt_3b067_6 : decode cJ1_charAt_3b067 6 = .ok (.aload_n 0, 1) := by decide +kernel
theorem dJ1_charAt_3b067_7 : decode cJ1_charAt_3b067 7 = .ok (.iload_n 1, 1) := by decide +kernel
theorem dJ1_charAt_3b067_8 : decode cJ1_charAt_3b067 8 = .ok (.baload, 1) := by decide +kernel
theorem dJ1_charAt_3b067_9 : decode cJ1_charAt_3b067 9 = .ok (.sipush 255, 3) := by decide +kernel
theorem dJ1_charAt_3b067_12 : decode cJ1_charAt_3b067 12 = .ok (.iand, 1) := by decide +kernel
theorem dJ1_charAt_3b067_13 : decode cJ1_charAt_3b067 13 = .ok (.i2c, 1) := by decide +kernel
theorem dJ1_charAt_3b067_14 : decode cJ1_charAt_3b067 14 = .ok (.ireturn, 1) := by decide +kernel
theorem dJ1_canEncode_9a6ad_0 : decode cJ1_canEncode_9a6ad 0 = .ok (.iload_n 0, 1) := by decide +kernel
theorem dJ1_canEncode_9a6ad_1 : decode cJ1_canEncode_9a6ad 1 = .ok (.ifCond .lt 14, 3) := by decide +kernel
theorem dJ1_canEncode_9a6ad_4 : decode cJ1_canEncode_9a6ad 4 = .ok (.iload_n 0, 1) := by decide +kernel
theorem dJ1_canEncode_9a6ad_5 : decode cJ1_canEncode_9a6ad 5 = .ok (.sipush 255, 3) := by decide +kernel
theorem dJ1_canEncode_9a6ad_8 : decode cJ1_canEncode_9a6ad 8 = .ok (.if_icmp .gt 7, 3) := by decide +kernel
theorem dJ1_canEncode_9a6ad_11 : decode cJ1_canEncode_9a6ad 11 = .ok (.iconst 1, 1) := by decide +kernel
theorem dJ1_canEncode_9a6ad_12 : decode cJ1_canEncode_9a6ad 12 = .ok (.goto 4, 3) := by decide +kernel
theorem dJ1_canEncode_9a6ad_15 : decode cJ1_canEncode_9a6ad 15 = .ok (.iconst 0, 1) := by decide +kernel
theorem dJ1_canEncode_9a6ad_16 : decode cJ1_canEncode_9a6ad 16 = .ok (.ireturn, 1) := by decide +kernel
theorem dJ1_indexOf_4cfef_0 : decode cJ1_indexOf_4cfef 0 = .ok (.iload_n 1, 1) := by decide +kernel
theorem dJ1_indexOf_4cfef_1 : decode cJ1_indexOf_4cfef 1 = .ok (.invokestatic 88, 3) := by decide +kernel
theorem dJ1_indexOf_4cfef_4 : decode cJ1_indexOf_4cfef 4 = .ok (.ifCond .ne 5, 3) := by decide +kernel
theorem dJ1_indexOf_4cfef_7 : decode cJ1_indexOf_4cfef 7 = .ok (.iconst (-1), 1) := by decide +kernel
theorem dJ1_indexOf_4cfef_8 : decode cJ1_indexOf_4cfef 8 = .ok (.ireturn, 1) := by decide +kernel
theorem dJ1_indexOf_4cfef_9 : decode cJ1_indexOf_4cfef 9 = .ok (.iload_n 2, 1) := by decide +kernel
theorem dJ1_indexOf_4cfef_10 : decode cJ1_indexOf_4cfef 10 = .ok (.iconst 0, 1) := by decide +kernel
theorem dJ1_indexOf_4cfef_11 : decode cJ1_indexOf_4cfef 11 = .ok (.invokestatic 92, 3) := by decide +kernel
theorem dJ1_indexOf_4cfef_14 : decode cJ1_indexOf_4cfef 14 = .ok (.istore_n 2, 1) := by decide +kernel
theorem dJ1_indexOf_4cfef_15 : decode cJ1_indexOf_4cfef 15 = .ok (.iload_n 3, 1) := by decide +kernel
theorem dJ1_indexOf_4cfef_16 : decode cJ1_indexOf_4cfef 16 = .ok (.aload_n 0, 1) := by decide +kernel
theorem dJ1_indexOf_4cfef_17 : decode cJ1_indexOf_4cfef 17 = .ok (.arraylength, 1) := by decide +kernel
theorem dJ1_indexOf_4cfef_18 : decode cJ1_indexOf_4cfef 18 = .ok (.invokestatic 38, 3) := by decide +kernel
theorem dJ1_indexOf_4cfef_21 : decode cJ1_indexOf_4cfef 21 = .ok (.istore_n 3, 1) := by decide +kernel
theorem dJ1_indexOf_4cfef_22 : decode cJ1_indexOf_4cfef 22 = .ok (.iload_n 2, 1) := by decide +kernel
theorem dJ1_indexOf_4cfef_23 : decode cJ1_indexOf_4cfef 23 = .ok (.iload_n 3, 1) := by decide +kernel
theorem dJ1_indexOf_4cfef_24 : decode cJ1_indexOf_4cfef 24 = .ok (.if_icmp .lt 5, 3) := by decide +kernel
theorem dJ1_indexOf_4cfef_27 : decode cJ1_indexOf_4cfef 27 = .ok (.iconst (-1), 1) := by decide +kernel
theorem dJ1_indexOf_4cfef_28 : decode cJ1_indexOf_4cfef 28 = .ok (.ireturn, 1) := by decide +kernel
theorem dJ1_indexOf_4cfef_29 : decode cJ1_indexOf_4cfef 29 = .ok (.aload_n 0, 1) := by decide +kernel
theorem dJ1_indexOf_4cfef_30 : decode cJ1_indexOf_4cfef 30 = .ok (.iload_n 1, 1) := by decide +kernel
theorem dJ1_indexOf_4cfef_31 : decode cJ1_indexOf_4cfef 31 = .ok (.iload_n 2, 1) := by decide +kernel
theorem dJ1_indexOf_4cfef_32 : decode cJ1_indexOf_4cfef 32 = .ok (.iload_n 3, 1) := by decide +kernel
theorem dJ1_indexOf_4cfef_33 : decode cJ1_indexOf_4cfef 33 = .ok (.invokestatic 95, 3) := by decide +kernel
theorem dJ1_indexOf_4cfef_36 : decode cJ1_indexOf_4cfef 36 = .ok (.ireturn, 1) := by decide +kernel
theorem dJ1_indexOfChar_4cfef_0 : decode cJ1_indexOfChar_4cfef 0 = .ok (.iload_n 1, 1) := by decide +kernel
theorem dJ1_indexOfChar_4cfef_1 : decode cJ1_indexOfChar_4cfef 1 = .ok (.i2b, 1) := by decide +kernel
theorem dJ1_indexOfChar_4cfef_2 : decode cJ1_indexOfChar_4cfef 2 = .ok (.istore 4, 2) := by decide +kernel
theorem dJ1_indexOfChar_4cfef_4 : decode cJ1_indexOfChar_4cfef 4 = .ok (.iload_n 2, 1) := by decide +kernel
theorem dJ1_indexOfChar_4cfef_5 : decode cJ1_indexOfChar_4cfef 5 = .ok (.istore 5, 2) := by decide +kernel
theorem dJ1_indexOfChar_4cfef_7 : decode cJ1_indexOfChar_4cfef 7 = .ok (.iload 5, 2) := by decide +kernel
theorem dJ1_indexOfChar_4cfef_9 : decode cJ1_indexOfChar_4cfef 9 = .ok (.iload_n 3, 1) := by decide +kernel
theorem dJ1_indexOfChar_4cfef_10 : decode cJ1_indexOfChar_4cfef 10 = .ok (.if_icmp .ge 21, 3) := by decide +kernel
theorem dJ1_indexOfChar_4cfef_13 : decode cJ1_indexOfChar_4cfef 13 = .ok (.aload_n 0, 1) := by decide +kernel
theorem dJ1_indexOfChar_4cfef_14 : decode cJ1_indexOfChar_4cfef 14 = .ok (.iload 5, 2) := by decide +kernel
theorem dJ1_indexOfChar_4cfef_16 : decode cJ1_indexOfChar_4cfef 16 = .ok (.baload, 1) := by decide +kernel
theorem dJ1_indexOfChar_4cfef_17 : decode cJ1_indexOfChar_4cfef 17 = .ok (.iload 4, 2) := by decide +kernel
theorem dJ1_indexOfChar_4cfef_19 : decode cJ1_indexOfChar_4cfef 19 = .ok (.if_icmp .ne 6, 3) := by decide +kernel
theorem dJ1_indexOfChar_4cfef_22 : decode cJ1_indexOfChar_4cfef 22 = .ok (.iload 5, 2) := by decide +kernel
theorem dJ1_indexOfChar_4cfef_24 : decode cJ1_indexOfChar_4cfef 24 = .ok (.ireturn, 1) := by decide +kernel
theorem dJ1_indexOfChar_4cfef_25 : decode cJ1_indexOfChar_4cfef 25 = .ok (.iinc 5 1, 3) := by decide +kernel
theorem dJ1_indexOfChar_4cfef_28 : decode cJ1_indexOfChar_4cfef 28 = .ok (.goto (-21), 3) := by decide +kernel
theorem dJ1_indexOfChar_4cfef_31 : decode cJ1_indexOfChar_4cfef 31 = .ok (.iconst (-1), 1) := by decide +kernel
theorem dJ1_indexOfChar_4cfef_32 : decode cJ1_indexOfChar_4cfef 32 = .ok (.ireturn, 1) := by decide +kernel
theorem dJ3_checkIndex_8e157_0 : decode cJ3_checkIndex_8e157 0 = .ok (.iload_n 0, 1) := by decide +kernel
theorem dJ3_checkIndex_8e157_1 : decode cJ3_checkIndex_8e157 1 = .ok (.ifCond .lt 8, 3) := by decide +kernel
theorem dJ3_checkIndex_8e157_4 : decode cJ3_checkIndex_8e157 4 = .ok (.iload_n 0, 1) := by decide +kernel
theorem dJ3_checkIndex_8e157_5 : decode cJ3_checkIndex_8e157 5 = .ok (.iload_n 1, 1) := by decide +kernel
theorem dJ3_checkIndex_8e157_6 : decode cJ3_checkIndex_8e157 6 = .ok (.if_icmp .lt 10, 3) := by decide +kernel
theorem dJ3_checkIndex_8e157_9 : decode cJ3_checkIndex_8e157 9 = .ok (.aload_n 2, 1) := by decide +kernel
theorem dJ3_checkIndex_8e157_10 : decode cJ3_checkIndex_8e157 10 = .ok (.iload_n 0, 1) := by decide +kernel
theorem dJ3_checkIndex_8e157_11 : decode cJ3_checkIndex_8e157 11 = .ok (.iload_n 1, 1) := by decide +kernel
theorem dJ3_checkIndex_8e157_12 : decode cJ3_checkIndex_8e157 12 = .ok (.invokestatic 95, 3) := by decide +kernel
theorem dJ3_checkIndex_8e157_15 : decode cJ3_checkIndex_8e157 15 = .ok (.athrow, 1) := by decide +kernel
theorem dJ3_checkIndex_8e157_16 : decode cJ3_checkIndex_8e157 16 = .ok (.iload_n 0, 1) := by decide +kernel
theorem dJ3_checkIndex_8e157_17 : decode cJ3_checkIndex_8e157 17 = .ok (.ireturn, 1) := by decide +kernel
theorem dJ3_checkFromToIndex_8c36e_0 : decode cJ3_checkFromToIndex_8c36e 0 = .ok (.iload_n 0, 1) := by decide +kernel
theorem dJ3_checkFromToIndex_8c36e_1 : decode cJ3_checkFromToIndex_8c36e 1 = .ok (.ifCond .lt 13, 3) := by decide +kernel
theorem dJ3_checkFromToIndex_8c36e_4 : decode cJ3_checkFromToIndex_8c36e 4 = .ok (.iload_n 0, 1) := by decide +kernel
theorem dJ3_checkFromToIndex_8c36e_5 : decode cJ3_checkFromToIndex_8c36e 5 = .ok (.iload_n 1, 1) := by decide +kernel
theorem dJ3_checkFromToIndex_8c36e_6 : decode cJ3_checkFromToIndex_8c36e 6 = .ok (.if_icmp .gt 8, 3) := by decide +kernel
theorem dJ3_checkFromToIndex_8c36e_9 : decode cJ3_checkFromToIndex_8c36e 9 = .ok (.iload_n 1, 1) := by decide +kernel
theorem dJ3_checkFromToIndex_8c36e_10 : decode cJ3_checkFromToIndex_8c36e 10 = .ok (.iload_n 2, 1) := by decide +kernel
theorem dJ3_checkFromToIndex_8c36e_11 : decode cJ3_checkFromToIndex_8c36e 11 = .ok (.if_icmp .le 11, 3) := by decide +kernel
theorem dJ3_checkFromToIndex_8c36e_14 : decode cJ3_checkFromToIndex_8c36e 14 = .ok (.aload_n 3, 1) := by decide +kernel
theorem dJ3_checkFromToIndex_8c36e_15 : decode cJ3_checkFromToIndex_8c36e 15 = .ok (.iload_n 0, 1) := by decide +kernel
theorem dJ3_checkFromToIndex_8c36e_16 : decode cJ3_checkFromToIndex_8c36e 16 = .ok (.iload_n 1, 1) := by decide +kernel
theorem dJ3_checkFromToIndex_8c36e_17 : decode cJ3_checkFromToIndex_8c36e 17 = .ok (.iload_n 2, 1) := by decide +kernel
theorem dJ3_checkFromToIndex_8c36e_18 : decode cJ3_checkFromToIndex_8c36e 18 = .ok (.invokestatic 99, 3) := by decide +kernel
theorem dJ3_checkFromToIndex_8c36e_21 : decode cJ3_checkFromToIndex_8c36e 21 = .ok (.athrow, 1) := by decide +kernel
theorem dJ3_checkFromToIndex_8c36e_22 : decode cJ3_checkFromToIndex_8c36e 22 = .ok (.iload_n 0, 1) := by decide +kernel
theorem dJ3_checkFromToIndex_8c36e_23 : decode cJ3_checkFromToIndex_8c36e 23 = .ok (.ireturn, 1) := by decide +kernel
set_option maxRecDepth 20000 in
theorem ggX0_answer_X0_isFound : GoodIn wsX0_answer wsX0_isFound := goodIn_r _ [10, 2, 11, 12, 13, 14, 15, 16, 17, 18, 19] rfl (by decide +kernel)
set_option maxRecDepth 20000 in
theorem gX0_answer_X0_isFound : GoodIn wsX0_answer (wsV RX0 41 RX0 yX0_isFound wsX0_isFound) := goodIn_app (goodIn_of _ (by decide +kernel)) ggX0_answer_X0_isFound
set_option maxRecDepth 20000 in
theorem ggX0_searchAmong_X0_sumUp : GoodIn wsX0_searchAmong wsX0_sumUp := goodIn_r _ [13, 14, 15, 16, 17, 18, 19, 20, 21, 22, 23, 24, 25, 75, 76, 77, 78, 79, 80, 81, 82, 83, 84, 85, 86, 87, 88, 89] rfl (by decide +kernel)
set_option maxRecDepth 20000 in
theorem gX0_searchAmong_X0_sumUp : GoodIn wsX0_searchAmong (wsV RX0 45 RX0 yX0_sumUp wsX0_sumUp) := goodIn_app (goodIn_of _ (by decide +kernel)) ggX0_searchAmong_X0_sumUp
set_option maxRecDepth 20000 in
theorem ggX0_searchAmong_X0_isSettled : GoodIn wsX0_searchAmong wsX0_isSettled := goodIn_r _ [29, 30, 31, 32, 33, 12, 34, 2, 75, 76, 77, 78, 79, 80, 81, 82, 83] rfl (by decide +kernel)
set_option maxRecDepth 20000 in
theorem gX0_searchAmong_X0_isSettled : GoodIn wsX0_searchAmong (wsV RX0 49 RX0 yX0_isSettled wsX0_isSettled) := goodIn_app (goodIn_of _ (by decide +kernel)) ggX0_searchAmong_X0_isSettled
set_option maxRecDepth 20000 in
theorem ggX0_searchAmong_X0_firstArcOfNoUse : GoodIn wsX0_searchAmong wsX0_firstArcOfNoUse := goodIn_r _ [38, 1, 39, 40, 41, 12, 42, 3, 14, 43, 44, 45, 46, 47, 30, 2, 75, 76, 77, 78, 79, 80, 81, 82, 83] rfl (by decide +kernel)
set_option maxRecDepth 20000 in
theorem gX0_searchAmong_X0_firstArcOfNoUse : GoodIn wsX0_searchAmong (wsV RX0 52 RX0 yX0_firstArcOfNoUse wsX0_firstArcOfNoUse) := goodIn_app (goodIn_of _ (by decide +kernel)) ggX0_searchAmong_X0_firstArcOfNoUse
set_option maxRecDepth 20000 in
theorem ggX0_searchAmong_X0_chooseHeirs : GoodIn wsX0_searchAmong wsX0_chooseHeirs := goodIn_r _ [51, 1, 43, 5, 6, 7, 8, 30, 2, 52, 26, 27, 28, 12, 29, 31, 32, 33, 34, 53, 54, 55, 56, 57, 58, 59, 60, 48, 49, 50, 61, 62, 63, 64, 3, 65, 66, 67, 68, 69, 70, 75, 76, 77, 78, 79, 80, 81, 82, 83] rfl (by decide +kernel)
set_option maxRecDepth 20000 in
theorem gX0_searchAmong_X0_chooseHeirs : GoodIn wsX0_searchAmong (wsV RX0 57 RX0 yX0_chooseHeirs wsX0_chooseHeirs) := goodIn_app (goodIn_of _ (by decide +kernel)) ggX0_searchAmong_X0_chooseHeirs
set_option maxRecDepth 20000 in
theorem ggX0_searchAmong_X0_stepBounds : GoodIn wsX0_searchAmong wsX0_stepBounds := goodIn_r _ [74, 3, 1, 75, 76, 77, 78, 79, 80, 81, 82, 83] rfl (by decide +kernel)
set_option maxRecDepth 20000 in
theorem gX0_searchAmong_X0_stepBounds : GoodIn wsX0_searchAmong (wsV RX0 67 RX0 yX0_stepBounds wsX0_stepBounds) := goodIn_app (goodIn_of _ (by decide +kernel)) ggX0_searchAmong_X0_stepBounds
set_option maxRecDepth 20000 in
theorem ggX0_sumUp_X2_shareOfSector : GoodIn wsX0_sumUp wsX2_shareOfSector := goodIn_r _ [6, 7, 8, 9, 10, 5, 11, 12, 22, 23, 24, 25, 26, 27] rfl (by decide +kernel)
set_option maxRecDepth 20000 in
theorem gX0_sumUp_X2_shareOfSector : GoodIn wsX0_sumUp (wsV RX0 71 RX2 yX2_shareOfSector wsX2_shareOfSector) := goodIn_app (goodIn_of _ (by decide +kernel)) ggX0_sumUp_X2_shareOfSector
set_option maxRecDepth 20000 in
theorem ggX0_isSettled_X0_isFound : GoodIn wsX0_isSettled wsX0_isFound := goodIn_r _ [6, 7, 8, 9, 10, 11, 12, 13, 14, 15, 16] rfl (by decide +kernel)
set_option maxRecDepth 20000 in
theorem gX0_isSettled_X0_isFound : GoodIn wsX0_isSettled (wsV RX0 41 RX0 yX0_isFound wsX0_isFound) := goodIn_app (goodIn_of _ (by decide +kernel)) ggX0_isSettled_X0_isFound
set_option maxRecDepth 20000 in
theorem ggX0_firstArcOfNoUse_X0_noteShares : GoodIn wsX0_firstArcOfNoUse wsX0_noteShares := goodIn_r _ [6, 1, 7, 8, 9, 10, 11, 12, 5, 13, 14, 15, 16, 17, 18, 19, 20, 21, 22, 23, 24] rfl (by decide +kernel)
set_option maxRecDepth 20000 in
theorem gX0_firstArcOfNoUse_X0_noteShares : GoodIn wsX0_firstArcOfNoUse (wsV RX0 76 RX0 yX0_noteShares wsX0_noteShares) := goodIn_app (goodIn_of _ (by decide +kernel)) ggX0_firstArcOfNoUse_X0_noteShares
set_option maxRecDepth 20000 in
theorem ggX0_noteShares_X0_isEnough : GoodIn wsX0_noteShares wsX0_isEnough := goodIn_r _ [9, 10, 1, 3, 11, 12, 13, 14, 15, 16, 17, 18, 19, 20] rfl (by decide +kernel)
set_option maxRecDepth 20000 in
theorem gX0_noteShares_X0_isEnough : GoodIn wsX0_noteShares (wsV RX0 79 RX0 yX0_isEnough wsX0_isEnough) := goodIn_app (goodIn_of _ (by decide +kernel)) ggX0_noteShares_X0_isEnough
set_option maxRecDepth 20000 in
theorem ggX0_chooseHeirs_X0_isSettled : GoodIn wsX0_chooseHeirs wsX0_isSettled := goodIn_r _ [14, 7, 15, 16, 17, 13, 18, 8, 41, 42, 43, 44, 45, 46, 47, 48, 49] rfl (by decide +kernel)
set_option maxRecDepth 20000 in
theorem gX0_chooseHeirs_X0_isSettled : GoodIn wsX0_chooseHeirs (wsV RX0 49 RX0 yX0_isSettled wsX0_isSettled) := goodIn_app (goodIn_of _ (by decide +kernel)) ggX0_chooseHeirs_X0_isSettled
set_option maxRecDepth 20000 in
theorem ggX0_chooseHeirs_X0_isEnvious : GoodIn wsX0_chooseHeirs wsX0_isEnvious := goodIn_r _ [22, 1, 2, 41, 42, 43, 44, 45, 46, 47, 48, 49] rfl (by decide +kernel)
set_option maxRecDepth 20000 in
theorem gX0_chooseHeirs_X0_isEnvious : GoodIn wsX0_chooseHeirs (wsV RX0 83 RX0 yX0_isEnvious wsX0_isEnvious) := goodIn_app (goodIn_of _ (by decide +kernel)) ggX0_chooseHeirs_X0_isEnvious
set_option maxRecDepth 20000 in
theorem ggX0_chooseHeirs_X0_chooseBehind : GoodIn wsX0_chooseHeirs wsX0_chooseBehind := goodIn_r _ [26, 1, 27, 28, 29, 13, 30, 31, 32, 33, 8, 34, 35, 36, 37, 38, 39, 9, 40, 0, 2, 3, 4, 5, 6, 7, 10, 11, 12, 14, 15, 16, 17, 18, 19, 20, 21, 22, 23, 24, 25, 41, 42, 43, 44, 45, 46, 47, 48, 49] rfl (by decide +kernel)
set_option maxRecDepth 20000 in
theorem gX0_chooseHeirs_X0_chooseBehind : GoodIn wsX0_chooseHeirs (wsV RX0 86 RX0 yX0_chooseBehind wsX0_chooseBehind) := goodIn_app (goodIn_of _ (by decide +kernel)) ggX0_chooseHeirs_X0_chooseBehind
set_option maxRecDepth 20000 in
theorem ggX0_chooseBehind_X0_chooseHeirs : GoodIn wsX0_chooseBehind wsX0_chooseHeirs := goodIn_r _ [19, 1, 20, 21, 22, 23, 24, 25, 10, 17, 26, 27, 28, 5, 29, 30, 31, 32, 33, 34, 35, 36, 37, 38, 39, 40, 0, 2, 3, 4, 6, 7, 8, 9, 11, 12, 13, 14, 15, 16, 18, 41, 42, 43, 44, 45, 46, 47, 48, 49] rfl (by decide +kernel)
set_option maxRecDepth 20000 in
theorem gX0_chooseBehind_X0_chooseHeirs : GoodIn wsX0_chooseBehind (wsV RX0 57 RX0 yX0_chooseHeirs wsX0_chooseHeirs) := goodIn_app (goodIn_of _ (by decide +kernel)) ggX0_chooseBehind_X0_chooseHeirs
set_option maxRecDepth 20000 in
theorem ggX0_chooseBehind_X0_keep : GoodIn wsX0_chooseBehind wsX0_keep := goodIn_r _ [9, 10, 11, 12, 1, 13, 14, 15, 16, 17, 18, 41, 42, 43, 44, 45, 46, 47, 48, 49] rfl (by decide +kernel)
set_option maxRecDepth 20000 in
theorem gX0_chooseBehind_X0_keep : GoodIn wsX0_chooseBehind (wsV RX0 89 RX0 yX0_keep wsX0_keep) := goodIn_app (goodIn_of _ (by decide +kernel)) ggX0_chooseBehind_X0_keep
set_option maxRecDepth 20000 in
theorem ggX1_lengthFor_X2_sortAt : GoodIn wsX1_lengthFor wsX2_sortAt := goodIn_r _ [6, 7, 54, 55, 56, 57, 58, 59] rfl (by decide +kernel)
set_option maxRecDepth 20000 in
theorem gX1_lengthFor_X2_sortAt : GoodIn wsX1_lengthFor (wsV RX1 25 RX2 yX2_sortAt wsX2_sortAt) := goodIn_app (goodIn_of _ (by decide +kernel)) ggX1_lengthFor_X2_sortAt
set_option maxRecDepth 20000 in
theorem ggX1_lengthFor_X2_ownerOf : GoodIn wsX1_lengthFor wsX2_ownerOf := goodIn_r _ [11, 12, 13, 14, 15, 5, 16, 17, 54, 55, 56, 57, 58, 59] rfl (by decide +kernel)
set_option maxRecDepth 20000 in
theorem gX1_lengthFor_X2_ownerOf : GoodIn wsX1_lengthFor (wsV RX1 31 RX2 yX2_ownerOf wsX2_ownerOf) := goodIn_app (goodIn_of _ (by decide +kernel)) ggX1_lengthFor_X2_ownerOf
set_option maxRecDepth 20000 in
theorem ggX1_lengthFor_X1_openSides : GoodIn wsX1_lengthFor wsX1_openSides := goodIn_r _ [22, 23, 49, 50, 51, 52, 53] rfl (by decide +kernel)
set_option maxRecDepth 20000 in
theorem gX1_lengthFor_X1_openSides : GoodIn wsX1_lengthFor (wsV RX1 35 RX1 yX1_openSides wsX1_openSides) := goodIn_app (goodIn_of _ (by decide +kernel)) ggX1_lengthFor_X1_openSides
set_option maxRecDepth 20000 in
theorem ggX1_lengthFor_X1_seekGoal : GoodIn wsX1_lengthFor wsX1_seekGoal := goodIn_r _ [27, 28, 29, 30, 1, 23, 2, 3, 4, 5, 6, 7, 8, 9, 10, 11, 12, 13, 14, 15, 16, 17, 31, 32, 33, 21, 34, 35, 36, 37, 49, 50, 51, 52, 53, 54, 55, 56, 57, 58, 59] rfl (by decide +kernel)
set_option maxRecDepth 20000 in
theorem gX1_lengthFor_X1_seekGoal : GoodIn wsX1_lengthFor (wsV RX1 39 RX1 yX1_seekGoal wsX1_seekGoal) := goodIn_app (goodIn_of _ (by decide +kernel)) ggX1_lengthFor_X1_seekGoal
set_option maxRecDepth 20000 in
theorem ggX1_lengthFor_X1_streamTo : GoodIn wsX1_lengthFor wsX1_streamTo := goodIn_r _ [41, 29, 23, 42, 43, 44, 45, 46, 47, 21, 48, 35, 36, 37, 49, 50, 51, 52, 53] rfl (by decide +kernel)
set_option maxRecDepth 20000 in
theorem gX1_lengthFor_X1_streamTo : GoodIn wsX1_lengthFor (wsV RX1 43 RX1 yX1_streamTo wsX1_streamTo) := goodIn_app (goodIn_of _ (by decide +kernel)) ggX1_lengthFor_X1_streamTo
set_option maxRecDepth 20000 in
theorem ggX1_seekGoal_X2_sortAt : GoodIn wsX1_seekGoal wsX2_sortAt := goodIn_r _ [10, 11, 35, 36, 37, 38, 39, 40] rfl (by decide +kernel)
set_option maxRecDepth 20000 in
theorem gX1_seekGoal_X2_sortAt : GoodIn wsX1_seekGoal (wsV RX1 25 RX2 yX2_sortAt wsX2_sortAt) := goodIn_app (goodIn_of _ (by decide +kernel)) ggX1_seekGoal_X2_sortAt
set_option maxRecDepth 20000 in
theorem ggX1_seekGoal_X2_ownerOf : GoodIn wsX1_seekGoal wsX2_ownerOf := goodIn_r _ [15, 16, 17, 18, 19, 9, 20, 21, 35, 36, 37, 38, 39, 40] rfl (by decide +kernel)
set_option maxRecDepth 20000 in
theorem gX1_seekGoal_X2_ownerOf : GoodIn wsX1_seekGoal (wsV RX1 31 RX2 yX2_ownerOf wsX2_ownerOf) := goodIn_app (goodIn_of _ (by decide +kernel)) ggX1_seekGoal_X2_ownerOf
set_option maxRecDepth 20000 in
theorem ggX1_seekGoal_X1_reach : GoodIn wsX1_seekGoal wsX1_reach := goodIn_r _ [26, 2, 1, 3, 30, 31, 32, 33, 34] rfl (by decide +kernel)
set_option maxRecDepth 20000 in
theorem gX1_seekGoal_X1_reach : GoodIn wsX1_seekGoal (wsV RX1 50 RX1 yX1_reach wsX1_reach) := goodIn_app (goodIn_of _ (by decide +kernel)) ggX1_seekGoal_X1_reach
set_option maxRecDepth 20000 in
theorem ggX1_seekGoal_X1_beside : GoodIn wsX1_seekGoal wsX1_beside := goodIn_r _ [29] rfl (by decide +kernel)
set_option maxRecDepth 20000 in
theorem gX1_seekGoal_X1_beside : GoodIn wsX1_seekGoal (va_wsS RX1 53 yX1_beside wsX1_beside) := goodIn_app (goodIn_of _ (by decide +kernel)) ggX1_seekGoal_X1_beside
set_option maxRecDepth 20000 in
theorem ggX1_streamTo_X1_opposite : GoodIn wsX1_streamTo wsX1_opposite := goodIn_r _ [10] rfl (by decide +kernel)
set_option maxRecDepth 20000 in
theorem gX1_streamTo_X1_opposite : GoodIn wsX1_streamTo (va_wsS RX1 56 yX1_opposite wsX1_opposite) := goodIn_app (goodIn_of _ (by decide +kernel)) ggX1_streamTo_X1_opposite
set_option maxRecDepth 20000 in
theorem ggX1_streamTo_X1_beside : GoodIn wsX1_streamTo wsX1_beside := goodIn_r _ [13] rfl (by decide +kernel)
set_option maxRecDepth 20000 in
theorem gX1_streamTo_X1_beside : GoodIn wsX1_streamTo (va_wsS RX1 53 yX1_beside wsX1_beside) := goodIn_app (goodIn_of _ (by decide +kernel)) ggX1_streamTo_X1_beside
set_option maxRecDepth 20000 in
theorem ggX2_sectorsOfSort_X2_sortAt : GoodIn wsX2_sectorsOfSort wsX2_sortAt := goodIn_r _ [5, 6, 7, 8, 9, 10, 11, 12] rfl (by decide +kernel)
set_option maxRecDepth 20000 in
theorem gX2_sectorsOfSort_X2_sortAt : GoodIn wsX2_sectorsOfSort (wsV RX2 43 RX2 yX2_sortAt wsX2_sortAt) := goodIn_app (goodIn_of _ (by decide +kernel)) ggX2_sectorsOfSort_X2_sortAt
set_option maxRecDepth 20000 in
theorem ggX2_ownerOf_X2_ownerBehind : GoodIn wsX2_ownerOf wsX2_ownerBehind := goodIn_r _ [6, 7, 8, 9, 10, 11, 12, 13] rfl (by decide +kernel)
set_option maxRecDepth 20000 in
theorem gX2_ownerOf_X2_ownerBehind : GoodIn wsX2_ownerOf (wsV RX2 47 RX2 yX2_ownerBehind wsX2_ownerBehind) := goodIn_app (goodIn_of _ (by decide +kernel)) ggX2_ownerOf_X2_ownerBehind
set_option maxRecDepth 20000 in
theorem ggX2_sectorsOf_X2_ownerOf : GoodIn wsX2_sectorsOf wsX2_ownerOf := goodIn_r _ [5, 6, 7, 8, 9, 4, 10, 11, 12, 13, 14, 15, 16, 17] rfl (by decide +kernel)
set_option maxRecDepth 20000 in
theorem gX2_sectorsOf_X2_ownerOf : GoodIn wsX2_sectorsOf (wsV RX2 50 RX2 yX2_ownerOf wsX2_ownerOf) := goodIn_app (goodIn_of _ (by decide +kernel)) ggX2_sectorsOf_X2_ownerOf
set_option maxRecDepth 20000 in
theorem ggX2_ownersOf_X2_ownerOf : GoodIn wsX2_ownersOf wsX2_ownerOf := goodIn_r _ [5, 6, 7, 8, 9, 4, 10, 11, 12, 13, 14, 15, 16, 17] rfl (by decide +kernel)
set_option maxRecDepth 20000 in
theorem gX2_ownersOf_X2_ownerOf : GoodIn wsX2_ownersOf (wsV RX2 50 RX2 yX2_ownerOf wsX2_ownerOf) := goodIn_app (goodIn_of _ (by decide +kernel)) ggX2_ownersOf_X2_ownerOf
set_option maxRecDepth 20000 in
theorem ggX2_giveAway_X2_ownerOf : GoodIn wsX2_giveAway wsX2_ownerOf := goodIn_r _ [5, 6, 7, 8, 9, 4, 10, 11, 16, 17, 18, 19, 20, 21] rfl (by decide +kernel)
set_option maxRecDepth 20000 in
theorem gX2_giveAway_X2_ownerOf : GoodIn wsX2_giveAway (wsV RX2 50 RX2 yX2_ownerOf wsX2_ownerOf) := goodIn_app (goodIn_of _ (by decide +kernel)) ggX2_giveAway_X2_ownerOf
set_option maxRecDepth 20000 in
theorem ggX2_giveAway_X2_give : GoodIn wsX2_giveAway wsX2_give := goodIn_r _ [15, 11, 6, 16, 17, 18, 19, 20, 21] rfl (by decide +kernel)
set_option maxRecDepth 20000 in
theorem gX2_giveAway_X2_give : GoodIn wsX2_giveAway (wsV RX2 54 RX2 yX2_give wsX2_give) := goodIn_app (goodIn_of _ (by decide +kernel)) ggX2_giveAway_X2_give
set_option maxRecDepth 20000 in
theorem ggX2_join_X2_ownerOf : GoodIn wsX2_join wsX2_ownerOf := goodIn_r _ [5, 6, 7, 8, 9, 4, 10, 11, 16, 17, 18, 19, 20, 21] rfl (by decide +kernel)
set_option maxRecDepth 20000 in
theorem gX2_join_X2_ownerOf : GoodIn wsX2_join (wsV RX2 50 RX2 yX2_ownerOf wsX2_ownerOf) := goodIn_app (goodIn_of _ (by decide +kernel)) ggX2_join_X2_ownerOf
set_option maxRecDepth 20000 in
theorem ggX2_join_X2_give : GoodIn wsX2_join wsX2_give := goodIn_r _ [15, 11, 6, 16, 17, 18, 19, 20, 21] rfl (by decide +kernel)
set_option maxRecDepth 20000 in
theorem gX2_join_X2_give : GoodIn wsX2_join (wsV RX2 54 RX2 yX2_give wsX2_give) := goodIn_app (goodIn_of _ (by decide +kernel)) ggX2_join_X2_give
set_option maxRecDepth 20000 in
theorem ggX2_shareOfSector_X2_sortAt : GoodIn wsX2_shareOfSector wsX2_sortAt := goodIn_r _ [6, 7, 8, 9, 10, 11, 12, 13] rfl (by decide +kernel)
set_option maxRecDepth 20000 in
theorem gX2_shareOfSector_X2_sortAt : GoodIn wsX2_shareOfSector (wsV RX2 43 RX2 yX2_sortAt wsX2_sortAt) := goodIn_app (goodIn_of _ (by decide +kernel)) ggX2_shareOfSector_X2_sortAt
set_option maxRecDepth 20000 in
theorem ggX2_shareOf_X2_shareOfSector : GoodIn wsX2_shareOf wsX2_shareOfSector := goodIn_r _ [5, 6, 7, 8, 9, 4, 10, 11, 12, 13, 14, 15, 16, 17] rfl (by decide +kernel)
set_option maxRecDepth 20000 in
theorem gX2_shareOf_X2_shareOfSector : GoodIn wsX2_shareOf (wsV RX2 58 RX2 yX2_shareOfSector wsX2_shareOfSector) := goodIn_app (goodIn_of _ (by decide +kernel)) ggX2_shareOf_X2_shareOfSector
set_option maxRecDepth 20000 in
theorem ggX2_setRight_X2_hasRight : GoodIn wsX2_setRight wsX2_hasRight := goodIn_r _ [6, 1, 7, 8, 9, 10, 11, 12] rfl (by decide +kernel)
set_option maxRecDepth 20000 in
theorem gX2_setRight_X2_hasRight : GoodIn wsX2_setRight (wsV RX2 61 RX2 yX2_hasRight wsX2_hasRight) := goodIn_app (goodIn_of _ (by decide +kernel)) ggX2_setRight_X2_hasRight
set_option maxRecDepth 20000 in
theorem ggX2_isFreeFor_X2_ownerOf : GoodIn wsX2_isFreeFor wsX2_ownerOf := goodIn_r _ [5, 6, 7, 8, 9, 4, 10, 11, 17, 18, 19, 20, 21, 22] rfl (by decide +kernel)
set_option maxRecDepth 20000 in
theorem gX2_isFreeFor_X2_ownerOf : GoodIn wsX2_isFreeFor (wsV RX2 50 RX2 yX2_ownerOf wsX2_ownerOf) := goodIn_app (goodIn_of _ (by decide +kernel)) ggX2_isFreeFor_X2_ownerOf
set_option maxRecDepth 20000 in
theorem ggX2_isFreeFor_X2_hasRight : GoodIn wsX2_isFreeFor wsX2_hasRight := goodIn_r _ [15, 16, 17, 18, 19, 20, 21, 22] rfl (by decide +kernel)
set_option maxRecDepth 20000 in
theorem gX2_isFreeFor_X2_hasRight : GoodIn wsX2_isFreeFor (wsV RX2 61 RX2 yX2_hasRight wsX2_hasRight) := goodIn_app (goodIn_of _ (by decide +kernel)) ggX2_isFreeFor_X2_hasRight
set_option maxRecDepth 20000 in
theorem ggX3_letterAt_J0_indexOf_0f7a4 : GoodIn wsX3_letterAt wsJ0_indexOf_0f7a4 := goodIn_r _ [7, 8, 9, 10, 6, 11, 12, 13, 14, 15, 16, 17, 18, 19, 20, 21, 22, 23, 24, 25, 26, 27, 28, 29, 30, 31, 32, 33, 34, 35, 36, 37, 38, 39, 40, 41, 42, 43, 44, 45, 46, 47, 48, 49, 50, 51, 52, 53, 54, 55, 56, 57, 58, 59, 60, 61, 62, 63, 64, 65, 66, 67, 68, 69, 70, 71, 72, 73, 74, 75, 76, 77, 78, 79, 80, 81, 82, 83, 84, 85, 86, 87, 88, 89, 90, 91] rfl (by decide +kernel)
set_option maxRecDepth 20000 in
theorem gX3_letterAt_J0_indexOf_0f7a4 : GoodIn wsX3_letterAt (wsV RX3 23 RJ0 yJ0_indexOf_0f7a4 wsJ0_indexOf_0f7a4) := goodIn_app (goodIn_of _ (by decide +kernel)) ggX3_letterAt_J0_indexOf_0f7a4
set_option maxRecDepth 20000 in
theorem ggX3_faultOfRuns_X3_letterAt : GoodIn wsX3_faultOfRuns wsX3_letterAt := goodIn_r _ [6, 1, 7, 8, 9, 10, 11, 12, 13, 14, 15, 16, 17, 18, 19, 20, 21, 22, 23, 24, 25, 26, 27, 28, 29, 30, 31, 32, 33, 34, 35, 36, 37, 38, 39, 40, 41, 42, 43, 44, 45, 46, 47, 48, 49, 50, 51, 52, 53, 54, 55, 56, 57, 58, 59, 60, 61, 62, 63, 64, 65, 66, 67, 68, 69, 70, 71, 72, 73, 74, 75, 76, 77, 78, 79, 80, 81, 82, 83, 84, 85, 86, 87, 88, 89, 90, 91, 92, 93, 94, 95, 96, 101, 102, 103] rfl (by decide +kernel)
set_option maxRecDepth 20000 in
theorem gX3_faultOfRuns_X3_letterAt : GoodIn wsX3_faultOfRuns (wsV RX3 29 RX3 yX3_letterAt wsX3_letterAt) := goodIn_app (goodIn_of _ (by decide +kernel)) ggX3_faultOfRuns_X3_letterAt
set_option maxRecDepth 20000 in
theorem ggX3_faultOfRuns_X3_digitAt : GoodIn wsX3_faultOfRuns wsX3_digitAt := goodIn_r _ [100, 1, 7, 101, 102, 103] rfl (by decide +kernel)
set_option maxRecDepth 20000 in
theorem gX3_faultOfRuns_X3_digitAt : GoodIn wsX3_faultOfRuns (wsV RX3 33 RX3 yX3_digitAt wsX3_digitAt) := goodIn_app (goodIn_of _ (by decide +kernel)) ggX3_faultOfRuns_X3_digitAt
set_option maxRecDepth 20000 in
theorem ggX3_readRuns_X3_letterAt : GoodIn wsX3_readRuns wsX3_letterAt := goodIn_r _ [7, 1, 8, 9, 10, 11, 12, 13, 14, 15, 16, 17, 18, 19, 20, 21, 22, 23, 24, 25, 26, 27, 28, 29, 30, 31, 32, 33, 34, 35, 36, 37, 38, 39, 40, 41, 42, 43, 44, 45, 46, 47, 48, 49, 50, 51, 52, 53, 54, 55, 56, 57, 58, 59, 60, 61, 62, 63, 64, 65, 66, 67, 68, 69, 70, 71, 72, 73, 74, 75, 76, 77, 78, 79, 80, 81, 82, 83, 84, 85, 86, 87, 88, 89, 90, 91, 92, 93, 94, 95, 96, 97, 102, 103, 104] rfl (by decide +kernel)
set_option maxRecDepth 20000 in
theorem gX3_readRuns_X3_letterAt : GoodIn wsX3_readRuns (wsV RX3 29 RX3 yX3_letterAt wsX3_letterAt) := goodIn_app (goodIn_of _ (by decide +kernel)) ggX3_readRuns_X3_letterAt
set_option maxRecDepth 20000 in
theorem ggX3_readRuns_X3_digitAt : GoodIn wsX3_readRuns wsX3_digitAt := goodIn_r _ [101, 1, 8, 102, 103, 104] rfl (by decide +kernel)
set_option maxRecDepth 20000 in
theorem gX3_readRuns_X3_digitAt : GoodIn wsX3_readRuns (wsV RX3 33 RX3 yX3_digitAt wsX3_digitAt) := goodIn_app (goodIn_of _ (by decide +kernel)) ggX3_readRuns_X3_digitAt
set_option maxRecDepth 20000 in
theorem ggJ0_length_8abf5_J0_coder_7d493 : GoodIn wsJ0_length_8abf5 wsJ0_coder_7d493 := goodIn_r _ [6, 7, 8] rfl (by decide +kernel)
set_option maxRecDepth 20000 in
theorem gJ0_length_8abf5_J0_coder_7d493 : GoodIn wsJ0_length_8abf5 (wsV RJ0 335 RJ0 yJ0_coder_7d493 wsJ0_coder_7d493) := goodIn_app (goodIn_of _ (by decide +kernel)) ggJ0_length_8abf5_J0_coder_7d493
set_option maxRecDepth 20000 in
theorem ggJ0_charAt_5068e_J0_isLatin1_aae02 : GoodIn wsJ0_charAt_5068e wsJ0_isLatin1_aae02 := goodIn_r _ [6, 7, 8] rfl (by decide +kernel)
set_option maxRecDepth 20000 in
theorem gJ0_charAt_5068e_J0_isLatin1_aae02 : GoodIn wsJ0_charAt_5068e (wsV RJ0 492 RJ0 yJ0_isLatin1_aae02 wsJ0_isLatin1_aae02) := goodIn_app (goodIn_of _ (by decide +kernel)) ggJ0_charAt_5068e_J0_isLatin1_aae02
set_option maxRecDepth 20000 in
theorem ggJ0_charAt_5068e_J1_charAt_3b067 : GoodIn wsJ0_charAt_5068e wsJ1_charAt_3b067 := goodIn_r _ [12, 13, 14, 5, 15, 16, 17, 18, 19, 20] rfl (by decide +kernel)
set_option maxRecDepth 20000 in
theorem gJ0_charAt_5068e_J1_charAt_3b067 : GoodIn wsJ0_charAt_5068e (va_wsS RJ0 495 yJ1_charAt_3b067 wsJ1_charAt_3b067) := goodIn_app (goodIn_of _ (by decide +kernel)) ggJ0_charAt_5068e_J1_charAt_3b067
set_option maxRecDepth 20000 in
theorem ggJ0_charAt_5068e_J2_charAt_3b067 : GoodIn wsJ0_charAt_5068e wsJ2_charAt_3b067 := goodIn_r _ [24, 25, 26, 23, 27, 28, 29, 30, 31, 14, 5, 15, 16, 17, 18, 19, 20, 32, 33, 34, 35, 36, 37] rfl (by decide +kernel)
set_option maxRecDepth 20000 in
theorem gJ0_charAt_5068e_J2_charAt_3b067 : GoodIn wsJ0_charAt_5068e (va_wsS RJ0 498 yJ2_charAt_3b067 wsJ2_charAt_3b067) := goodIn_app (goodIn_of _ (by decide +kernel)) ggJ0_charAt_5068e_J2_charAt_3b067
set_option maxRecDepth 20000 in
theorem ggJ0_indexOf_0f7a4_J0_indexOf_7cf53 : GoodIn wsJ0_indexOf_0f7a4 wsJ0_indexOf_7cf53 := goodIn_r _ [5, 6, 7, 8, 9, 4, 10, 11, 12, 13, 14, 15, 16, 17, 18, 19, 20, 21, 22, 23, 24, 25, 26, 27, 28, 29, 30, 31, 32, 33, 34, 35, 36, 37, 38, 39, 40, 41, 42, 43, 44, 45, 46, 47, 48, 49, 50, 51, 52, 53, 54, 55, 56, 57, 58, 59, 60, 61, 62, 63, 64, 65, 66, 67, 68, 69, 70, 71, 72, 73, 74, 75, 76, 77, 78, 79, 80, 81, 82, 83, 84, 85] rfl (by decide +kernel)
set_option maxRecDepth 20000 in
theorem gJ0_indexOf_0f7a4_J0_indexOf_7cf53 : GoodIn wsJ0_indexOf_0f7a4 (wsV RJ0 633 RJ0 yJ0_indexOf_7cf53 wsJ0_indexOf_7cf53) := goodIn_app (goodIn_of _ (by decide +kernel)) ggJ0_indexOf_0f7a4_J0_indexOf_7cf53
set_option maxRecDepth 20000 in
theorem ggJ0_indexOf_7cf53_J0_isLatin1_aae02 : GoodIn wsJ0_indexOf_7cf53 wsJ0_isLatin1_aae02 := goodIn_r _ [6, 7, 8] rfl (by decide +kernel)
set_option maxRecDepth 20000 in
theorem gJ0_indexOf_7cf53_J0_isLatin1_aae02 : GoodIn wsJ0_indexOf_7cf53 (wsV RJ0 492 RJ0 yJ0_isLatin1_aae02 wsJ0_isLatin1_aae02) := goodIn_app (goodIn_of _ (by decide +kernel)) ggJ0_indexOf_7cf53_J0_isLatin1_aae02
set_option maxRecDepth 20000 in
theorem ggJ0_indexOf_7cf53_J0_length_8abf5 : GoodIn wsJ0_indexOf_7cf53 wsJ0_length_8abf5 := goodIn_r _ [12, 1, 13, 14, 15, 5, 16, 7, 8] rfl (by decide +kernel)
set_option maxRecDepth 20000 in
theorem gJ0_indexOf_7cf53_J0_length_8abf5 : GoodIn wsJ0_indexOf_7cf53 (wsV RJ0 505 RJ0 yJ0_length_8abf5 wsJ0_length_8abf5) := goodIn_app (goodIn_of _ (by decide +kernel)) ggJ0_indexOf_7cf53_J0_length_8abf5
set_option maxRecDepth 20000 in
theorem ggJ0_indexOf_7cf53_J1_indexOf_4cfef : GoodIn wsJ0_indexOf_7cf53 wsJ1_indexOf_4cfef := goodIn_r _ [20, 21, 22, 23, 24, 25, 26, 27, 28, 29, 19, 30, 31, 32, 33] rfl (by decide +kernel)
set_option maxRecDepth 20000 in
theorem gJ0_indexOf_7cf53_J1_indexOf_4cfef : GoodIn wsJ0_indexOf_7cf53 (va_wsS RJ0 637 yJ1_indexOf_4cfef wsJ1_indexOf_4cfef) := goodIn_app (goodIn_of _ (by decide +kernel)) ggJ0_indexOf_7cf53_J1_indexOf_4cfef
set_option maxRecDepth 20000 in
theorem ggJ0_indexOf_7cf53_J2_indexOf_4cfef : GoodIn wsJ0_indexOf_7cf53 wsJ2_indexOf_4cfef := goodIn_r _ [37, 38, 22, 23, 24, 39, 26, 27, 40, 41, 42, 36, 43, 44, 45, 46, 47, 48, 49, 50, 51, 5, 52, 53, 54, 55, 56, 57, 58, 59, 60, 61, 62, 63, 64, 65, 66, 67, 68, 69, 70, 71, 72, 73, 74, 75, 76, 77, 78, 79, 80, 81] rfl (by decide +kernel)
set_option maxRecDepth 20000 in
theorem gJ0_indexOf_7cf53_J2_indexOf_4cfef : GoodIn wsJ0_indexOf_7cf53 (va_wsS RJ0 640 yJ2_indexOf_4cfef wsJ2_indexOf_4cfef) := goodIn_app (goodIn_of _ (by decide +kernel)) ggJ0_indexOf_7cf53_J2_indexOf_4cfef
set_option maxRecDepth 20000 in
theorem ggJ0_checkIndex_df160_J3_checkIndex_8e157 : GoodIn wsJ0_checkIndex_df160 wsJ3_checkIndex_8e157 := goodIn_r _ [5] rfl (by decide +kernel)
set_option maxRecDepth 20000 in
theorem gJ0_checkIndex_df160_J3_checkIndex_8e157 : GoodIn wsJ0_checkIndex_df160 (va_wsS RJ0 1059 yJ3_checkIndex_8e157 wsJ3_checkIndex_8e157) := goodIn_app (goodIn_of _ (by decide +kernel)) ggJ0_checkIndex_df160_J3_checkIndex_8e157
set_option maxRecDepth 20000 in
theorem ggJ0_checkBoundsBeginEnd_23922_J3_checkFromToIndex_8c36e : GoodIn wsJ0_checkBoundsBeginEnd_23922 wsJ3_checkFromToIndex_8c36e := goodIn_r _ [5] rfl (by decide +kernel)
set_option maxRecDepth 20000 in
theorem gJ0_checkBoundsBeginEnd_23922_J3_checkFromToIndex_8c36e : GoodIn wsJ0_checkBoundsBeginEnd_23922 (va_wsS RJ0 1062 yJ3_checkFromToIndex_8c36e wsJ3_checkFromToIndex_8c36e) := goodIn_app (goodIn_of _ (by decide +kernel)) ggJ0_checkBoundsBeginEnd_23922_J3_checkFromToIndex_8c36e
set_option maxRecDepth 20000 in
theorem ggJ1_charAt_3b067_J0_checkIndex_df160 : GoodIn wsJ1_charAt_3b067 wsJ0_checkIndex_df160 := goodIn_r _ [4, 5, 6, 7, 8, 9] rfl (by decide +kernel)
set_option maxRecDepth 20000 in
theorem gJ1_charAt_3b067_J0_checkIndex_df160 : GoodIn wsJ1_charAt_3b067 (va_wsS RJ1 9 yJ0_checkIndex_df160 wsJ0_checkIndex_df160) := goodIn_app (goodIn_of _ (by decide +kernel)) ggJ1_charAt_3b067_J0_checkIndex_df160
set_option maxRecDepth 20000 in
theorem ggJ1_indexOf_4cfef_J1_canEncode_9a6ad : GoodIn wsJ1_indexOf_4cfef wsJ1_canEncode_9a6ad := goodIn_r _ [11] rfl (by decide +kernel)
set_option maxRecDepth 20000 in
theorem gJ1_indexOf_4cfef_J1_canEncode_9a6ad : GoodIn wsJ1_indexOf_4cfef (va_wsS RJ1 88 yJ1_canEncode_9a6ad wsJ1_canEncode_9a6ad) := goodIn_app (goodIn_of _ (by decide +kernel)) ggJ1_indexOf_4cfef_J1_canEncode_9a6ad
set_option maxRecDepth 20000 in
theorem ggJ1_indexOf_4cfef_J1_indexOfChar_4cfef : GoodIn wsJ1_indexOf_4cfef wsJ1_indexOfChar_4cfef := goodIn_r _ [14] rfl (by decide +kernel)
set_option maxRecDepth 20000 in
theorem gJ1_indexOf_4cfef_J1_indexOfChar_4cfef : GoodIn wsJ1_indexOf_4cfef (va_wsS RJ1 95 yJ1_indexOfChar_4cfef wsJ1_indexOfChar_4cfef) := goodIn_app (goodIn_of _ (by decide +kernel)) ggJ1_indexOf_4cfef_J1_indexOfChar_4cfef
end
section
/-! MY OWN LAYER over the kit's rows: a judgement J over (pc, locals, operand stack, world), contracts Ci, Cv, Cr, and one row an instruction -/
/-- D of the objects; class numbers of the array classes (0 int, 1 char, 2 boolean, 3 Hill); addresses of what the JVM holds ready (0, 1: the two texts, 10, 11: their bytes; 20, 21: the two tables) -/
abbrev gE : Type := va_G × (Nat → ClassId) × (Nat → Nat)
abbrev gTy (g : gE) : List (ClassId × FieldType) := [(g.2.1 0, .int), (g.2.1 1, .char), (g.2.1 2, .boolean), (g.2.1 3, .object "HillSlices$Hill")]
abbrev gI (g : gE) (n : Nat) (f : Nat → Int32) : va_E := .inl (g.2.1 0, n, .inl f)
abbrev gC (g : gE) (n : Nat) (f : Nat → Int32) : va_E := .inl (g.2.1 1, n, .inl f)
abbrev gZ (g : gE) (n : Nat) (f : Nat → Int32) : va_E := .inl (g.2.1 2, n, .inl f)
abbrev gO (g : gE) (n : Nat) (f : Nat → Option Nat) : va_E := .inl (g.2.1 3, n, .inr (.inr (.inr (.inr f))))
def gLen : List Nat := [5, 6]
def gByt : List (List Int32) := [[118, 119, 109, 114, 115], [97, 98, 99, 100, 101, 102]]
def gFS : List Int32 := [0, 0, 2, 3, 4]
def gFW : List Int32 := [10, 4, 3, 0, 1]
def gPre : String := "jdk/internal/util/Preconditions"
def gFun : String := "Ljava/util/function/BiFunction;"
/-- what the JVM holds ready and nobody writes -/
def gS (g : gE) (A : Nat → Prop) (U : State) (H : Heap) : Prop :=
  (vk_S 2 gLen gByt (fun i => g.2.2 i) (fun i => g.2.2 (i + 10)) A U H ∧ va_Z "java/lang/String" "COMPACT_STRINGS" "Z" (.int 1) A U H ∧ va_Zq "jdk/internal/util/Preconditions" "SIOOBE_FORMATTER" "Ljava/util/function/BiFunction;" A U H) ∧
  ((va_Z "HillSlices" "FIRST_SORTS" "[I" (.ref (g.2.2 20)) A U H ∧ va_T .int (g.2.2 20) 5 (fun j => .int (gFS.getD j 0)) A U H) ∧ (va_Z "HillSlices" "FIRST_WORTHS" "[I" (.ref (g.2.2 21)) A U H ∧ va_T .int (g.2.2 21) 5 (fun j => .int (gFW.getD j 0)) A U H)) ∧
  ((vk_R RX4 62 "vwmrs" (g.2.2 0) U ∧ vk_R RX4 75 "abcdef" (g.2.2 1) U) ∧ (va_Nw (.methodLinkNest RX4 11 yX3_init "HillSlices") U ∧ va_Nw (.methodLinkNest RX4 41 yX1_init "HillSlices") U) ∧ (va_Nw (.fieldLinkNest RX2 28 "HillSlices" "FIRST_SORTS" "[I" "HillSlices") U ∧ va_Nw (.fieldLinkNest RX2 31 "HillSlices" "FIRST_WORTHS" "[I" "HillSlices") U))
theorem gS_call {g : gE} {A B : Nat → Prop} {s U : State} {H : Heap} {locs : List Loc} (h : gS g A s s.heap) (hS : va_S A s.heap H locs) (hU : U.heap = H) (hW : s.WarmedH U.vm) (hAB : ∀ q, B q → A q) : gS g B U U.heap := by
  obtain ⟨⟨a1, a2, a3⟩, ⟨⟨b1, b2⟩, ⟨b3, b4⟩⟩, ⟨c1, c2⟩, ⟨d1, d2⟩, ⟨e1, e2⟩⟩ := h
  rw [hU]
  refine ⟨⟨?_, ?_, ?_⟩, ⟨⟨?_, ?_⟩, ⟨?_, ?_⟩⟩, ⟨c1.warm hW, c2.warm hW⟩, ⟨d1.warmM hW, d2.warmM hW⟩, ⟨e1.warmF hW, e2.warmF hW⟩⟩
  · exact (vk_S.moved hW.alike (a1.kept hS.2.1)).narrow hAB
  · exact (va_Z.moved hW.alike (a2.kept hS.2.1)).narrow hAB
  · exact (va_Zq.moved hW.alike (a3.kept hS.2.1)).narrow hAB
  · exact (va_Z.moved hW.alike (b1.kept hS.2.1)).narrow hAB
  · exact (va_T.moved hW.alike (b2.kept hS.2.1)).narrow hAB
  · exact (va_Z.moved hW.alike (b3.kept hS.2.1)).narrow hAB
  · exact (va_T.moved hW.alike (b4.kept hS.2.1)).narrow hAB
theorem gS_blind {g : gE} {A : Nat → Prop} {U : State} {f : JFrame} {mk : MethodId} {a : Array Value} (h : gS g A U U.heap) : gS g A (U.calling f mk a) (U.calling f mk a).heap := by
  obtain ⟨⟨a1, a2, a3⟩, ⟨⟨b1, b2⟩, ⟨b3, b4⟩⟩, ⟨c1, c2⟩, ⟨d1, d2⟩, ⟨e1, e2⟩⟩ := h
  have hv : U.vm.Alike (U.calling f mk a).vm := Vm.Alike.refl U.vm
  exact ⟨⟨vk_S.moved hv a1, va_Z.moved hv a2, va_Zq.moved hv a3⟩, ⟨⟨va_Z.moved hv b1, va_T.moved hv b2⟩, ⟨va_Z.moved hv b3, va_T.moved hv b4⟩⟩, ⟨c1.same rfl, c2.same rfl⟩, ⟨d1.same rfl rfl, d2.same rfl rfl⟩, ⟨e1.same rfl rfl, e2.same rfl rfl⟩⟩
/-- the world at a method's start -/
def gP (g : gE) (w0 : va_W) (sz : Nat) (U : State) : Prop := U.heap.size = sz ∧ va_P g.1 vwCl w0 U.heap ∧ va_K g.1 vwCl (gTy g) U ∧ va_D (fun _ => True) w0 ∧ gS g (va_A w0 sz) U U.heap
theorem gP_blind {g : gE} {w0 : va_W} {sz : Nat} {av : List Value} : FrameBlind (va_Pc av (gP g w0 sz)) := by
  rintro a U f mk ⟨h1, h2, h3, h4, h5, h6⟩
  exact ⟨h1, h2, h3, va_K.moved (u := U) (Vm.Alike.refl U.vm) h4, h5, gS_blind h6⟩
/-- contracts: int, void, reference -/
def Ci (l : Launch) (g : gE) (y : MethodName) (wy : List Cond) (ry : Room) (av : List Value) (w0 : va_W) {S : Type} (post : Int32 → S → Prop) (w1 : S → va_W) (mc ms : Nat) : Prop :=
  ∀ sz : Nat, Met l y wy ry (va_Pc av (gP g w0 sz)) (va_Qi post (fun u t => va_P g.1 vwCl (w1 u) t.heap ∧ va_D (va_A w0 sz) (w1 u)) (va_A w0 sz)) mc ms (va_A w0 sz)
def Cv (l : Launch) (g : gE) (y : MethodName) (wy : List Cond) (ry : Room) (av : List Value) (w0 : va_W) {S : Type} (post : S → Prop) (w1 : S → va_W) (mc ms : Nat) : Prop :=
  ∀ sz : Nat, Met l y wy ry (va_Pc av (gP g w0 sz)) (va_Qv post (fun u t => va_P g.1 vwCl (w1 u) t.heap ∧ va_D (va_A w0 sz) (w1 u)) (va_A w0 sz)) mc ms (va_A w0 sz)
def Cr (l : Launch) (g : gE) (y : MethodName) (wy : List Cond) (ry : Room) (av : List Value) (w0 : va_W) {S : Type} (ad : Nat) (post : S → Prop) (w1 : S → va_W) (mc ms : Nat) : Prop :=
  ∀ sz : Nat, Met l y wy ry (va_Pc av (gP g w0 sz)) (va_Qr post (fun u a t => a = ad ∧ va_P g.1 vwCl (w1 u) t.heap ∧ va_D (va_A w0 sz) (w1 u)) (va_A w0 sz)) mc ms (va_A w0 sz)
/-- the machine's part of a walk: program, environment, room, start, method, arguments, what is below, the method, its code, what is to be reached -/
abbrev jX : Type := Program × Env × Room × State × MethodId × Array Value × List Frame × Method × Code × (State → Prop)
def J (l : Launch) (g : gE) (A : Nat → Prop) (x : jX) (nL kc kn pc : Nat) (lv : List (Nat × Value)) (st : List Value) (ws : va_W) : Prop :=
  ∀ (H : Heap) (locs : List Loc) (ls : Array Slot), va_P g.1 vwCl ws H → va_D A ws → va_S A x.2.2.2.1.heap H locs → lv_has ls nL lv → W x.1 l x.2.1 x.2.2.1 x.2.2.2.1 x.2.2.2.2.1 x.2.2.2.2.2.1 x.2.2.2.2.2.2.1 x.2.2.2.2.2.2.2.1 x.2.2.2.2.2.2.2.2.1 H locs kc kn x.2.2.2.2.2.2.2.2.2 (F0 x.2.2.2.2.1 pc ls st)
def JC (g : gE) (A : Nat → Prop) (x : jX) (own : String) (cc : ByteArray) (nL : Nat) (Ts : List Cond) (rm : Room) : Prop :=
  x.1.tables.exec = Jvm.exec ∧ x.2.2.2.2.2.2.2.2.1.code = cc ∧ x.2.2.2.2.2.2.2.2.1.maxLocals = nL ∧ x.2.2.2.1.vm.findClass own = some x.2.2.2.2.1.cls ∧ (∀ w ∈ Ts, w.before x.2.2.2.2.2.1 x.2.2.2.1 = true) ∧ va_K g.1 vwCl (gTy g) x.2.2.2.1 ∧ (∀ q, x.2.2.2.1.heap.size ≤ q → A q) ∧ gS g A x.2.2.2.1 x.2.2.2.1.heap ∧ x.2.2.1 = rm
def JR (A : Nat → Prop) (x : jX) (y : MethodName) (ret : Option FieldType) (mc ms : Nat) (Qc : Array Value → State → Outcome → State → Prop) : Prop :=
  x.2.2.2.2.2.2.2.1.sig.returnType = ret ∧ x.2.2.2.2.2.2.2.1.locks = false ∧ x.2.2.2.2.2.2.2.1.name = y.name ∧ x.2.2.2.2.2.2.2.2.2 = MQ x.2.2.2.2.2.2.1 Qc x.2.2.2.2.2.1 x.2.2.2.1 mc ms A
theorem met_of {l : Launch} {g : gE} {y : MethodName} {wy wy' : List Cond} {ry : Room} {av : List Value} {w0 : va_W} {cc : ByteArray} {nL : Nat} {ret : Option FieldType} {mc ms : Nat} {Qc : Array Value → State → Outcome → State → Prop} {lv0 : List (Nat × Value)} {own : String} (sz : Nat) (hy : plainName y.cls = true) (hown : y.cls = own) (hw : wy = Cond.code y cc nL ret :: wy') (hlen : (lg_sl av).length ≤ nL) (hlv : lv_args 0 av = lv0)
    (body : ∀ x : jX, JC g (va_A w0 sz) x own cc nL wy ry → JR (va_A w0 sz) x y ret mc ms Qc → J l g (va_A w0 sz) x nL 0 0 0 lv0 [] w0) : Met l y wy ry (va_Pc av (gP g w0 sz)) Qc mc ms (va_A w0 sz) := by
  refine Met.ofW (cc := cc) (maxL := nL) (ret := ret) hy hw ?_
  intro p e s m args below meth c s₁ B hml hv
  obtain ⟨rfl, hsz, hP, hK, hD0, hG⟩ := hv
  subst hsz
  have hts := atoms_spec (ws := wy) B.pre
  have ho : s.vm.findClass own = some m.cls := by rw [← hown]; exact findClass_of_methodNamed B.named
  have hl := lv_entry av (n := nL) hlen
  rw [lg_entry_eq]
  rw [hlv] at hl
  exact body (p, e, _, s, m, av.toArray, below, meth, c, _) ⟨B.exec, B.bytes, hml, ho, hts, hK, fun q h => Or.inr h, hG, rfl⟩ ⟨B.returns, B.notSynchronized, (name_of_methodNamed B.named B.method).1, rfl⟩ s.heap [] _ hP hD0.self va_S.rf hl
theorem Ci_of {l : Launch} {g : gE} {y : MethodName} {wy wy' : List Cond} {ry : Room} {av : List Value} {w0 : va_W} {S : Type} {post : Int32 → S → Prop} {w1 : S → va_W} {cc : ByteArray} {nL : Nat} {ret : Option FieldType} {mc ms : Nat} {lv0 : List (Nat × Value)} {own : String} (hy : plainName y.cls = true) (hown : y.cls = own) (hw : wy = Cond.code y cc nL ret :: wy') (hlen : (lg_sl av).length ≤ nL) (hlv : lv_args 0 av = lv0)
    (body : ∀ (A : Nat → Prop) (x : jX), JC g A x own cc nL wy ry → JR A x y ret mc ms (va_Qi post (fun u t => va_P g.1 vwCl (w1 u) t.heap ∧ va_D A (w1 u)) A) → J l g A x nL 0 0 0 lv0 [] w0) : Ci l g y wy ry av w0 post w1 mc ms := fun sz => met_of sz hy hown hw hlen hlv (fun x => body _ x)
theorem Cv_of {l : Launch} {g : gE} {y : MethodName} {wy wy' : List Cond} {ry : Room} {av : List Value} {w0 : va_W} {S : Type} {post : S → Prop} {w1 : S → va_W} {cc : ByteArray} {nL : Nat} {ret : Option FieldType} {mc ms : Nat} {lv0 : List (Nat × Value)} {own : String} (hy : plainName y.cls = true) (hown : y.cls = own) (hw : wy = Cond.code y cc nL ret :: wy') (hlen : (lg_sl av).length ≤ nL) (hlv : lv_args 0 av = lv0)
    (body : ∀ (A : Nat → Prop) (x : jX), JC g A x own cc nL wy ry → JR A x y ret mc ms (va_Qv post (fun u t => va_P g.1 vwCl (w1 u) t.heap ∧ va_D A (w1 u)) A) → J l g A x nL 0 0 0 lv0 [] w0) : Cv l g y wy ry av w0 post w1 mc ms := fun sz => met_of sz hy hown hw hlen hlv (fun x => body _ x)
theorem Cr_of {l : Launch} {g : gE} {y : MethodName} {wy wy' : List Cond} {ry : Room} {av : List Value} {w0 : va_W} {S : Type} {ad : Nat} {post : S → Prop} {w1 : S → va_W} {cc : ByteArray} {nL : Nat} {ret : Option FieldType} {mc ms : Nat} {lv0 : List (Nat × Value)} {own : String} (hy : plainName y.cls = true) (hown : y.cls = own) (hw : wy = Cond.code y cc nL ret :: wy') (hlen : (lg_sl av).length ≤ nL) (hlv : lv_args 0 av = lv0)
    (body : ∀ (A : Nat → Prop) (x : jX), JC g A x own cc nL wy ry → JR A x y ret mc ms (va_Qr post (fun u a t => a = ad ∧ va_P g.1 vwCl (w1 u) t.heap ∧ va_D A (w1 u)) A) → J l g A x nL 0 0 0 lv0 [] w0) : Cr l g y wy ry av w0 ad post w1 mc ms := fun sz => met_of sz hy hown hw hlen hlv (fun x => body _ x)
abbrev iR (a b : Int32) : Int32 := a - a / b * b
abbrev iUs (a b : Int32) : Int32 := (a.toUInt32 >>> (b.toUInt32 &&& Int32.toUInt32 31)).toInt32
abbrev iC (a : Int32) : Int32 := (a.toUInt32 % 65536).toInt32
abbrev iMi (a b : Int32) : Int32 := if b < a then b else a
abbrev iMa (a b : Int32) : Int32 := if a < b then b else a
theorem ix_in {i : Int32} {k n : Nat} (e : i = nI k) (hk : k < n) (hn : n < 2147483648) : vp_in i n := by rw [e]; exact vp_in_nI hk (by omega)
theorem ix_cl {i : Int32} {k n : Nat} (e : i = nI k) (hk : k < n) (hn : n < 2147483648) : i.toNatClampNeg = k := by rw [e]; exact nI_clamp (by omega)
theorem ix_pos {i : Int32} {k n : Nat} (e : i = nI k) (hk : k ≤ n) (hn : n < 2147483648) : ¬ i < 0 := by rw [e]; exact nI_pos (by omega)
theorem ix_cle {i : Int32} {k n : Nat} (e : i = nI k) (hk : k ≤ n) (hn : n < 2147483648) : i.toNatClampNeg = k := by rw [e]; exact nI_clamp (by omega)
theorem tc_eq {x : Int32} {n : Int} (c : Int32) (h : x.toInt = n) (hc : c.toInt = n) : x = c := Int32.toInt_inj.mp (h.trans hc.symm)
/-- loops, said ahead: an invariant with a number that falls at every turn -/
def lpW1 {A1 : Type} (body : (A1 → Prop) → A1 → Prop) (a1 : A1) : Prop := ∃ (I : Nat → A1 → Prop) (n : Nat), I n a1 ∧ ∀ (m : Nat) (b1 : A1), I m b1 → body (fun c1 => ∃ k, k < m ∧ I k c1) b1
theorem lpW1_ind {A1 : Type} {body : (A1 → Prop) → A1 → Prop} {G : A1 → Prop} (h : ∀ (K : A1 → Prop) (a1 : A1), (∀ (b1 : A1), K b1 → G b1) → body K a1 → G a1) : ∀ (a1 : A1), lpW1 body a1 → G a1 := by
  rintro a1 ⟨I, n, hI, hb⟩
  have key : ∀ (N m : Nat) (a1 : A1), m < N → I m a1 → G a1 := by
    intro N
    induction N with
    | zero => intro m a1 h; exact absurd h (Nat.not_lt_zero _)
    | succ N ih =>
      intro m a1 hm hIa
      refine h _ a1 (fun b1 hb2 => ?_) (hb m a1 hIa)
      obtain ⟨k, hk, hI2⟩ := hb2
      exact ih k b1 (by omega) hI2
  exact key (n + 1) n a1 (Nat.lt_succ_self _) hI
theorem lpW1_for {A1 : Type} {body : (A1 → Prop) → A1 → Prop} (s1 : Nat → A1) (n : Nat) (hs : ∀ (k : Nat), k < n → ∀ K : A1 → Prop, K (s1 (k + 1)) → body K (s1 k)) (he : ∀ K : A1 → Prop, body K (s1 n)) : lpW1 body (s1 0) := by
  refine ⟨fun m b1 => ∃ k, k + m = n ∧ b1 = s1 k, n, ⟨0, Nat.zero_add n, rfl⟩, ?_⟩
  rintro m b1 ⟨k, hk, rfl⟩
  rcases Nat.eq_zero_or_pos m with rfl | h0
  · have e : k = n := by omega
    subst e
    exact he _
  · exact hs k (by omega) _ ⟨m - 1, by omega, k + 1, by omega, rfl⟩
theorem lpW1_inv {A1 : Type} {body : (A1 → Prop) → A1 → Prop} (I : A1 → Prop) (μ : A1 → Nat) (hb : ∀ (b1 : A1), I b1 → body (fun c1 => ∃ k, k < μ b1 ∧ (I c1 ∧ μ c1 = k)) b1) (a1 : A1) (hI : I a1) : lpW1 body a1 :=
  ⟨fun m b1 => I b1 ∧ μ b1 = m, μ a1, ⟨hI, rfl⟩, fun m b1 h => by obtain ⟨h1, rfl⟩ := h; exact hb b1 h1⟩
def lpW2 {A1 A2 : Type} (body : (A1 → A2 → Prop) → A1 → A2 → Prop) (a1 : A1) (a2 : A2) : Prop := ∃ (I : Nat → A1 → A2 → Prop) (n : Nat), I n a1 a2 ∧ ∀ (m : Nat) (b1 : A1) (b2 : A2), I m b1 b2 → body (fun c1 c2 => ∃ k, k < m ∧ I k c1 c2) b1 b2
theorem lpW2_ind {A1 A2 : Type} {body : (A1 → A2 → Prop) → A1 → A2 → Prop} {G : A1 → A2 → Prop} (h : ∀ (K : A1 → A2 → Prop) (a1 : A1) (a2 : A2), (∀ (b1 : A1) (b2 : A2), K b1 b2 → G b1 b2) → body K a1 a2 → G a1 a2) : ∀ (a1 : A1) (a2 : A2), lpW2 body a1 a2 → G a1 a2 := by
  rintro a1 a2 ⟨I, n, hI, hb⟩
  have key : ∀ (N m : Nat) (a1 : A1) (a2 : A2), m < N → I m a1 a2 → G a1 a2 := by
    intro N
    induction N with
    | zero => intro m a1 a2 h; exact absurd h (Nat.not_lt_zero _)
    | succ N ih =>
      intro m a1 a2 hm hIa
      refine h _ a1 a2 (fun b1 b2 hb2 => ?_) (hb m a1 a2 hIa)
      obtain ⟨k, hk, hI2⟩ := hb2
      exact ih k b1 b2 (by omega) hI2
  exact key (n + 1) n a1 a2 (Nat.lt_succ_self _) hI
theorem lpW2_for {A1 A2 : Type} {body : (A1 → A2 → Prop) → A1 → A2 → Prop} (s1 : Nat → A1) (s2 : Nat → A2) (n : Nat) (hs : ∀ (k : Nat), k < n → ∀ K : A1 → A2 → Prop, K (s1 (k + 1)) (s2 (k + 1)) → body K (s1 k) (s2 k)) (he : ∀ K : A1 → A2 → Prop, body K (s1 n) (s2 n)) : lpW2 body (s1 0) (s2 0) := by
  refine ⟨fun m b1 b2 => ∃ k, k + m = n ∧ b1 = s1 k ∧ b2 = s2 k, n, ⟨0, Nat.zero_add n, rfl, rfl⟩, ?_⟩
  rintro m b1 b2 ⟨k, hk, rfl, rfl⟩
  rcases Nat.eq_zero_or_pos m with rfl | h0
  · have e : k = n := by omega
    subst e
    exact he _
  · exact hs k (by omega) _ ⟨m - 1, by omega, k + 1, by omega, rfl, rfl⟩
theorem lpW2_inv {A1 A2 : Type} {body : (A1 → A2 → Prop) → A1 → A2 → Prop} (I : A1 → A2 → Prop) (μ : A1 → A2 → Nat) (hb : ∀ (b1 : A1) (b2 : A2), I b1 b2 → body (fun c1 c2 => ∃ k, k < μ b1 b2 ∧ (I c1 c2 ∧ μ c1 c2 = k)) b1 b2) (a1 : A1) (a2 : A2) (hI : I a1 a2) : lpW2 body a1 a2 :=
  ⟨fun m b1 b2 => I b1 b2 ∧ μ b1 b2 = m, μ a1 a2, ⟨hI, rfl⟩, fun m b1 b2 h => by obtain ⟨h1, rfl⟩ := h; exact hb b1 b2 h1⟩
def lpW3 {A1 A2 A3 : Type} (body : (A1 → A2 → A3 → Prop) → A1 → A2 → A3 → Prop) (a1 : A1) (a2 : A2) (a3 : A3) : Prop := ∃ (I : Nat → A1 → A2 → A3 → Prop) (n : Nat), I n a1 a2 a3 ∧ ∀ (m : Nat) (b1 : A1) (b2 : A2) (b3 : A3), I m b1 b2 b3 → body (fun c1 c2 c3 => ∃ k, k < m ∧ I k c1 c2 c3) b1 b2 b3
theorem lpW3_ind {A1 A2 A3 : Type} {body : (A1 → A2 → A3 → Prop) → A1 → A2 → A3 → Prop} {G : A1 → A2 → A3 → Prop} (h : ∀ (K : A1 → A2 → A3 → Prop) (a1 : A1) (a2 : A2) (a3 : A3), (∀ (b1 : A1) (b2 : A2) (b3 : A3), K b1 b2 b3 → G b1 b2 b3) → body K a1 a2 a3 → G a1 a2 a3) : ∀ (a1 : A1) (a2 : A2) (a3 : A3), lpW3 body a1 a2 a3 → G a1 a2 a3 := by
  rintro a1 a2 a3 ⟨I, n, hI, hb⟩
  have key : ∀ (N m : Nat) (a1 : A1) (a2 : A2) (a3 : A3), m < N → I m a1 a2 a3 → G a1 a2 a3 := by
    intro N
    induction N with
    | zero => intro m a1 a2 a3 h; exact absurd h (Nat.not_lt_zero _)
    | succ N ih =>
      intro m a1 a2 a3 hm hIa
      refine h _ a1 a2 a3 (fun b1 b2 b3 hb2 => ?_) (hb m a1 a2 a3 hIa)
      obtain ⟨k, hk, hI2⟩ := hb2
      exact ih k b1 b2 b3 (by omega) hI2
  exact key (n + 1) n a1 a2 a3 (Nat.lt_succ_self _) hI
theorem lpW3_for {A1 A2 A3 : Type} {body : (A1 → A2 → A3 → Prop) → A1 → A2 → A3 → Prop} (s1 : Nat → A1) (s2 : Nat → A2) (s3 : Nat → A3) (n : Nat) (hs : ∀ (k : Nat), k < n → ∀ K : A1 → A2 → A3 → Prop, K (s1 (k + 1)) (s2 (k + 1)) (s3 (k + 1)) → body K (s1 k) (s2 k) (s3 k)) (he : ∀ K : A1 → A2 → A3 → Prop, body K (s1 n) (s2 n) (s3 n)) : lpW3 body (s1 0) (s2 0) (s3 0) := by
  refine ⟨fun m b1 b2 b3 => ∃ k, k + m = n ∧ b1 = s1 k ∧ b2 = s2 k ∧ b3 = s3 k, n, ⟨0, Nat.zero_add n, rfl, rfl, rfl⟩, ?_⟩
  rintro m b1 b2 b3 ⟨k, hk, rfl, rfl, rfl⟩
  rcases Nat.eq_zero_or_pos m with rfl | h0
  · have e : k = n := by omega
    subst e
    exact he _
  · exact hs k (by omega) _ ⟨m - 1, by omega, k + 1, by omega, rfl, rfl, rfl⟩
theorem lpW3_inv {A1 A2 A3 : Type} {body : (A1 → A2 → A3 → Prop) → A1 → A2 → A3 → Prop} (I : A1 → A2 → A3 → Prop) (μ : A1 → A2 → A3 → Nat) (hb : ∀ (b1 : A1) (b2 : A2) (b3 : A3), I b1 b2 b3 → body (fun c1 c2 c3 => ∃ k, k < μ b1 b2 b3 ∧ (I c1 c2 c3 ∧ μ c1 c2 c3 = k)) b1 b2 b3) (a1 : A1) (a2 : A2) (a3 : A3) (hI : I a1 a2 a3) : lpW3 body a1 a2 a3 :=
  ⟨fun m b1 b2 b3 => I b1 b2 b3 ∧ μ b1 b2 b3 = m, μ a1 a2 a3, ⟨hI, rfl⟩, fun m b1 b2 b3 h => by obtain ⟨h1, rfl⟩ := h; exact hb b1 b2 b3 h1⟩
def lpW4 {A1 A2 A3 A4 : Type} (body : (A1 → A2 → A3 → A4 → Prop) → A1 → A2 → A3 → A4 → Prop) (a1 : A1) (a2 : A2) (a3 : A3) (a4 : A4) : Prop := ∃ (I : Nat → A1 → A2 → A3 → A4 → Prop) (n : Nat), I n a1 a2 a3 a4 ∧ ∀ (m : Nat) (b1 : A1) (b2 : A2) (b3 : A3) (b4 : A4), I m b1 b2 b3 b4 → body (fun c1 c2 c3 c4 => ∃ k, k < m ∧ I k c1 c2 c3 c4) b1 b2 b3 b4
theorem lpW4_ind {A1 A2 A3 A4 : Type} {body : (A1 → A2 → A3 → A4 → Prop) → A1 → A2 → A3 → A4 → Prop} {G : A1 → A2 → A3 → A4 → Prop} (h : ∀ (K : A1 → A2 → A3 → A4 → Prop) (a1 : A1) (a2 : A2) (a3 : A3) (a4 : A4), (∀ (b1 : A1) (b2 : A2) (b3 : A3) (b4 : A4), K b1 b2 b3 b4 → G b1 b2 b3 b4) → body K a1 a2 a3 a4 → G a1 a2 a3 a4) : ∀ (a1 : A1) (a2 : A2) (a3 : A3) (a4 : A4), lpW4 body a1 a2 a3 a4 → G a1 a2 a3 a4 := by
  rintro a1 a2 a3 a4 ⟨I, n, hI, hb⟩
  have key : ∀ (N m : Nat) (a1 : A1) (a2 : A2) (a3 : A3) (a4 : A4), m < N → I m a1 a2 a3 a4 → G a1 a2 a3 a4 := by
    intro N
    induction N with
    | zero => intro m a1 a2 a3 a4 h; exact absurd h (Nat.not_lt_zero _)
    | succ N ih =>
      intro m a1 a2 a3 a4 hm hIa
      refine h _ a1 a2 a3 a4 (fun b1 b2 b3 b4 hb2 => ?_) (hb m a1 a2 a3 a4 hIa)
      obtain ⟨k, hk, hI2⟩ := hb2
      exact ih k b1 b2 b3 b4 (by omega) hI2
  exact key (n + 1) n a1 a2 a3 a4 (Nat.lt_succ_self _) hI
theorem lpW4_for {A1 A2 A3 A4 : Type} {body : (A1 → A2 → A3 → A4 → Prop) → A1 → A2 → A3 → A4 → Prop} (s1 : Nat → A1) (s2 : Nat → A2) (s3 : Nat → A3) (s4 : Nat → A4) (n : Nat) (hs : ∀ (k : Nat), k < n → ∀ K : A1 → A2 → A3 → A4 → Prop, K (s1 (k + 1)) (s2 (k + 1)) (s3 (k + 1)) (s4 (k + 1)) → body K (s1 k) (s2 k) (s3 k) (s4 k)) (he : ∀ K : A1 → A2 → A3 → A4 → Prop, body K (s1 n) (s2 n) (s3 n) (s4 n)) : lpW4 body (s1 0) (s2 0) (s3 0) (s4 0) := by
  refine ⟨fun m b1 b2 b3 b4 => ∃ k, k + m = n ∧ b1 = s1 k ∧ b2 = s2 k ∧ b3 = s3 k ∧ b4 = s4 k, n, ⟨0, Nat.zero_add n, rfl, rfl, rfl, rfl⟩, ?_⟩
  rintro m b1 b2 b3 b4 ⟨k, hk, rfl, rfl, rfl, rfl⟩
  rcases Nat.eq_zero_or_pos m with rfl | h0
  · have e : k = n := by omega
    subst e
    exact he _
  · exact hs k (by omega) _ ⟨m - 1, by omega, k + 1, by omega, rfl, rfl, rfl, rfl⟩
theorem lpW4_inv {A1 A2 A3 A4 : Type} {body : (A1 → A2 → A3 → A4 → Prop) → A1 → A2 → A3 → A4 → Prop} (I : A1 → A2 → A3 → A4 → Prop) (μ : A1 → A2 → A3 → A4 → Nat) (hb : ∀ (b1 : A1) (b2 : A2) (b3 : A3) (b4 : A4), I b1 b2 b3 b4 → body (fun c1 c2 c3 c4 => ∃ k, k < μ b1 b2 b3 b4 ∧ (I c1 c2 c3 c4 ∧ μ c1 c2 c3 c4 = k)) b1 b2 b3 b4) (a1 : A1) (a2 : A2) (a3 : A3) (a4 : A4) (hI : I a1 a2 a3 a4) : lpW4 body a1 a2 a3 a4 :=
  ⟨fun m b1 b2 b3 b4 => I b1 b2 b3 b4 ∧ μ b1 b2 b3 b4 = m, μ a1 a2 a3 a4, ⟨hI, rfl⟩, fun m b1 b2 b3 b4 h => by obtain ⟨h1, rfl⟩ := h; exact hb b1 b2 b3 b4 h1⟩
def lpW5 {A1 A2 A3 A4 A5 : Type} (body : (A1 → A2 → A3 → A4 → A5 → Prop) → A1 → A2 → A3 → A4 → A5 → Prop) (a1 : A1) (a2 : A2) (a3 : A3) (a4 : A4) (a5 : A5) : Prop := ∃ (I : Nat → A1 → A2 → A3 → A4 → A5 → Prop) (n : Nat), I n a1 a2 a3 a4 a5 ∧ ∀ (m : Nat) (b1 : A1) (b2 : A2) (b3 : A3) (b4 : A4) (b5 : A5), I m b1 b2 b3 b4 b5 → body (fun c1 c2 c3 c4 c5 => ∃ k, k < m ∧ I k c1 c2 c3 c4 c5) b1 b2 b3 b4 b5
theorem lpW5_ind {A1 A2 A3 A4 A5 : Type} {body : (A1 → A2 → A3 → A4 → A5 → Prop) → A1 → A2 → A3 → A4 → A5 → Prop} {G : A1 → A2 → A3 → A4 → A5 → Prop} (h : ∀ (K : A1 → A2 → A3 → A4 → A5 → Prop) (a1 : A1) (a2 : A2) (a3 : A3) (a4 : A4) (a5 : A5), (∀ (b1 : A1) (b2 : A2) (b3 : A3) (b4 : A4) (b5 : A5), K b1 b2 b3 b4 b5 → G b1 b2 b3 b4 b5) → body K a1 a2 a3 a4 a5 → G a1 a2 a3 a4 a5) : ∀ (a1 : A1) (a2 : A2) (a3 : A3) (a4 : A4) (a5 : A5), lpW5 body a1 a2 a3 a4 a5 → G a1 a2 a3 a4 a5 := by
  rintro a1 a2 a3 a4 a5 ⟨I, n, hI, hb⟩
  have key : ∀ (N m : Nat) (a1 : A1) (a2 : A2) (a3 : A3) (a4 : A4) (a5 : A5), m < N → I m a1 a2 a3 a4 a5 → G a1 a2 a3 a4 a5 := by
    intro N
    induction N with
    | zero => intro m a1 a2 a3 a4 a5 h; exact absurd h (Nat.not_lt_zero _)
    | succ N ih =>
      intro m a1 a2 a3 a4 a5 hm hIa
      refine h _ a1 a2 a3 a4 a5 (fun b1 b2 b3 b4 b5 hb2 => ?_) (hb m a1 a2 a3 a4 a5 hIa)
      obtain ⟨k, hk, hI2⟩ := hb2
      exact ih k b1 b2 b3 b4 b5 (by omega) hI2
  exact key (n + 1) n a1 a2 a3 a4 a5 (Nat.lt_succ_self _) hI
theorem lpW5_for {A1 A2 A3 A4 A5 : Type} {body : (A1 → A2 → A3 → A4 → A5 → Prop) → A1 → A2 → A3 → A4 → A5 → Prop} (s1 : Nat → A1) (s2 : Nat → A2) (s3 : Nat → A3) (s4 : Nat → A4) (s5 : Nat → A5) (n : Nat) (hs : ∀ (k : Nat), k < n → ∀ K : A1 → A2 → A3 → A4 → A5 → Prop, K (s1 (k + 1)) (s2 (k + 1)) (s3 (k + 1)) (s4 (k + 1)) (s5 (k + 1)) → body K (s1 k) (s2 k) (s3 k) (s4 k) (s5 k)) (he : ∀ K : A1 → A2 → A3 → A4 → A5 → Prop, body K (s1 n) (s2 n) (s3 n) (s4 n) (s5 n)) : lpW5 body (s1 0) (s2 0) (s3 0) (s4 0) (s5 0) := by
  refine ⟨fun m b1 b2 b3 b4 b5 => ∃ k, k + m = n ∧ b1 = s1 k ∧ b2 = s2 k ∧ b3 = s3 k ∧ b4 = s4 k ∧ b5 = s5 k, n, ⟨0, Nat.zero_add n, rfl, rfl, rfl, rfl, rfl⟩, ?_⟩
  rintro m b1 b2 b3 b4 b5 ⟨k, hk, rfl, rfl, rfl, rfl, rfl⟩
  rcases Nat.eq_zero_or_pos m with rfl | h0
  · have e : k = n := by omega
    subst e
    exact he _
  · exact hs k (by omega) _ ⟨m - 1, by omega, k + 1, by omega, rfl, rfl, rfl, rfl, rfl⟩
theorem lpW5_inv {A1 A2 A3 A4 A5 : Type} {body : (A1 → A2 → A3 → A4 → A5 → Prop) → A1 → A2 → A3 → A4 → A5 → Prop} (I : A1 → A2 → A3 → A4 → A5 → Prop) (μ : A1 → A2 → A3 → A4 → A5 → Nat) (hb : ∀ (b1 : A1) (b2 : A2) (b3 : A3) (b4 : A4) (b5 : A5), I b1 b2 b3 b4 b5 → body (fun c1 c2 c3 c4 c5 => ∃ k, k < μ b1 b2 b3 b4 b5 ∧ (I c1 c2 c3 c4 c5 ∧ μ c1 c2 c3 c4 c5 = k)) b1 b2 b3 b4 b5) (a1 : A1) (a2 : A2) (a3 : A3) (a4 : A4) (a5 : A5) (hI : I a1 a2 a3 a4 a5) : lpW5 body a1 a2 a3 a4 a5 :=
  ⟨fun m b1 b2 b3 b4 b5 => I b1 b2 b3 b4 b5 ∧ μ b1 b2 b3 b4 b5 = m, μ a1 a2 a3 a4 a5, ⟨hI, rfl⟩, fun m b1 b2 b3 b4 b5 h => by obtain ⟨h1, rfl⟩ := h; exact hb b1 b2 b3 b4 b5 h1⟩
def lpW6 {A1 A2 A3 A4 A5 A6 : Type} (body : (A1 → A2 → A3 → A4 → A5 → A6 → Prop) → A1 → A2 → A3 → A4 → A5 → A6 → Prop) (a1 : A1) (a2 : A2) (a3 : A3) (a4 : A4) (a5 : A5) (a6 : A6) : Prop := ∃ (I : Nat → A1 → A2 → A3 → A4 → A5 → A6 → Prop) (n : Nat), I n a1 a2 a3 a4 a5 a6 ∧ ∀ (m : Nat) (b1 : A1) (b2 : A2) (b3 : A3) (b4 : A4) (b5 : A5) (b6 : A6), I m b1 b2 b3 b4 b5 b6 → body (fun c1 c2 c3 c4 c5 c6 => ∃ k, k < m ∧ I k c1 c2 c3 c4 c5 c6) b1 b2 b3 b4 b5 b6
theorem lpW6_ind {A1 A2 A3 A4 A5 A6 : Type} {body : (A1 → A2 → A3 → A4 → A5 → A6 → Prop) → A1 → A2 → A3 → A4 → A5 → A6 → Prop} {G : A1 → A2 → A3 → A4 → A5 → A6 → Prop} (h : ∀ (K : A1 → A2 → A3 → A4 → A5 → A6 → Prop) (a1 : A1) (a2 : A2) (a3 : A3) (a4 : A4) (a5 : A5) (a6 : A6), (∀ (b1 : A1) (b2 : A2) (b3 : A3) (b4 : A4) (b5 : A5) (b6 : A6), K b1 b2 b3 b4 b5 b6 → G b1 b2 b3 b4 b5 b6) → body K a1 a2 a3 a4 a5 a6 → G a1 a2 a3 a4 a5 a6) : ∀ (a1 : A1) (a2 : A2) (a3 : A3) (a4 : A4) (a5 : A5) (a6 : A6), lpW6 body a1 a2 a3 a4 a5 a6 → G a1 a2 a3 a4 a5 a6 := by
  rintro a1 a2 a3 a4 a5 a6 ⟨I, n, hI, hb⟩
  have key : ∀ (N m : Nat) (a1 : A1) (a2 : A2) (a3 : A3) (a4 : A4) (a5 : A5) (a6 : A6), m < N → I m a1 a2 a3 a4 a5 a6 → G a1 a2 a3 a4 a5 a6 := by
    intro N
    induction N with
    | zero => intro m a1 a2 a3 a4 a5 a6 h; exact absurd h (Nat.not_lt_zero _)
    | succ N ih =>
      intro m a1 a2 a3 a4 a5 a6 hm hIa
      refine h _ a1 a2 a3 a4 a5 a6 (fun b1 b2 b3 b4 b5 b6 hb2 => ?_) (hb m a1 a2 a3 a4 a5 a6 hIa)
      obtain ⟨k, hk, hI2⟩ := hb2
      exact ih k b1 b2 b3 b4 b5 b6 (by omega) hI2
  exact key (n + 1) n a1 a2 a3 a4 a5 a6 (Nat.lt_succ_self _) hI
theorem lpW6_for {A1 A2 A3 A4 A5 A6 : Type} {body : (A1 → A2 → A3 → A4 → A5 → A6 → Prop) → A1 → A2 → A3 → A4 → A5 → A6 → Prop} (s1 : Nat → A1) (s2 : Nat → A2) (s3 : Nat → A3) (s4 : Nat → A4) (s5 : Nat → A5) (s6 : Nat → A6) (n : Nat) (hs : ∀ (k : Nat), k < n → ∀ K : A1 → A2 → A3 → A4 → A5 → A6 → Prop, K (s1 (k + 1)) (s2 (k + 1)) (s3 (k + 1)) (s4 (k + 1)) (s5 (k + 1)) (s6 (k + 1)) → body K (s1 k) (s2 k) (s3 k) (s4 k) (s5 k) (s6 k)) (he : ∀ K : A1 → A2 → A3 → A4 → A5 → A6 → Prop, body K (s1 n) (s2 n) (s3 n) (s4 n) (s5 n) (s6 n)) : lpW6 body (s1 0) (s2 0) (s3 0) (s4 0) (s5 0) (s6 0) := by
  refine ⟨fun m b1 b2 b3 b4 b5 b6 => ∃ k, k + m = n ∧ b1 = s1 k ∧ b2 = s2 k ∧ b3 = s3 k ∧ b4 = s4 k ∧ b5 = s5 k ∧ b6 = s6 k, n, ⟨0, Nat.zero_add n, rfl, rfl, rfl, rfl, rfl, rfl⟩, ?_⟩
  rintro m b1 b2 b3 b4 b5 b6 ⟨k, hk, rfl, rfl, rfl, rfl, rfl, rfl⟩
  rcases Nat.eq_zero_or_pos m with rfl | h0
  · have e : k = n := by omega
    subst e
    exact he _
  · exact hs k (by omega) _ ⟨m - 1, by omega, k + 1, by omega, rfl, rfl, rfl, rfl, rfl, rfl⟩
theorem lpW6_inv {A1 A2 A3 A4 A5 A6 : Type} {body : (A1 → A2 → A3 → A4 → A5 → A6 → Prop) → A1 → A2 → A3 → A4 → A5 → A6 → Prop} (I : A1 → A2 → A3 → A4 → A5 → A6 → Prop) (μ : A1 → A2 → A3 → A4 → A5 → A6 → Nat) (hb : ∀ (b1 : A1) (b2 : A2) (b3 : A3) (b4 : A4) (b5 : A5) (b6 : A6), I b1 b2 b3 b4 b5 b6 → body (fun c1 c2 c3 c4 c5 c6 => ∃ k, k < μ b1 b2 b3 b4 b5 b6 ∧ (I c1 c2 c3 c4 c5 c6 ∧ μ c1 c2 c3 c4 c5 c6 = k)) b1 b2 b3 b4 b5 b6) (a1 : A1) (a2 : A2) (a3 : A3) (a4 : A4) (a5 : A5) (a6 : A6) (hI : I a1 a2 a3 a4 a5 a6) : lpW6 body a1 a2 a3 a4 a5 a6 :=
  ⟨fun m b1 b2 b3 b4 b5 b6 => I b1 b2 b3 b4 b5 b6 ∧ μ b1 b2 b3 b4 b5 b6 = m, μ a1 a2 a3 a4 a5 a6, ⟨hI, rfl⟩, fun m b1 b2 b3 b4 b5 b6 h => by obtain ⟨h1, rfl⟩ := h; exact hb b1 b2 b3 b4 b5 b6 h1⟩
def lpW7 {A1 A2 A3 A4 A5 A6 A7 : Type} (body : (A1 → A2 → A3 → A4 → A5 → A6 → A7 → Prop) → A1 → A2 → A3 → A4 → A5 → A6 → A7 → Prop) (a1 : A1) (a2 : A2) (a3 : A3) (a4 : A4) (a5 : A5) (a6 : A6) (a7 : A7) : Prop := ∃ (I : Nat → A1 → A2 → A3 → A4 → A5 → A6 → A7 → Prop) (n : Nat), I n a1 a2 a3 a4 a5 a6 a7 ∧ ∀ (m : Nat) (b1 : A1) (b2 : A2) (b3 : A3) (b4 : A4) (b5 : A5) (b6 : A6) (b7 : A7), I m b1 b2 b3 b4 b5 b6 b7 → body (fun c1 c2 c3 c4 c5 c6 c7 => ∃ k, k < m ∧ I k c1 c2 c3 c4 c5 c6 c7) b1 b2 b3 b4 b5 b6 b7
theorem lpW7_ind {A1 A2 A3 A4 A5 A6 A7 : Type} {body : (A1 → A2 → A3 → A4 → A5 → A6 → A7 → Prop) → A1 → A2 → A3 → A4 → A5 → A6 → A7 → Prop} {G : A1 → A2 → A3 → A4 → A5 → A6 → A7 → Prop} (h : ∀ (K : A1 → A2 → A3 → A4 → A5 → A6 → A7 → Prop) (a1 : A1) (a2 : A2) (a3 : A3) (a4 : A4) (a5 : A5) (a6 : A6) (a7 : A7), (∀ (b1 : A1) (b2 : A2) (b3 : A3) (b4 : A4) (b5 : A5) (b6 : A6) (b7 : A7), K b1 b2 b3 b4 b5 b6 b7 → G b1 b2 b3 b4 b5 b6 b7) → body K a1 a2 a3 a4 a5 a6 a7 → G a1 a2 a3 a4 a5 a6 a7) : ∀ (a1 : A1) (a2 : A2) (a3 : A3) (a4 : A4) (a5 : A5) (a6 : A6) (a7 : A7), lpW7 body a1 a2 a3 a4 a5 a6 a7 → G a1 a2 a3 a4 a5 a6 a7 := by
  rintro a1 a2 a3 a4 a5 a6 a7 ⟨I, n, hI, hb⟩
  have key : ∀ (N m : Nat) (a1 : A1) (a2 : A2) (a3 : A3) (a4 : A4) (a5 : A5) (a6 : A6) (a7 : A7), m < N → I m a1 a2 a3 a4 a5 a6 a7 → G a1 a2 a3 a4 a5 a6 a7 := by
    intro N
    induction N with
    | zero => intro m a1 a2 a3 a4 a5 a6 a7 h; exact absurd h (Nat.not_lt_zero _)
    | succ N ih =>
      intro m a1 a2 a3 a4 a5 a6 a7 hm hIa
      refine h _ a1 a2 a3 a4 a5 a6 a7 (fun b1 b2 b3 b4 b5 b6 b7 hb2 => ?_) (hb m a1 a2 a3 a4 a5 a6 a7 hIa)
      obtain ⟨k, hk, hI2⟩ := hb2
      exact ih k b1 b2 b3 b4 b5 b6 b7 (by omega) hI2
  exact key (n + 1) n a1 a2 a3 a4 a5 a6 a7 (Nat.lt_succ_self _) hI
theorem lpW7_for {A1 A2 A3 A4 A5 A6 A7 : Type} {body : (A1 → A2 → A3 → A4 → A5 → A6 → A7 → Prop) → A1 → A2 → A3 → A4 → A5 → A6 → A7 → Prop} (s1 : Nat → A1) (s2 : Nat → A2) (s3 : Nat → A3) (s4 : Nat → A4) (s5 : Nat → A5) (s6 : Nat → A6) (s7 : Nat → A7) (n : Nat) (hs : ∀ (k : Nat), k < n → ∀ K : A1 → A2 → A3 → A4 → A5 → A6 → A7 → Prop, K (s1 (k + 1)) (s2 (k + 1)) (s3 (k + 1)) (s4 (k + 1)) (s5 (k + 1)) (s6 (k + 1)) (s7 (k + 1)) → body K (s1 k) (s2 k) (s3 k) (s4 k) (s5 k) (s6 k) (s7 k)) (he : ∀ K : A1 → A2 → A3 → A4 → A5 → A6 → A7 → Prop, body K (s1 n) (s2 n) (s3 n) (s4 n) (s5 n) (s6 n) (s7 n)) : lpW7 body (s1 0) (s2 0) (s3 0) (s4 0) (s5 0) (s6 0) (s7 0) := by
  refine ⟨fun m b1 b2 b3 b4 b5 b6 b7 => ∃ k, k + m = n ∧ b1 = s1 k ∧ b2 = s2 k ∧ b3 = s3 k ∧ b4 = s4 k ∧ b5 = s5 k ∧ b6 = s6 k ∧ b7 = s7 k, n, ⟨0, Nat.zero_add n, rfl, rfl, rfl, rfl, rfl, rfl, rfl⟩, ?_⟩
  rintro m b1 b2 b3 b4 b5 b6 b7 ⟨k, hk, rfl, rfl, rfl, rfl, rfl, rfl, rfl⟩
  rcases Nat.eq_zero_or_pos m with rfl | h0
  · have e : k = n := by omega
    subst e
    exact he _
  · exact hs k (by omega) _ ⟨m - 1, by omega, k + 1, by omega, rfl, rfl, rfl, rfl, rfl, rfl, rfl⟩
theorem lpW7_inv {A1 A2 A3 A4 A5 A6 A7 : Type} {body : (A1 → A2 → A3 → A4 → A5 → A6 → A7 → Prop) → A1 → A2 → A3 → A4 → A5 → A6 → A7 → Prop} (I : A1 → A2 → A3 → A4 → A5 → A6 → A7 → Prop) (μ : A1 → A2 → A3 → A4 → A5 → A6 → A7 → Nat) (hb : ∀ (b1 : A1) (b2 : A2) (b3 : A3) (b4 : A4) (b5 : A5) (b6 : A6) (b7 : A7), I b1 b2 b3 b4 b5 b6 b7 → body (fun c1 c2 c3 c4 c5 c6 c7 => ∃ k, k < μ b1 b2 b3 b4 b5 b6 b7 ∧ (I c1 c2 c3 c4 c5 c6 c7 ∧ μ c1 c2 c3 c4 c5 c6 c7 = k)) b1 b2 b3 b4 b5 b6 b7) (a1 : A1) (a2 : A2) (a3 : A3) (a4 : A4) (a5 : A5) (a6 : A6) (a7 : A7) (hI : I a1 a2 a3 a4 a5 a6 a7) : lpW7 body a1 a2 a3 a4 a5 a6 a7 :=
  ⟨fun m b1 b2 b3 b4 b5 b6 b7 => I b1 b2 b3 b4 b5 b6 b7 ∧ μ b1 b2 b3 b4 b5 b6 b7 = m, μ a1 a2 a3 a4 a5 a6 a7, ⟨hI, rfl⟩, fun m b1 b2 b3 b4 b5 b6 b7 h => by obtain ⟨h1, rfl⟩ := h; exact hb b1 b2 b3 b4 b5 b6 b7 h1⟩
def lpW8 {A1 A2 A3 A4 A5 A6 A7 A8 : Type} (body : (A1 → A2 → A3 → A4 → A5 → A6 → A7 → A8 → Prop) → A1 → A2 → A3 → A4 → A5 → A6 → A7 → A8 → Prop) (a1 : A1) (a2 : A2) (a3 : A3) (a4 : A4) (a5 : A5) (a6 : A6) (a7 : A7) (a8 : A8) : Prop := ∃ (I : Nat → A1 → A2 → A3 → A4 → A5 → A6 → A7 → A8 → Prop) (n : Nat), I n a1 a2 a3 a4 a5 a6 a7 a8 ∧ ∀ (m : Nat) (b1 : A1) (b2 : A2) (b3 : A3) (b4 : A4) (b5 : A5) (b6 : A6) (b7 : A7) (b8 : A8), I m b1 b2 b3 b4 b5 b6 b7 b8 → body (fun c1 c2 c3 c4 c5 c6 c7 c8 => ∃ k, k < m ∧ I k c1 c2 c3 c4 c5 c6 c7 c8) b1 b2 b3 b4 b5 b6 b7 b8
theorem lpW8_ind {A1 A2 A3 A4 A5 A6 A7 A8 : Type} {body : (A1 → A2 → A3 → A4 → A5 → A6 → A7 → A8 → Prop) → A1 → A2 → A3 → A4 → A5 → A6 → A7 → A8 → Prop} {G : A1 → A2 → A3 → A4 → A5 → A6 → A7 → A8 → Prop} (h : ∀ (K : A1 → A2 → A3 → A4 → A5 → A6 → A7 → A8 → Prop) (a1 : A1) (a2 : A2) (a3 : A3) (a4 : A4) (a5 : A5) (a6 : A6) (a7 : A7) (a8 : A8), (∀ (b1 : A1) (b2 : A2) (b3 : A3) (b4 : A4) (b5 : A5) (b6 : A6) (b7 : A7) (b8 : A8), K b1 b2 b3 b4 b5 b6 b7 b8 → G b1 b2 b3 b4 b5 b6 b7 b8) → body K a1 a2 a3 a4 a5 a6 a7 a8 → G a1 a2 a3 a4 a5 a6 a7 a8) : ∀ (a1 : A1) (a2 : A2) (a3 : A3) (a4 : A4) (a5 : A5) (a6 : A6) (a7 : A7) (a8 : A8), lpW8 body a1 a2 a3 a4 a5 a6 a7 a8 → G a1 a2 a3 a4 a5 a6 a7 a8 := by
  rintro a1 a2 a3 a4 a5 a6 a7 a8 ⟨I, n, hI, hb⟩
  have key : ∀ (N m : Nat) (a1 : A1) (a2 : A2) (a3 : A3) (a4 : A4) (a5 : A5) (a6 : A6) (a7 : A7) (a8 : A8), m < N → I m a1 a2 a3 a4 a5 a6 a7 a8 → G a1 a2 a3 a4 a5 a6 a7 a8 := by
    intro N
    induction N with
    | zero => intro m a1 a2 a3 a4 a5 a6 a7 a8 h; exact absurd h (Nat.not_lt_zero _)
    | succ N ih =>
      intro m a1 a2 a3 a4 a5 a6 a7 a8 hm hIa
      refine h _ a1 a2 a3 a4 a5 a6 a7 a8 (fun b1 b2 b3 b4 b5 b6 b7 b8 hb2 => ?_) (hb m a1 a2 a3 a4 a5 a6 a7 a8 hIa)
      obtain ⟨k, hk, hI2⟩ := hb2
      exact ih k b1 b2 b3 b4 b5 b6 b7 b8 (by omega) hI2
  exact key (n + 1) n a1 a2 a3 a4 a5 a6 a7 a8 (Nat.lt_succ_self _) hI
theorem lpW8_for {A1 A2 A3 A4 A5 A6 A7 A8 : Type} {body : (A1 → A2 → A3 → A4 → A5 → A6 → A7 → A8 → Prop) → A1 → A2 → A3 → A4 → A5 → A6 → A7 → A8 → Prop} (s1 : Nat → A1) (s2 : Nat → A2) (s3 : Nat → A3) (s4 : Nat → A4) (s5 : Nat → A5) (s6 : Nat → A6) (s7 : Nat → A7) (s8 : Nat → A8) (n : Nat) (hs : ∀ (k : Nat), k < n → ∀ K : A1 → A2 → A3 → A4 → A5 → A6 → A7 → A8 → Prop, K (s1 (k + 1)) (s2 (k + 1)) (s3 (k + 1)) (s4 (k + 1)) (s5 (k + 1)) (s6 (k + 1)) (s7 (k + 1)) (s8 (k + 1)) → body K (s1 k) (s2 k) (s3 k) (s4 k) (s5 k) (s6 k) (s7 k) (s8 k)) (he : ∀ K : A1 → A2 → A3 → A4 → A5 → A6 → A7 → A8 → Prop, body K (s1 n) (s2 n) (s3 n) (s4 n) (s5 n) (s6 n) (s7 n) (s8 n)) : lpW8 body (s1 0) (s2 0) (s3 0) (s4 0) (s5 0) (s6 0) (s7 0) (s8 0) := by
  refine ⟨fun m b1 b2 b3 b4 b5 b6 b7 b8 => ∃ k, k + m = n ∧ b1 = s1 k ∧ b2 = s2 k ∧ b3 = s3 k ∧ b4 = s4 k ∧ b5 = s5 k ∧ b6 = s6 k ∧ b7 = s7 k ∧ b8 = s8 k, n, ⟨0, Nat.zero_add n, rfl, rfl, rfl, rfl, rfl, rfl, rfl, rfl⟩, ?_⟩
  rintro m b1 b2 b3 b4 b5 b6 b7 b8 ⟨k, hk, rfl, rfl, rfl, rfl, rfl, rfl, rfl, rfl⟩
  rcases Nat.eq_zero_or_pos m with rfl | h0
  · have e : k = n := by omega
    subst e
    exact he _
  · exact hs k (by omega) _ ⟨m - 1, by omega, k + 1, by omega, rfl, rfl, rfl, rfl, rfl, rfl, rfl, rfl⟩
theorem lpW8_inv {A1 A2 A3 A4 A5 A6 A7 A8 : Type} {body : (A1 → A2 → A3 → A4 → A5 → A6 → A7 → A8 → Prop) → A1 → A2 → A3 → A4 → A5 → A6 → A7 → A8 → Prop} (I : A1 → A2 → A3 → A4 → A5 → A6 → A7 → A8 → Prop) (μ : A1 → A2 → A3 → A4 → A5 → A6 → A7 → A8 → Nat) (hb : ∀ (b1 : A1) (b2 : A2) (b3 : A3) (b4 : A4) (b5 : A5) (b6 : A6) (b7 : A7) (b8 : A8), I b1 b2 b3 b4 b5 b6 b7 b8 → body (fun c1 c2 c3 c4 c5 c6 c7 c8 => ∃ k, k < μ b1 b2 b3 b4 b5 b6 b7 b8 ∧ (I c1 c2 c3 c4 c5 c6 c7 c8 ∧ μ c1 c2 c3 c4 c5 c6 c7 c8 = k)) b1 b2 b3 b4 b5 b6 b7 b8) (a1 : A1) (a2 : A2) (a3 : A3) (a4 : A4) (a5 : A5) (a6 : A6) (a7 : A7) (a8 : A8) (hI : I a1 a2 a3 a4 a5 a6 a7 a8) : lpW8 body a1 a2 a3 a4 a5 a6 a7 a8 :=
  ⟨fun m b1 b2 b3 b4 b5 b6 b7 b8 => I b1 b2 b3 b4 b5 b6 b7 b8 ∧ μ b1 b2 b3 b4 b5 b6 b7 b8 = m, μ a1 a2 a3 a4 a5 a6 a7 a8, ⟨hI, rfl⟩, fun m b1 b2 b3 b4 b5 b6 b7 b8 h => by obtain ⟨h1, rfl⟩ := h; exact hb b1 b2 b3 b4 b5 b6 b7 b8 h1⟩
def lpW9 {A1 A2 A3 A4 A5 A6 A7 A8 A9 : Type} (body : (A1 → A2 → A3 → A4 → A5 → A6 → A7 → A8 → A9 → Prop) → A1 → A2 → A3 → A4 → A5 → A6 → A7 → A8 → A9 → Prop) (a1 : A1) (a2 : A2) (a3 : A3) (a4 : A4) (a5 : A5) (a6 : A6) (a7 : A7) (a8 : A8) (a9 : A9) : Prop := ∃ (I : Nat → A1 → A2 → A3 → A4 → A5 → A6 → A7 → A8 → A9 → Prop) (n : Nat), I n a1 a2 a3 a4 a5 a6 a7 a8 a9 ∧ ∀ (m : Nat) (b1 : A1) (b2 : A2) (b3 : A3) (b4 : A4) (b5 : A5) (b6 : A6) (b7 : A7) (b8 : A8) (b9 : A9), I m b1 b2 b3 b4 b5 b6 b7 b8 b9 → body (fun c1 c2 c3 c4 c5 c6 c7 c8 c9 => ∃ k, k < m ∧ I k c1 c2 c3 c4 c5 c6 c7 c8 c9) b1 b2 b3 b4 b5 b6 b7 b8 b9
theorem lpW9_ind {A1 A2 A3 A4 A5 A6 A7 A8 A9 : Type} {body : (A1 → A2 → A3 → A4 → A5 → A6 → A7 → A8 → A9 → Prop) → A1 → A2 → A3 → A4 → A5 → A6 → A7 → A8 → A9 → Prop} {G : A1 → A2 → A3 → A4 → A5 → A6 → A7 → A8 → A9 → Prop} (h : ∀ (K : A1 → A2 → A3 → A4 → A5 → A6 → A7 → A8 → A9 → Prop) (a1 : A1) (a2 : A2) (a3 : A3) (a4 : A4) (a5 : A5) (a6 : A6) (a7 : A7) (a8 : A8) (a9 : A9), (∀ (b1 : A1) (b2 : A2) (b3 : A3) (b4 : A4) (b5 : A5) (b6 : A6) (b7 : A7) (b8 : A8) (b9 : A9), K b1 b2 b3 b4 b5 b6 b7 b8 b9 → G b1 b2 b3 b4 b5 b6 b7 b8 b9) → body K a1 a2 a3 a4 a5 a6 a7 a8 a9 → G a1 a2 a3 a4 a5 a6 a7 a8 a9) : ∀ (a1 : A1) (a2 : A2) (a3 : A3) (a4 : A4) (a5 : A5) (a6 : A6) (a7 : A7) (a8 : A8) (a9 : A9), lpW9 body a1 a2 a3 a4 a5 a6 a7 a8 a9 → G a1 a2 a3 a4 a5 a6 a7 a8 a9 := by
  rintro a1 a2 a3 a4 a5 a6 a7 a8 a9 ⟨I, n, hI, hb⟩
  have key : ∀ (N m : Nat) (a1 : A1) (a2 : A2) (a3 : A3) (a4 : A4) (a5 : A5) (a6 : A6) (a7 : A7) (a8 : A8) (a9 : A9), m < N → I m a1 a2 a3 a4 a5 a6 a7 a8 a9 → G a1 a2 a3 a4 a5 a6 a7 a8 a9 := by
    intro N
    induction N with
    | zero => intro m a1 a2 a3 a4 a5 a6 a7 a8 a9 h; exact absurd h (Nat.not_lt_zero _)
    | succ N ih =>
      intro m a1 a2 a3 a4 a5 a6 a7 a8 a9 hm hIa
      refine h _ a1 a2 a3 a4 a5 a6 a7 a8 a9 (fun b1 b2 b3 b4 b5 b6 b7 b8 b9 hb2 => ?_) (hb m a1 a2 a3 a4 a5 a6 a7 a8 a9 hIa)
      obtain ⟨k, hk, hI2⟩ := hb2
      exact ih k b1 b2 b3 b4 b5 b6 b7 b8 b9 (by omega) hI2
  exact key (n + 1) n a1 a2 a3 a4 a5 a6 a7 a8 a9 (Nat.lt_succ_self _) hI
theorem lpW9_for {A1 A2 A3 A4 A5 A6 A7 A8 A9 : Type} {body : (A1 → A2 → A3 → A4 → A5 → A6 → A7 → A8 → A9 → Prop) → A1 → A2 → A3 → A4 → A5 → A6 → A7 → A8 → A9 → Prop} (s1 : Nat → A1) (s2 : Nat → A2) (s3 : Nat → A3) (s4 : Nat → A4) (s5 : Nat → A5) (s6 : Nat → A6) (s7 : Nat → A7) (s8 : Nat → A8) (s9 : Nat → A9) (n : Nat) (hs : ∀ (k : Nat), k < n → ∀ K : A1 → A2 → A3 → A4 → A5 → A6 → A7 → A8 → A9 → Prop, K (s1 (k + 1)) (s2 (k + 1)) (s3 (k + 1)) (s4 (k + 1)) (s5 (k + 1)) (s6 (k + 1)) (s7 (k + 1)) (s8 (k + 1)) (s9 (k + 1)) → body K (s1 k) (s2 k) (s3 k) (s4 k) (s5 k) (s6 k) (s7 k) (s8 k) (s9 k)) (he : ∀ K : A1 → A2 → A3 → A4 → A5 → A6 → A7 → A8 → A9 → Prop, body K (s1 n) (s2 n) (s3 n) (s4 n) (s5 n) (s6 n) (s7 n) (s8 n) (s9 n)) : lpW9 body (s1 0) (s2 0) (s3 0) (s4 0) (s5 0) (s6 0) (s7 0) (s8 0) (s9 0) := by
  refine ⟨fun m b1 b2 b3 b4 b5 b6 b7 b8 b9 => ∃ k, k + m = n ∧ b1 = s1 k ∧ b2 = s2 k ∧ b3 = s3 k ∧ b4 = s4 k ∧ b5 = s5 k ∧ b6 = s6 k ∧ b7 = s7 k ∧ b8 = s8 k ∧ b9 = s9 k, n, ⟨0, Nat.zero_add n, rfl, rfl, rfl, rfl, rfl, rfl, rfl, rfl, rfl⟩, ?_⟩
  rintro m b1 b2 b3 b4 b5 b6 b7 b8 b9 ⟨k, hk, rfl, rfl, rfl, rfl, rfl, rfl, rfl, rfl, rfl⟩
  rcases Nat.eq_zero_or_pos m with rfl | h0
  · have e : k = n := by omega
    subst e
    exact he _
  · exact hs k (by omega) _ ⟨m - 1, by omega, k + 1, by omega, rfl, rfl, rfl, rfl, rfl, rfl, rfl, rfl, rfl⟩
theorem lpW9_inv {A1 A2 A3 A4 A5 A6 A7 A8 A9 : Type} {body : (A1 → A2 → A3 → A4 → A5 → A6 → A7 → A8 → A9 → Prop) → A1 → A2 → A3 → A4 → A5 → A6 → A7 → A8 → A9 → Prop} (I : A1 → A2 → A3 → A4 → A5 → A6 → A7 → A8 → A9 → Prop) (μ : A1 → A2 → A3 → A4 → A5 → A6 → A7 → A8 → A9 → Nat) (hb : ∀ (b1 : A1) (b2 : A2) (b3 : A3) (b4 : A4) (b5 : A5) (b6 : A6) (b7 : A7) (b8 : A8) (b9 : A9), I b1 b2 b3 b4 b5 b6 b7 b8 b9 → body (fun c1 c2 c3 c4 c5 c6 c7 c8 c9 => ∃ k, k < μ b1 b2 b3 b4 b5 b6 b7 b8 b9 ∧ (I c1 c2 c3 c4 c5 c6 c7 c8 c9 ∧ μ c1 c2 c3 c4 c5 c6 c7 c8 c9 = k)) b1 b2 b3 b4 b5 b6 b7 b8 b9) (a1 : A1) (a2 : A2) (a3 : A3) (a4 : A4) (a5 : A5) (a6 : A6) (a7 : A7) (a8 : A8) (a9 : A9) (hI : I a1 a2 a3 a4 a5 a6 a7 a8 a9) : lpW9 body a1 a2 a3 a4 a5 a6 a7 a8 a9 :=
  ⟨fun m b1 b2 b3 b4 b5 b6 b7 b8 b9 => I b1 b2 b3 b4 b5 b6 b7 b8 b9 ∧ μ b1 b2 b3 b4 b5 b6 b7 b8 b9 = m, μ a1 a2 a3 a4 a5 a6 a7 a8 a9, ⟨hI, rfl⟩, fun m b1 b2 b3 b4 b5 b6 b7 b8 b9 h => by obtain ⟨h1, rfl⟩ := h; exact hb b1 b2 b3 b4 b5 b6 b7 b8 b9 h1⟩
def lpW10 {A1 A2 A3 A4 A5 A6 A7 A8 A9 A10 : Type} (body : (A1 → A2 → A3 → A4 → A5 → A6 → A7 → A8 → A9 → A10 → Prop) → A1 → A2 → A3 → A4 → A5 → A6 → A7 → A8 → A9 → A10 → Prop) (a1 : A1) (a2 : A2) (a3 : A3) (a4 : A4) (a5 : A5) (a6 : A6) (a7 : A7) (a8 : A8) (a9 : A9) (a10 : A10) : Prop := ∃ (I : Nat → A1 → A2 → A3 → A4 → A5 → A6 → A7 → A8 → A9 → A10 → Prop) (n : Nat), I n a1 a2 a3 a4 a5 a6 a7 a8 a9 a10 ∧ ∀ (m : Nat) (b1 : A1) (b2 : A2) (b3 : A3) (b4 : A4) (b5 : A5) (b6 : A6) (b7 : A7) (b8 : A8) (b9 : A9) (b10 : A10), I m b1 b2 b3 b4 b5 b6 b7 b8 b9 b10 → body (fun c1 c2 c3 c4 c5 c6 c7 c8 c9 c10 => ∃ k, k < m ∧ I k c1 c2 c3 c4 c5 c6 c7 c8 c9 c10) b1 b2 b3 b4 b5 b6 b7 b8 b9 b10
theorem lpW10_ind {A1 A2 A3 A4 A5 A6 A7 A8 A9 A10 : Type} {body : (A1 → A2 → A3 → A4 → A5 → A6 → A7 → A8 → A9 → A10 → Prop) → A1 → A2 → A3 → A4 → A5 → A6 → A7 → A8 → A9 → A10 → Prop} {G : A1 → A2 → A3 → A4 → A5 → A6 → A7 → A8 → A9 → A10 → Prop} (h : ∀ (K : A1 → A2 → A3 → A4 → A5 → A6 → A7 → A8 → A9 → A10 → Prop) (a1 : A1) (a2 : A2) (a3 : A3) (a4 : A4) (a5 : A5) (a6 : A6) (a7 : A7) (a8 : A8) (a9 : A9) (a10 : A10), (∀ (b1 : A1) (b2 : A2) (b3 : A3) (b4 : A4) (b5 : A5) (b6 : A6) (b7 : A7) (b8 : A8) (b9 : A9) (b10 : A10), K b1 b2 b3 b4 b5 b6 b7 b8 b9 b10 → G b1 b2 b3 b4 b5 b6 b7 b8 b9 b10) → body K a1 a2 a3 a4 a5 a6 a7 a8 a9 a10 → G a1 a2 a3 a4 a5 a6 a7 a8 a9 a10) : ∀ (a1 : A1) (a2 : A2) (a3 : A3) (a4 : A4) (a5 : A5) (a6 : A6) (a7 : A7) (a8 : A8) (a9 : A9) (a10 : A10), lpW10 body a1 a2 a3 a4 a5 a6 a7 a8 a9 a10 → G a1 a2 a3 a4 a5 a6 a7 a8 a9 a10 := by
  rintro a1 a2 a3 a4 a5 a6 a7 a8 a9 a10 ⟨I, n, hI, hb⟩
  have key : ∀ (N m : Nat) (a1 : A1) (a2 : A2) (a3 : A3) (a4 : A4) (a5 : A5) (a6 : A6) (a7 : A7) (a8 : A8) (a9 : A9) (a10 : A10), m < N → I m a1 a2 a3 a4 a5 a6 a7 a8 a9 a10 → G a1 a2 a3 a4 a5 a6 a7 a8 a9 a10 := by
    intro N
    induction N with
    | zero => intro m a1 a2 a3 a4 a5 a6 a7 a8 a9 a10 h; exact absurd h (Nat.not_lt_zero _)
    | succ N ih =>
      intro m a1 a2 a3 a4 a5 a6 a7 a8 a9 a10 hm hIa
      refine h _ a1 a2 a3 a4 a5 a6 a7 a8 a9 a10 (fun b1 b2 b3 b4 b5 b6 b7 b8 b9 b10 hb2 => ?_) (hb m a1 a2 a3 a4 a5 a6 a7 a8 a9 a10 hIa)
      obtain ⟨k, hk, hI2⟩ := hb2
      exact ih k b1 b2 b3 b4 b5 b6 b7 b8 b9 b10 (by omega) hI2
  exact key (n + 1) n a1 a2 a3 a4 a5 a6 a7 a8 a9 a10 (Nat.lt_succ_self _) hI
theorem lpW10_for {A1 A2 A3 A4 A5 A6 A7 A8 A9 A10 : Type} {body : (A1 → A2 → A3 → A4 → A5 → A6 → A7 → A8 → A9 → A10 → Prop) → A1 → A2 → A3 → A4 → A5 → A6 → A7 → A8 → A9 → A10 → Prop} (s1 : Nat → A1) (s2 : Nat → A2) (s3 : Nat → A3) (s4 : Nat → A4) (s5 : Nat → A5) (s6 : Nat → A6) (s7 : Nat → A7) (s8 : Nat → A8) (s9 : Nat → A9) (s10 : Nat → A10) (n : Nat) (hs : ∀ (k : Nat), k < n → ∀ K : A1 → A2 → A3 → A4 → A5 → A6 → A7 → A8 → A9 → A10 → Prop, K (s1 (k + 1)) (s2 (k + 1)) (s3 (k + 1)) (s4 (k + 1)) (s5 (k + 1)) (s6 (k + 1)) (s7 (k + 1)) (s8 (k + 1)) (s9 (k + 1)) (s10 (k + 1)) → body K (s1 k) (s2 k) (s3 k) (s4 k) (s5 k) (s6 k) (s7 k) (s8 k) (s9 k) (s10 k)) (he : ∀ K : A1 → A2 → A3 → A4 → A5 → A6 → A7 → A8 → A9 → A10 → Prop, body K (s1 n) (s2 n) (s3 n) (s4 n) (s5 n) (s6 n) (s7 n) (s8 n) (s9 n) (s10 n)) : lpW10 body (s1 0) (s2 0) (s3 0) (s4 0) (s5 0) (s6 0) (s7 0) (s8 0) (s9 0) (s10 0) := by
  refine ⟨fun m b1 b2 b3 b4 b5 b6 b7 b8 b9 b10 => ∃ k, k + m = n ∧ b1 = s1 k ∧ b2 = s2 k ∧ b3 = s3 k ∧ b4 = s4 k ∧ b5 = s5 k ∧ b6 = s6 k ∧ b7 = s7 k ∧ b8 = s8 k ∧ b9 = s9 k ∧ b10 = s10 k, n, ⟨0, Nat.zero_add n, rfl, rfl, rfl, rfl, rfl, rfl, rfl, rfl, rfl, rfl⟩, ?_⟩
  rintro m b1 b2 b3 b4 b5 b6 b7 b8 b9 b10 ⟨k, hk, rfl, rfl, rfl, rfl, rfl, rfl, rfl, rfl, rfl, rfl⟩
  rcases Nat.eq_zero_or_pos m with rfl | h0
  · have e : k = n := by omega
    subst e
    exact he _
  · exact hs k (by omega) _ ⟨m - 1, by omega, k + 1, by omega, rfl, rfl, rfl, rfl, rfl, rfl, rfl, rfl, rfl, rfl⟩
theorem lpW10_inv {A1 A2 A3 A4 A5 A6 A7 A8 A9 A10 : Type} {body : (A1 → A2 → A3 → A4 → A5 → A6 → A7 → A8 → A9 → A10 → Prop) → A1 → A2 → A3 → A4 → A5 → A6 → A7 → A8 → A9 → A10 → Prop} (I : A1 → A2 → A3 → A4 → A5 → A6 → A7 → A8 → A9 → A10 → Prop) (μ : A1 → A2 → A3 → A4 → A5 → A6 → A7 → A8 → A9 → A10 → Nat) (hb : ∀ (b1 : A1) (b2 : A2) (b3 : A3) (b4 : A4) (b5 : A5) (b6 : A6) (b7 : A7) (b8 : A8) (b9 : A9) (b10 : A10), I b1 b2 b3 b4 b5 b6 b7 b8 b9 b10 → body (fun c1 c2 c3 c4 c5 c6 c7 c8 c9 c10 => ∃ k, k < μ b1 b2 b3 b4 b5 b6 b7 b8 b9 b10 ∧ (I c1 c2 c3 c4 c5 c6 c7 c8 c9 c10 ∧ μ c1 c2 c3 c4 c5 c6 c7 c8 c9 c10 = k)) b1 b2 b3 b4 b5 b6 b7 b8 b9 b10) (a1 : A1) (a2 : A2) (a3 : A3) (a4 : A4) (a5 : A5) (a6 : A6) (a7 : A7) (a8 : A8) (a9 : A9) (a10 : A10) (hI : I a1 a2 a3 a4 a5 a6 a7 a8 a9 a10) : lpW10 body a1 a2 a3 a4 a5 a6 a7 a8 a9 a10 :=
  ⟨fun m b1 b2 b3 b4 b5 b6 b7 b8 b9 b10 => I b1 b2 b3 b4 b5 b6 b7 b8 b9 b10 ∧ μ b1 b2 b3 b4 b5 b6 b7 b8 b9 b10 = m, μ a1 a2 a3 a4 a5 a6 a7 a8 a9 a10, ⟨hI, rfl⟩, fun m b1 b2 b3 b4 b5 b6 b7 b8 b9 b10 h => by obtain ⟨h1, rfl⟩ := h; exact hb b1 b2 b3 b4 b5 b6 b7 b8 b9 b10 h1⟩
def lpW11 {A1 A2 A3 A4 A5 A6 A7 A8 A9 A10 A11 : Type} (body : (A1 → A2 → A3 → A4 → A5 → A6 → A7 → A8 → A9 → A10 → A11 → Prop) → A1 → A2 → A3 → A4 → A5 → A6 → A7 → A8 → A9 → A10 → A11 → Prop) (a1 : A1) (a2 : A2) (a3 : A3) (a4 : A4) (a5 : A5) (a6 : A6) (a7 : A7) (a8 : A8) (a9 : A9) (a10 : A10) (a11 : A11) : Prop := ∃ (I : Nat → A1 → A2 → A3 → A4 → A5 → A6 → A7 → A8 → A9 → A10 → A11 → Prop) (n : Nat), I n a1 a2 a3 a4 a5 a6 a7 a8 a9 a10 a11 ∧ ∀ (m : Nat) (b1 : A1) (b2 : A2) (b3 : A3) (b4 : A4) (b5 : A5) (b6 : A6) (b7 : A7) (b8 : A8) (b9 : A9) (b10 : A10) (b11 : A11), I m b1 b2 b3 b4 b5 b6 b7 b8 b9 b10 b11 → body (fun c1 c2 c3 c4 c5 c6 c7 c8 c9 c10 c11 => ∃ k, k < m ∧ I k c1 c2 c3 c4 c5 c6 c7 c8 c9 c10 c11) b1 b2 b3 b4 b5 b6 b7 b8 b9 b10 b11
theorem lpW11_ind {A1 A2 A3 A4 A5 A6 A7 A8 A9 A10 A11 : Type} {body : (A1 → A2 → A3 → A4 → A5 → A6 → A7 → A8 → A9 → A10 → A11 → Prop) → A1 → A2 → A3 → A4 → A5 → A6 → A7 → A8 → A9 → A10 → A11 → Prop} {G : A1 → A2 → A3 → A4 → A5 → A6 → A7 → A8 → A9 → A10 → A11 → Prop} (h : ∀ (K : A1 → A2 → A3 → A4 → A5 → A6 → A7 → A8 → A9 → A10 → A11 → Prop) (a1 : A1) (a2 : A2) (a3 : A3) (a4 : A4) (a5 : A5) (a6 : A6) (a7 : A7) (a8 : A8) (a9 : A9) (a10 : A10) (a11 : A11), (∀ (b1 : A1) (b2 : A2) (b3 : A3) (b4 : A4) (b5 : A5) (b6 : A6) (b7 : A7) (b8 : A8) (b9 : A9) (b10 : A10) (b11 : A11), K b1 b2 b3 b4 b5 b6 b7 b8 b9 b10 b11 → G b1 b2 b3 b4 b5 b6 b7 b8 b9 b10 b11) → body K a1 a2 a3 a4 a5 a6 a7 a8 a9 a10 a11 → G a1 a2 a3 a4 a5 a6 a7 a8 a9 a10 a11) : ∀ (a1 : A1) (a2 : A2) (a3 : A3) (a4 : A4) (a5 : A5) (a6 : A6) (a7 : A7) (a8 : A8) (a9 : A9) (a10 : A10) (a11 : A11), lpW11 body a1 a2 a3 a4 a5 a6 a7 a8 a9 a10 a11 → G a1 a2 a3 a4 a5 a6 a7 a8 a9 a10 a11 := by
  rintro a1 a2 a3 a4 a5 a6 a7 a8 a9 a10 a11 ⟨I, n, hI, hb⟩
  have key : ∀ (N m : Nat) (a1 : A1) (a2 : A2) (a3 : A3) (a4 : A4) (a5 : A5) (a6 : A6) (a7 : A7) (a8 : A8) (a9 : A9) (a10 : A10) (a11 : A11), m < N → I m a1 a2 a3 a4 a5 a6 a7 a8 a9 a10 a11 → G a1 a2 a3 a4 a5 a6 a7 a8 a9 a10 a11 := by
    intro N
    induction N with
    | zero => intro m a1 a2 a3 a4 a5 a6 a7 a8 a9 a10 a11 h; exact absurd h (Nat.not_lt_zero _)
    | succ N ih =>
      intro m a1 a2 a3 a4 a5 a6 a7 a8 a9 a10 a11 hm hIa
      refine h _ a1 a2 a3 a4 a5 a6 a7 a8 a9 a10 a11 (fun b1 b2 b3 b4 b5 b6 b7 b8 b9 b10 b11 hb2 => ?_) (hb m a1 a2 a3 a4 a5 a6 a7 a8 a9 a10 a11 hIa)
      obtain ⟨k, hk, hI2⟩ := hb2
      exact ih k b1 b2 b3 b4 b5 b6 b7 b8 b9 b10 b11 (by omega) hI2
  exact key (n + 1) n a1 a2 a3 a4 a5 a6 a7 a8 a9 a10 a11 (Nat.lt_succ_self _) hI
theorem lpW11_for {A1 A2 A3 A4 A5 A6 A7 A8 A9 A10 A11 : Type} {body : (A1 → A2 → A3 → A4 → A5 → A6 → A7 → A8 → A9 → A10 → A11 → Prop) → A1 → A2 → A3 → A4 → A5 → A6 → A7 → A8 → A9 → A10 → A11 → Prop} (s1 : Nat → A1) (s2 : Nat → A2) (s3 : Nat → A3) (s4 : Nat → A4) (s5 : Nat → A5) (s6 : Nat → A6) (s7 : Nat → A7) (s8 : Nat → A8) (s9 : Nat → A9) (s10 : Nat → A10) (s11 : Nat → A11) (n : Nat) (hs : ∀ (k : Nat), k < n → ∀ K : A1 → A2 → A3 → A4 → A5 → A6 → A7 → A8 → A9 → A10 → A11 → Prop, K (s1 (k + 1)) (s2 (k + 1)) (s3 (k + 1)) (s4 (k + 1)) (s5 (k + 1)) (s6 (k + 1)) (s7 (k + 1)) (s8 (k + 1)) (s9 (k + 1)) (s10 (k + 1)) (s11 (k + 1)) → body K (s1 k) (s2 k) (s3 k) (s4 k) (s5 k) (s6 k) (s7 k) (s8 k) (s9 k) (s10 k) (s11 k)) (he : ∀ K : A1 → A2 → A3 → A4 → A5 → A6 → A7 → A8 → A9 → A10 → A11 → Prop, body K (s1 n) (s2 n) (s3 n) (s4 n) (s5 n) (s6 n) (s7 n) (s8 n) (s9 n) (s10 n) (s11 n)) : lpW11 body (s1 0) (s2 0) (s3 0) (s4 0) (s5 0) (s6 0) (s7 0) (s8 0) (s9 0) (s10 0) (s11 0) := by
  refine ⟨fun m b1 b2 b3 b4 b5 b6 b7 b8 b9 b10 b11 => ∃ k, k + m = n ∧ b1 = s1 k ∧ b2 = s2 k ∧ b3 = s3 k ∧ b4 = s4 k ∧ b5 = s5 k ∧ b6 = s6 k ∧ b7 = s7 k ∧ b8 = s8 k ∧ b9 = s9 k ∧ b10 = s10 k ∧ b11 = s11 k, n, ⟨0, Nat.zero_add n, rfl, rfl, rfl, rfl, rfl, rfl, rfl, rfl, rfl, rfl, rfl⟩, ?_⟩
  rintro m b1 b2 b3 b4 b5 b6 b7 b8 b9 b10 b11 ⟨k, hk, rfl, rfl, rfl, rfl, rfl, rfl, rfl, rfl, rfl, rfl, rfl⟩
  rcases Nat.eq_zero_or_pos m with rfl | h0
  · have e : k = n := by omega
    subst e
    exact he _
  · exact hs k (by omega) _ ⟨m - 1, by omega, k + 1, by omega, rfl, rfl, rfl, rfl, rfl, rfl, rfl, rfl, rfl, rfl, rfl⟩
theorem lpW11_inv {A1 A2 A3 A4 A5 A6 A7 A8 A9 A10 A11 : Type} {body : (A1 → A2 → A3 → A4 → A5 → A6 → A7 → A8 → A9 → A10 → A11 → Prop) → A1 → A2 → A3 → A4 → A5 → A6 → A7 → A8 → A9 → A10 → A11 → Prop} (I : A1 → A2 → A3 → A4 → A5 → A6 → A7 → A8 → A9 → A10 → A11 → Prop) (μ : A1 → A2 → A3 → A4 → A5 → A6 → A7 → A8 → A9 → A10 → A11 → Nat) (hb : ∀ (b1 : A1) (b2 : A2) (b3 : A3) (b4 : A4) (b5 : A5) (b6 : A6) (b7 : A7) (b8 : A8) (b9 : A9) (b10 : A10) (b11 : A11), I b1 b2 b3 b4 b5 b6 b7 b8 b9 b10 b11 → body (fun c1 c2 c3 c4 c5 c6 c7 c8 c9 c10 c11 => ∃ k, k < μ b1 b2 b3 b4 b5 b6 b7 b8 b9 b10 b11 ∧ (I c1 c2 c3 c4 c5 c6 c7 c8 c9 c10 c11 ∧ μ c1 c2 c3 c4 c5 c6 c7 c8 c9 c10 c11 = k)) b1 b2 b3 b4 b5 b6 b7 b8 b9 b10 b11) (a1 : A1) (a2 : A2) (a3 : A3) (a4 : A4) (a5 : A5) (a6 : A6) (a7 : A7) (a8 : A8) (a9 : A9) (a10 : A10) (a11 : A11) (hI : I a1 a2 a3 a4 a5 a6 a7 a8 a9 a10 a11) : lpW11 body a1 a2 a3 a4 a5 a6 a7 a8 a9 a10 a11 :=
  ⟨fun m b1 b2 b3 b4 b5 b6 b7 b8 b9 b10 b11 => I b1 b2 b3 b4 b5 b6 b7 b8 b9 b10 b11 ∧ μ b1 b2 b3 b4 b5 b6 b7 b8 b9 b10 b11 = m, μ a1 a2 a3 a4 a5 a6 a7 a8 a9 a10 a11, ⟨hI, rfl⟩, fun m b1 b2 b3 b4 b5 b6 b7 b8 b9 b10 b11 h => by obtain ⟨h1, rfl⟩ := h; exact hb b1 b2 b3 b4 b5 b6 b7 b8 b9 b10 b11 h1⟩
def lpW12 {A1 A2 A3 A4 A5 A6 A7 A8 A9 A10 A11 A12 : Type} (body : (A1 → A2 → A3 → A4 → A5 → A6 → A7 → A8 → A9 → A10 → A11 → A12 → Prop) → A1 → A2 → A3 → A4 → A5 → A6 → A7 → A8 → A9 → A10 → A11 → A12 → Prop) (a1 : A1) (a2 : A2) (a3 : A3) (a4 : A4) (a5 : A5) (a6 : A6) (a7 : A7) (a8 : A8) (a9 : A9) (a10 : A10) (a11 : A11) (a12 : A12) : Prop := ∃ (I : Nat → A1 → A2 → A3 → A4 → A5 → A6 → A7 → A8 → A9 → A10 → A11 → A12 → Prop) (n : Nat), I n a1 a2 a3 a4 a5 a6 a7 a8 a9 a10 a11 a12 ∧ ∀ (m : Nat) (b1 : A1) (b2 : A2) (b3 : A3) (b4 : A4) (b5 : A5) (b6 : A6) (b7 : A7) (b8 : A8) (b9 : A9) (b10 : A10) (b11 : A11) (b12 : A12), I m b1 b2 b3 b4 b5 b6 b7 b8 b9 b10 b11 b12 → body (fun c1 c2 c3 c4 c5 c6 c7 c8 c9 c10 c11 c12 => ∃ k, k < m ∧ I k c1 c2 c3 c4 c5 c6 c7 c8 c9 c10 c11 c12) b1 b2 b3 b4 b5 b6 b7 b8 b9 b10 b11 b12
theorem lpW12_ind {A1 A2 A3 A4 A5 A6 A7 A8 A9 A10 A11 A12 : Type} {body : (A1 → A2 → A3 → A4 → A5 → A6 → A7 → A8 → A9 → A10 → A11 → A12 → Prop) → A1 → A2 → A3 → A4 → A5 → A6 → A7 → A8 → A9 → A10 → A11 → A12 → Prop} {G : A1 → A2 → A3 → A4 → A5 → A6 → A7 → A8 → A9 → A10 → A11 → A12 → Prop} (h : ∀ (K : A1 → A2 → A3 → A4 → A5 → A6 → A7 → A8 → A9 → A10 → A11 → A12 → Prop) (a1 : A1) (a2 : A2) (a3 : A3) (a4 : A4) (a5 : A5) (a6 : A6) (a7 : A7) (a8 : A8) (a9 : A9) (a10 : A10) (a11 : A11) (a12 : A12), (∀ (b1 : A1) (b2 : A2) (b3 : A3) (b4 : A4) (b5 : A5) (b6 : A6) (b7 : A7) (b8 : A8) (b9 : A9) (b10 : A10) (b11 : A11) (b12 : A12), K b1 b2 b3 b4 b5 b6 b7 b8 b9 b10 b11 b12 → G b1 b2 b3 b4 b5 b6 b7 b8 b9 b10 b11 b12) → body K a1 a2 a3 a4 a5 a6 a7 a8 a9 a10 a11 a12 → G a1 a2 a3 a4 a5 a6 a7 a8 a9 a10 a11 a12) : ∀ (a1 : A1) (a2 : A2) (a3 : A3) (a4 : A4) (a5 : A5) (a6 : A6) (a7 : A7) (a8 : A8) (a9 : A9) (a10 : A10) (a11 : A11) (a12 : A12), lpW12 body a1 a2 a3 a4 a5 a6 a7 a8 a9 a10 a11 a12 → G a1 a2 a3 a4 a5 a6 a7 a8 a9 a10 a11 a12 := by
  rintro a1 a2 a3 a4 a5 a6 a7 a8 a9 a10 a11 a12 ⟨I, n, hI, hb⟩
  have key : ∀ (N m : Nat) (a1 : A1) (a2 : A2) (a3 : A3) (a4 : A4) (a5 : A5) (a6 : A6) (a7 : A7) (a8 : A8) (a9 : A9) (a10 : A10) (a11 : A11) (a12 : A12), m < N → I m a1 a2 a3 a4 a5 a6 a7 a8 a9 a10 a11 a12 → G a1 a2 a3 a4 a5 a6 a7 a8 a9 a10 a11 a12 := by
    intro N
    induction N with
    | zero => intro m a1 a2 a3 a4 a5 a6 a7 a8 a9 a10 a11 a12 h; exact absurd h (Nat.not_lt_zero _)
    | succ N ih =>
      intro m a1 a2 a3 a4 a5 a6 a7 a8 a9 a10 a11 a12 hm hIa
      refine h _ a1 a2 a3 a4 a5 a6 a7 a8 a9 a10 a11 a12 (fun b1 b2 b3 b4 b5 b6 b7 b8 b9 b10 b11 b12 hb2 => ?_) (hb m a1 a2 a3 a4 a5 a6 a7 a8 a9 a10 a11 a12 hIa)
      obtain ⟨k, hk, hI2⟩ := hb2
      exact ih k b1 b2 b3 b4 b5 b6 b7 b8 b9 b10 b11 b12 (by omega) hI2
  exact key (n + 1) n a1 a2 a3 a4 a5 a6 a7 a8 a9 a10 a11 a12 (Nat.lt_succ_self _) hI
theorem lpW12_for {A1 A2 A3 A4 A5 A6 A7 A8 A9 A10 A11 A12 : Type} {body : (A1 → A2 → A3 → A4 → A5 → A6 → A7 → A8 → A9 → A10 → A11 → A12 → Prop) → A1 → A2 → A3 → A4 → A5 → A6 → A7 → A8 → A9 → A10 → A11 → A12 → Prop} (s1 : Nat → A1) (s2 : Nat → A2) (s3 : Nat → A3) (s4 : Nat → A4) (s5 : Nat → A5) (s6 : Nat → A6) (s7 : Nat → A7) (s8 : Nat → A8) (s9 : Nat → A9) (s10 : Nat → A10) (s11 : Nat → A11) (s12 : Nat → A12) (n : Nat) (hs : ∀ (k : Nat), k < n → ∀ K : A1 → A2 → A3 → A4 → A5 → A6 → A7 → A8 → A9 → A10 → A11 → A12 → Prop, K (s1 (k + 1)) (s2 (k + 1)) (s3 (k + 1)) (s4 (k + 1)) (s5 (k + 1)) (s6 (k + 1)) (s7 (k + 1)) (s8 (k + 1)) (s9 (k + 1)) (s10 (k + 1)) (s11 (k + 1)) (s12 (k + 1)) → body K (s1 k) (s2 k) (s3 k) (s4 k) (s5 k) (s6 k) (s7 k) (s8 k) (s9 k) (s10 k) (s11 k) (s12 k)) (he : ∀ K : A1 → A2 → A3 → A4 → A5 → A6 → A7 → A8 → A9 → A10 → A11 → A12 → Prop, body K (s1 n) (s2 n) (s3 n) (s4 n) (s5 n) (s6 n) (s7 n) (s8 n) (s9 n) (s10 n) (s11 n) (s12 n)) : lpW12 body (s1 0) (s2 0) (s3 0) (s4 0) (s5 0) (s6 0) (s7 0) (s8 0) (s9 0) (s10 0) (s11 0) (s12 0) := by
  refine ⟨fun m b1 b2 b3 b4 b5 b6 b7 b8 b9 b10 b11 b12 => ∃ k, k + m = n ∧ b1 = s1 k ∧ b2 = s2 k ∧ b3 = s3 k ∧ b4 = s4 k ∧ b5 = s5 k ∧ b6 = s6 k ∧ b7 = s7 k ∧ b8 = s8 k ∧ b9 = s9 k ∧ b10 = s10 k ∧ b11 = s11 k ∧ b12 = s12 k, n, ⟨0, Nat.zero_add n, rfl, rfl, rfl, rfl, rfl, rfl, rfl, rfl, rfl, rfl, rfl, rfl⟩, ?_⟩
  rintro m b1 b2 b3 b4 b5 b6 b7 b8 b9 b10 b11 b12 ⟨k, hk, rfl, rfl, rfl, rfl, rfl, rfl, rfl, rfl, rfl, rfl, rfl, rfl⟩
  rcases Nat.eq_zero_or_pos m with rfl | h0
  · have e : k = n := by omega
    subst e
    exact he _
  · exact hs k (by omega) _ ⟨m - 1, by omega, k + 1, by omega, rfl, rfl, rfl, rfl, rfl, rfl, rfl, rfl, rfl, rfl, rfl, rfl⟩
theorem lpW12_inv {A1 A2 A3 A4 A5 A6 A7 A8 A9 A10 A11 A12 : Type} {body : (A1 → A2 → A3 → A4 → A5 → A6 → A7 → A8 → A9 → A10 → A11 → A12 → Prop) → A1 → A2 → A3 → A4 → A5 → A6 → A7 → A8 → A9 → A10 → A11 → A12 → Prop} (I : A1 → A2 → A3 → A4 → A5 → A6 → A7 → A8 → A9 → A10 → A11 → A12 → Prop) (μ : A1 → A2 → A3 → A4 → A5 → A6 → A7 → A8 → A9 → A10 → A11 → A12 → Nat) (hb : ∀ (b1 : A1) (b2 : A2) (b3 : A3) (b4 : A4) (b5 : A5) (b6 : A6) (b7 : A7) (b8 : A8) (b9 : A9) (b10 : A10) (b11 : A11) (b12 : A12), I b1 b2 b3 b4 b5 b6 b7 b8 b9 b10 b11 b12 → body (fun c1 c2 c3 c4 c5 c6 c7 c8 c9 c10 c11 c12 => ∃ k, k < μ b1 b2 b3 b4 b5 b6 b7 b8 b9 b10 b11 b12 ∧ (I c1 c2 c3 c4 c5 c6 c7 c8 c9 c10 c11 c12 ∧ μ c1 c2 c3 c4 c5 c6 c7 c8 c9 c10 c11 c12 = k)) b1 b2 b3 b4 b5 b6 b7 b8 b9 b10 b11 b12) (a1 : A1) (a2 : A2) (a3 : A3) (a4 : A4) (a5 : A5) (a6 : A6) (a7 : A7) (a8 : A8) (a9 : A9) (a10 : A10) (a11 : A11) (a12 : A12) (hI : I a1 a2 a3 a4 a5 a6 a7 a8 a9 a10 a11 a12) : lpW12 body a1 a2 a3 a4 a5 a6 a7 a8 a9 a10 a11 a12 :=
  ⟨fun m b1 b2 b3 b4 b5 b6 b7 b8 b9 b10 b11 b12 => I b1 b2 b3 b4 b5 b6 b7 b8 b9 b10 b11 b12 ∧ μ b1 b2 b3 b4 b5 b6 b7 b8 b9 b10 b11 b12 = m, μ a1 a2 a3 a4 a5 a6 a7 a8 a9 a10 a11 a12, ⟨hI, rfl⟩, fun m b1 b2 b3 b4 b5 b6 b7 b8 b9 b10 b11 b12 h => by obtain ⟨h1, rfl⟩ := h; exact hb b1 b2 b3 b4 b5 b6 b7 b8 b9 b10 b11 b12 h1⟩
def lpW13 {A1 A2 A3 A4 A5 A6 A7 A8 A9 A10 A11 A12 A13 : Type} (body : (A1 → A2 → A3 → A4 → A5 → A6 → A7 → A8 → A9 → A10 → A11 → A12 → A13 → Prop) → A1 → A2 → A3 → A4 → A5 → A6 → A7 → A8 → A9 → A10 → A11 → A12 → A13 → Prop) (a1 : A1) (a2 : A2) (a3 : A3) (a4 : A4) (a5 : A5) (a6 : A6) (a7 : A7) (a8 : A8) (a9 : A9) (a10 : A10) (a11 : A11) (a12 : A12) (a13 : A13) : Prop := ∃ (I : Nat → A1 → A2 → A3 → A4 → A5 → A6 → A7 → A8 → A9 → A10 → A11 → A12 → A13 → Prop) (n : Nat), I n a1 a2 a3 a4 a5 a6 a7 a8 a9 a10 a11 a12 a13 ∧ ∀ (m : Nat) (b1 : A1) (b2 : A2) (b3 : A3) (b4 : A4) (b5 : A5) (b6 : A6) (b7 : A7) (b8 : A8) (b9 : A9) (b10 : A10) (b11 : A11) (b12 : A12) (b13 : A13), I m b1 b2 b3 b4 b5 b6 b7 b8 b9 b10 b11 b12 b13 → body (fun c1 c2 c3 c4 c5 c6 c7 c8 c9 c10 c11 c12 c13 => ∃ k, k < m ∧ I k c1 c2 c3 c4 c5 c6 c7 c8 c9 c10 c11 c12 c13) b1 b2 b3 b4 b5 b6 b7 b8 b9 b10 b11 b12 b13
theorem lpW13_ind {A1 A2 A3 A4 A5 A6 A7 A8 A9 A10 A11 A12 A13 : Type} {body : (A1 → A2 → A3 → A4 → A5 → A6 → A7 → A8 → A9 → A10 → A11 → A12 → A13 → Prop) → A1 → A2 → A3 → A4 → A5 → A6 → A7 → A8 → A9 → A10 → A11 → A12 → A13 → Prop} {G : A1 → A2 → A3 → A4 → A5 → A6 → A7 → A8 → A9 → A10 → A11 → A12 → A13 → Prop} (h : ∀ (K : A1 → A2 → A3 → A4 → A5 → A6 → A7 → A8 → A9 → A10 → A11 → A12 → A13 → Prop) (a1 : A1) (a2 : A2) (a3 : A3) (a4 : A4) (a5 : A5) (a6 : A6) (a7 : A7) (a8 : A8) (a9 : A9) (a10 : A10) (a11 : A11) (a12 : A12) (a13 : A13), (∀ (b1 : A1) (b2 : A2) (b3 : A3) (b4 : A4) (b5 : A5) (b6 : A6) (b7 : A7) (b8 : A8) (b9 : A9) (b10 : A10) (b11 : A11) (b12 : A12) (b13 : A13), K b1 b2 b3 b4 b5 b6 b7 b8 b9 b10 b11 b12 b13 → G b1 b2 b3 b4 b5 b6 b7 b8 b9 b10 b11 b12 b13) → body K a1 a2 a3 a4 a5 a6 a7 a8 a9 a10 a11 a12 a13 → G a1 a2 a3 a4 a5 a6 a7 a8 a9 a10 a11 a12 a13) : ∀ (a1 : A1) (a2 : A2) (a3 : A3) (a4 : A4) (a5 : A5) (a6 : A6) (a7 : A7) (a8 : A8) (a9 : A9) (a10 : A10) (a11 : A11) (a12 : A12) (a13 : A13), lpW13 body a1 a2 a3 a4 a5 a6 a7 a8 a9 a10 a11 a12 a13 → G a1 a2 a3 a4 a5 a6 a7 a8 a9 a10 a11 a12 a13 := by
  rintro a1 a2 a3 a4 a5 a6 a7 a8 a9 a10 a11 a12 a13 ⟨I, n, hI, hb⟩
  have key : ∀ (N m : Nat) (a1 : A1) (a2 : A2) (a3 : A3) (a4 : A4) (a5 : A5) (a6 : A6) (a7 : A7) (a8 : A8) (a9 : A9) (a10 : A10) (a11 : A11) (a12 : A12) (a13 : A13), m < N → I m a1 a2 a3 a4 a5 a6 a7 a8 a9 a10 a11 a12 a13 → G a1 a2 a3 a4 a5 a6 a7 a8 a9 a10 a11 a12 a13 := by
    intro N
    induction N with
    | zero => intro m a1 a2 a3 a4 a5 a6 a7 a8 a9 a10 a11 a12 a13 h; exact absurd h (Nat.not_lt_zero _)
    | succ N ih =>
      intro m a1 a2 a3 a4 a5 a6 a7 a8 a9 a10 a11 a12 a13 hm hIa
      refine h _ a1 a2 a3 a4 a5 a6 a7 a8 a9 a10 a11 a12 a13 (fun b1 b2 b3 b4 b5 b6 b7 b8 b9 b10 b11 b12 b13 hb2 => ?_) (hb m a1 a2 a3 a4 a5 a6 a7 a8 a9 a10 a11 a12 a13 hIa)
      obtain ⟨k, hk, hI2⟩ := hb2
      exact ih k b1 b2 b3 b4 b5 b6 b7 b8 b9 b10 b11 b12 b13 (by omega) hI2
  exact key (n + 1) n a1 a2 a3 a4 a5 a6 a7 a8 a9 a10 a11 a12 a13 (Nat.lt_succ_self _) hI
theorem lpW13_for {A1 A2 A3 A4 A5 A6 A7 A8 A9 A10 A11 A12 A13 : Type} {body : (A1 → A2 → A3 → A4 → A5 → A6 → A7 → A8 → A9 → A10 → A11 → A12 → A13 → Prop) → A1 → A2 → A3 → A4 → A5 → A6 → A7 → A8 → A9 → A10 → A11 → A12 → A13 → Prop} (s1 : Nat → A1) (s2 : Nat → A2) (s3 : Nat → A3) (s4 : Nat → A4) (s5 : Nat → A5) (s6 : Nat → A6) (s7 : Nat → A7) (s8 : Nat → A8) (s9 : Nat → A9) (s10 : Nat → A10) (s11 : Nat → A11) (s12 : Nat → A12) (s13 : Nat → A13) (n : Nat) (hs : ∀ (k : Nat), k < n → ∀ K : A1 → A2 → A3 → A4 → A5 → A6 → A7 → A8 → A9 → A10 → A11 → A12 → A13 → Prop, K (s1 (k + 1)) (s2 (k + 1)) (s3 (k + 1)) (s4 (k + 1)) (s5 (k + 1)) (s6 (k + 1)) (s7 (k + 1)) (s8 (k + 1)) (s9 (k + 1)) (s10 (k + 1)) (s11 (k + 1)) (s12 (k + 1)) (s13 (k + 1)) → body K (s1 k) (s2 k) (s3 k) (s4 k) (s5 k) (s6 k) (s7 k) (s8 k) (s9 k) (s10 k) (s11 k) (s12 k) (s13 k)) (he : ∀ K : A1 → A2 → A3 → A4 → A5 → A6 → A7 → A8 → A9 → A10 → A11 → A12 → A13 → Prop, body K (s1 n) (s2 n) (s3 n) (s4 n) (s5 n) (s6 n) (s7 n) (s8 n) (s9 n) (s10 n) (s11 n) (s12 n) (s13 n)) : lpW13 body (s1 0) (s2 0) (s3 0) (s4 0) (s5 0) (s6 0) (s7 0) (s8 0) (s9 0) (s10 0) (s11 0) (s12 0) (s13 0) := by
  refine ⟨fun m b1 b2 b3 b4 b5 b6 b7 b8 b9 b10 b11 b12 b13 => ∃ k, k + m = n ∧ b1 = s1 k ∧ b2 = s2 k ∧ b3 = s3 k ∧ b4 = s4 k ∧ b5 = s5 k ∧ b6 = s6 k ∧ b7 = s7 k ∧ b8 = s8 k ∧ b9 = s9 k ∧ b10 = s10 k ∧ b11 = s11 k ∧ b12 = s12 k ∧ b13 = s13 k, n, ⟨0, Nat.zero_add n, rfl, rfl, rfl, rfl, rfl, rfl, rfl, rfl, rfl, rfl, rfl, rfl, rfl⟩, ?_⟩
  rintro m b1 b2 b3 b4 b5 b6 b7 b8 b9 b10 b11 b12 b13 ⟨k, hk, rfl, rfl, rfl, rfl, rfl, rfl, rfl, rfl, rfl, rfl, rfl, rfl, rfl⟩
  rcases Nat.eq_zero_or_pos m with rfl | h0
  · have e : k = n := by omega
    subst e
    exact he _
  · exact hs k (by omega) _ ⟨m - 1, by omega, k + 1, by omega, rfl, rfl, rfl, rfl, rfl, rfl, rfl, rfl, rfl, rfl, rfl, rfl, rfl⟩
theorem lpW13_inv {A1 A2 A3 A4 A5 A6 A7 A8 A9 A10 A11 A12 A13 : Type} {body : (A1 → A2 → A3 → A4 → A5 → A6 → A7 → A8 → A9 → A10 → A11 → A12 → A13 → Prop) → A1 → A2 → A3 → A4 → A5 → A6 → A7 → A8 → A9 → A10 → A11 → A12 → A13 → Prop} (I : A1 → A2 → A3 → A4 → A5 → A6 → A7 → A8 → A9 → A10 → A11 → A12 → A13 → Prop) (μ : A1 → A2 → A3 → A4 → A5 → A6 → A7 → A8 → A9 → A10 → A11 → A12 → A13 → Nat) (hb : ∀ (b1 : A1) (b2 : A2) (b3 : A3) (b4 : A4) (b5 : A5) (b6 : A6) (b7 : A7) (b8 : A8) (b9 : A9) (b10 : A10) (b11 : A11) (b12 : A12) (b13 : A13), I b1 b2 b3 b4 b5 b6 b7 b8 b9 b10 b11 b12 b13 → body (fun c1 c2 c3 c4 c5 c6 c7 c8 c9 c10 c11 c12 c13 => ∃ k, k < μ b1 b2 b3 b4 b5 b6 b7 b8 b9 b10 b11 b12 b13 ∧ (I c1 c2 c3 c4 c5 c6 c7 c8 c9 c10 c11 c12 c13 ∧ μ c1 c2 c3 c4 c5 c6 c7 c8 c9 c10 c11 c12 c13 = k)) b1 b2 b3 b4 b5 b6 b7 b8 b9 b10 b11 b12 b13) (a1 : A1) (a2 : A2) (a3 : A3) (a4 : A4) (a5 : A5) (a6 : A6) (a7 : A7) (a8 : A8) (a9 : A9) (a10 : A10) (a11 : A11) (a12 : A12) (a13 : A13) (hI : I a1 a2 a3 a4 a5 a6 a7 a8 a9 a10 a11 a12 a13) : lpW13 body a1 a2 a3 a4 a5 a6 a7 a8 a9 a10 a11 a12 a13 :=
  ⟨fun m b1 b2 b3 b4 b5 b6 b7 b8 b9 b10 b11 b12 b13 => I b1 b2 b3 b4 b5 b6 b7 b8 b9 b10 b11 b12 b13 ∧ μ b1 b2 b3 b4 b5 b6 b7 b8 b9 b10 b11 b12 b13 = m, μ a1 a2 a3 a4 a5 a6 a7 a8 a9 a10 a11 a12 a13, ⟨hI, rfl⟩, fun m b1 b2 b3 b4 b5 b6 b7 b8 b9 b10 b11 b12 b13 h => by obtain ⟨h1, rfl⟩ := h; exact hb b1 b2 b3 b4 b5 b6 b7 b8 b9 b10 b11 b12 b13 h1⟩
def lpW14 {A1 A2 A3 A4 A5 A6 A7 A8 A9 A10 A11 A12 A13 A14 : Type} (body : (A1 → A2 → A3 → A4 → A5 → A6 → A7 → A8 → A9 → A10 → A11 → A12 → A13 → A14 → Prop) → A1 → A2 → A3 → A4 → A5 → A6 → A7 → A8 → A9 → A10 → A11 → A12 → A13 → A14 → Prop) (a1 : A1) (a2 : A2) (a3 : A3) (a4 : A4) (a5 : A5) (a6 : A6) (a7 : A7) (a8 : A8) (a9 : A9) (a10 : A10) (a11 : A11) (a12 : A12) (a13 : A13) (a14 : A14) : Prop := ∃ (I : Nat → A1 → A2 → A3 → A4 → A5 → A6 → A7 → A8 → A9 → A10 → A11 → A12 → A13 → A14 → Prop) (n : Nat), I n a1 a2 a3 a4 a5 a6 a7 a8 a9 a10 a11 a12 a13 a14 ∧ ∀ (m : Nat) (b1 : A1) (b2 : A2) (b3 : A3) (b4 : A4) (b5 : A5) (b6 : A6) (b7 : A7) (b8 : A8) (b9 : A9) (b10 : A10) (b11 : A11) (b12 : A12) (b13 : A13) (b14 : A14), I m b1 b2 b3 b4 b5 b6 b7 b8 b9 b10 b11 b12 b13 b14 → body (fun c1 c2 c3 c4 c5 c6 c7 c8 c9 c10 c11 c12 c13 c14 => ∃ k, k < m ∧ I k c1 c2 c3 c4 c5 c6 c7 c8 c9 c10 c11 c12 c13 c14) b1 b2 b3 b4 b5 b6 b7 b8 b9 b10 b11 b12 b13 b14
theorem lpW14_ind {A1 A2 A3 A4 A5 A6 A7 A8 A9 A10 A11 A12 A13 A14 : Type} {body : (A1 → A2 → A3 → A4 → A5 → A6 → A7 → A8 → A9 → A10 → A11 → A12 → A13 → A14 → Prop) → A1 → A2 → A3 → A4 → A5 → A6 → A7 → A8 → A9 → A10 → A11 → A12 → A13 → A14 → Prop} {G : A1 → A2 → A3 → A4 → A5 → A6 → A7 → A8 → A9 → A10 → A11 → A12 → A13 → A14 → Prop} (h : ∀ (K : A1 → A2 → A3 → A4 → A5 → A6 → A7 → A8 → A9 → A10 → A11 → A12 → A13 → A14 → Prop) (a1 : A1) (a2 : A2) (a3 : A3) (a4 : A4) (a5 : A5) (a6 : A6) (a7 : A7) (a8 : A8) (a9 : A9) (a10 : A10) (a11 : A11) (a12 : A12) (a13 : A13) (a14 : A14), (∀ (b1 : A1) (b2 : A2) (b3 : A3) (b4 : A4) (b5 : A5) (b6 : A6) (b7 : A7) (b8 : A8) (b9 : A9) (b10 : A10) (b11 : A11) (b12 : A12) (b13 : A13) (b14 : A14), K b1 b2 b3 b4 b5 b6 b7 b8 b9 b10 b11 b12 b13 b14 → G b1 b2 b3 b4 b5 b6 b7 b8 b9 b10 b11 b12 b13 b14) → body K a1 a2 a3 a4 a5 a6 a7 a8 a9 a10 a11 a12 a13 a14 → G a1 a2 a3 a4 a5 a6 a7 a8 a9 a10 a11 a12 a13 a14) : ∀ (a1 : A1) (a2 : A2) (a3 : A3) (a4 : A4) (a5 : A5) (a6 : A6) (a7 : A7) (a8 : A8) (a9 : A9) (a10 : A10) (a11 : A11) (a12 : A12) (a13 : A13) (a14 : A14), lpW14 body a1 a2 a3 a4 a5 a6 a7 a8 a9 a10 a11 a12 a13 a14 → G a1 a2 a3 a4 a5 a6 a7 a8 a9 a10 a11 a12 a13 a14 := by
  rintro a1 a2 a3 a4 a5 a6 a7 a8 a9 a10 a11 a12 a13 a14 ⟨I, n, hI, hb⟩
  have key : ∀ (N m : Nat) (a1 : A1) (a2 : A2) (a3 : A3) (a4 : A4) (a5 : A5) (a6 : A6) (a7 : A7) (a8 : A8) (a9 : A9) (a10 : A10) (a11 : A11) (a12 : A12) (a13 : A13) (a14 : A14), m < N → I m a1 a2 a3 a4 a5 a6 a7 a8 a9 a10 a11 a12 a13 a14 → G a1 a2 a3 a4 a5 a6 a7 a8 a9 a10 a11 a12 a13 a14 := by
    intro N
    induction N with
    | zero => intro m a1 a2 a3 a4 a5 a6 a7 a8 a9 a10 a11 a12 a13 a14 h; exact absurd h (Nat.not_lt_zero _)
    | succ N ih =>
      intro m a1 a2 a3 a4 a5 a6 a7 a8 a9 a10 a11 a12 a13 a14 hm hIa
      refine h _ a1 a2 a3 a4 a5 a6 a7 a8 a9 a10 a11 a12 a13 a14 (fun b1 b2 b3 b4 b5 b6 b7 b8 b9 b10 b11 b12 b13 b14 hb2 => ?_) (hb m a1 a2 a3 a4 a5 a6 a7 a8 a9 a10 a11 a12 a13 a14 hIa)
      obtain ⟨k, hk, hI2⟩ := hb2
      exact ih k b1 b2 b3 b4 b5 b6 b7 b8 b9 b10 b11 b12 b13 b14 (by omega) hI2
  exact key (n + 1) n a1 a2 a3 a4 a5 a6 a7 a8 a9 a10 a11 a12 a13 a14 (Nat.lt_succ_self _) hI
theorem lpW14_for {A1 A2 A3 A4 A5 A6 A7 A8 A9 A10 A11 A12 A13 A14 : Type} {body : (A1 → A2 → A3 → A4 → A5 → A6 → A7 → A8 → A9 → A10 → A11 → A12 → A13 → A14 → Prop) → A1 → A2 → A3 → A4 → A5 → A6 → A7 → A8 → A9 → A10 → A11 → A12 → A13 → A14 → Prop} (s1 : Nat → A1) (s2 : Nat → A2) (s3 : Nat → A3) (s4 : Nat → A4) (s5 : Nat → A5) (s6 : Nat → A6) (s7 : Nat → A7) (s8 : Nat → A8) (s9 : Nat → A9) (s10 : Nat → A10) (s11 : Nat → A11) (s12 : Nat → A12) (s13 : Nat → A13) (s14 : Nat → A14) (n : Nat) (hs : ∀ (k : Nat), k < n → ∀ K : A1 → A2 → A3 → A4 → A5 → A6 → A7 → A8 → A9 → A10 → A11 → A12 → A13 → A14 → Prop, K (s1 (k + 1)) (s2 (k + 1)) (s3 (k + 1)) (s4 (k + 1)) (s5 (k + 1)) (s6 (k + 1)) (s7 (k + 1)) (s8 (k + 1)) (s9 (k + 1)) (s10 (k + 1)) (s11 (k + 1)) (s12 (k + 1)) (s13 (k + 1)) (s14 (k + 1)) → body K (s1 k) (s2 k) (s3 k) (s4 k) (s5 k) (s6 k) (s7 k) (s8 k) (s9 k) (s10 k) (s11 k) (s12 k) (s13 k) (s14 k)) (he : ∀ K : A1 → A2 → A3 → A4 → A5 → A6 → A7 → A8 → A9 → A10 → A11 → A12 → A13 → A14 → Prop, body K (s1 n) (s2 n) (s3 n) (s4 n) (s5 n) (s6 n) (s7 n) (s8 n) (s9 n) (s10 n) (s11 n) (s12 n) (s13 n) (s14 n)) : lpW14 body (s1 0) (s2 0) (s3 0) (s4 0) (s5 0) (s6 0) (s7 0) (s8 0) (s9 0) (s10 0) (s11 0) (s12 0) (s13 0) (s14 0) := by
  refine ⟨fun m b1 b2 b3 b4 b5 b6 b7 b8 b9 b10 b11 b12 b13 b14 => ∃ k, k + m = n ∧ b1 = s1 k ∧ b2 = s2 k ∧ b3 = s3 k ∧ b4 = s4 k ∧ b5 = s5 k ∧ b6 = s6 k ∧ b7 = s7 k ∧ b8 = s8 k ∧ b9 = s9 k ∧ b10 = s10 k ∧ b11 = s11 k ∧ b12 = s12 k ∧ b13 = s13 k ∧ b14 = s14 k, n, ⟨0, Nat.zero_add n, rfl, rfl, rfl, rfl, rfl, rfl, rfl, rfl, rfl, rfl, rfl, rfl, rfl, rfl⟩, ?_⟩
  rintro m b1 b2 b3 b4 b5 b6 b7 b8 b9 b10 b11 b12 b13 b14 ⟨k, hk, rfl, rfl, rfl, rfl, rfl, rfl, rfl, rfl, rfl, rfl, rfl, rfl, rfl, rfl⟩
  rcases Nat.eq_zero_or_pos m with rfl | h0
  · have e : k = n := by omega
    subst e
    exact he _
  · exact hs k (by omega) _ ⟨m - 1, by omega, k + 1, by omega, rfl, rfl, rfl, rfl, rfl, rfl, rfl, rfl, rfl, rfl, rfl, rfl, rfl, rfl⟩
theorem lpW14_inv {A1 A2 A3 A4 A5 A6 A7 A8 A9 A10 A11 A12 A13 A14 : Type} {body : (A1 → A2 → A3 → A4 → A5 → A6 → A7 → A8 → A9 → A10 → A11 → A12 → A13 → A14 → Prop) → A1 → A2 → A3 → A4 → A5 → A6 → A7 → A8 → A9 → A10 → A11 → A12 → A13 → A14 → Prop} (I : A1 → A2 → A3 → A4 → A5 → A6 → A7 → A8 → A9 → A10 → A11 → A12 → A13 → A14 → Prop) (μ : A1 → A2 → A3 → A4 → A5 → A6 → A7 → A8 → A9 → A10 → A11 → A12 → A13 → A14 → Nat) (hb : ∀ (b1 : A1) (b2 : A2) (b3 : A3) (b4 : A4) (b5 : A5) (b6 : A6) (b7 : A7) (b8 : A8) (b9 : A9) (b10 : A10) (b11 : A11) (b12 : A12) (b13 : A13) (b14 : A14), I b1 b2 b3 b4 b5 b6 b7 b8 b9 b10 b11 b12 b13 b14 → body (fun c1 c2 c3 c4 c5 c6 c7 c8 c9 c10 c11 c12 c13 c14 => ∃ k, k < μ b1 b2 b3 b4 b5 b6 b7 b8 b9 b10 b11 b12 b13 b14 ∧ (I c1 c2 c3 c4 c5 c6 c7 c8 c9 c10 c11 c12 c13 c14 ∧ μ c1 c2 c3 c4 c5 c6 c7 c8 c9 c10 c11 c12 c13 c14 = k)) b1 b2 b3 b4 b5 b6 b7 b8 b9 b10 b11 b12 b13 b14) (a1 : A1) (a2 : A2) (a3 : A3) (a4 : A4) (a5 : A5) (a6 : A6) (a7 : A7) (a8 : A8) (a9 : A9) (a10 : A10) (a11 : A11) (a12 : A12) (a13 : A13) (a14 : A14) (hI : I a1 a2 a3 a4 a5 a6 a7 a8 a9 a10 a11 a12 a13 a14) : lpW14 body a1 a2 a3 a4 a5 a6 a7 a8 a9 a10 a11 a12 a13 a14 :=
  ⟨fun m b1 b2 b3 b4 b5 b6 b7 b8 b9 b10 b11 b12 b13 b14 => I b1 b2 b3 b4 b5 b6 b7 b8 b9 b10 b11 b12 b13 b14 ∧ μ b1 b2 b3 b4 b5 b6 b7 b8 b9 b10 b11 b12 b13 b14 = m, μ a1 a2 a3 a4 a5 a6 a7 a8 a9 a10 a11 a12 a13 a14, ⟨hI, rfl⟩, fun m b1 b2 b3 b4 b5 b6 b7 b8 b9 b10 b11 b12 b13 b14 h => by obtain ⟨h1, rfl⟩ := h; exact hb b1 b2 b3 b4 b5 b6 b7 b8 b9 b10 b11 b12 b13 b14 h1⟩
theorem va_same {A0 : Nat → Prop} {D : va_G} {cl : List vw_C} {ws wc : va_W} {H H1 : Heap} (hP : va_P D cl ws H) (hD : va_D A0 ws) (isC : List Nat) (hC : isC.map (fun i => ws[i]?) = wc.map some) (hk : ∀ q : Nat, q < H.size → ¬ va_A wc H.size q → H1[q]? = H[q]?) (hP1 : va_P D cl wc H1) : va_P D cl ws H1 := by
  intro k q hq
  by_cases hin : k ∈ isC
  · obtain ⟨j, hj⟩ := List.getElem?_of_mem hin
    have h1 : (isC.map (fun i => ws[i]?))[j]? = some (some q) := by rw [List.getElem?_map, hj]; simp [hq]
    rw [hC, List.getElem?_map] at h1
    cases hw : wc[j]? with
    | none => rw [hw] at h1; cases h1
    | some q2 => rw [hw] at h1; cases h1; exact hP1 j q hw
  · refine (hP k q hq).kept (hk q.1 (hP k q hq).lt ?_)
    rintro (⟨k2, e, h⟩ | h)
    · have h1 : (isC.map (fun i => ws[i]?))[k2]? = some (some (q.1, e)) := by rw [hC, List.getElem?_map, h]; rfl
      rw [List.getElem?_map] at h1
      cases hi : isC[k2]? with
      | none => rw [hi] at h1; cases h1
      | some i =>
        rw [hi] at h1
        have h2 := hD.1 i k (q.1, e) q (Option.some.inj h1) hq rfl
        subst h2
        exact hin (List.mem_of_getElem? hi)
    · have := (hP k q hq).lt
      omega
section JROWS
variable {l : Launch} {g : gE} {A : Nat → Prop} {x : jX} {nL kc kn pc : Nat} {lv : List (Nat × Value)} {st : List Value} {ws : va_W} {own : String} {cc : ByteArray} {Ts : List Cond} {rm : Room}
theorem j_iconst (C : JC g A x own cc nL Ts rm) {n : Int} {v : Int32} (d : decode cc pc = .ok (.iconst n, 1)) (hv : Int32.ofInt n = v) (k : J l g A x nL kc kn (pc + 1) lv (.int v :: st) ws) : J l g A x nL kc kn pc lv st ws := fun H locs ls hP hD hS hl => lv_iconst C.1 C.2.1 d hv (k H locs ls hP hD hS hl)
theorem j_bipush (C : JC g A x own cc nL Ts rm) {n : Int} {v : Int32} (d : decode cc pc = .ok (.bipush n, 2)) (hv : (Int8.ofInt n).toInt32 = v) (k : J l g A x nL kc kn (pc + 2) lv (.int v :: st) ws) : J l g A x nL kc kn pc lv st ws := fun H locs ls hP hD hS hl => lv_bipush C.1 C.2.1 d hv (k H locs ls hP hD hS hl)
theorem j_sipush (C : JC g A x own cc nL Ts rm) {n : Int} {v : Int32} (d : decode cc pc = .ok (.sipush n, 3)) (hv : (Int16.ofInt n).toInt32 = v) (k : J l g A x nL kc kn (pc + 3) lv (.int v :: st) ws) : J l g A x nL kc kn pc lv st ws := fun H locs ls hP hD hS hl => lv_sipush C.1 C.2.1 d hv (k H locs ls hP hD hS hl)
theorem j_ldc (C : JC g A x own cc nL Ts rm) {idx : Nat} {v : Int32} (hc : Cond.constant own idx v ∈ Ts) (d : decode cc pc = .ok (.ldc idx, 2)) (k : J l g A x nL kc kn (pc + 2) lv (.int v :: st) ws) : J l g A x nL kc kn pc lv st ws := fun H locs ls hP hD hS hl => lv_ldc C.1 C.2.1 C.2.2.2.1 (C.2.2.2.2.1 _ hc) d (k H locs ls hP hD hS hl)
theorem j_iload (C : JC g A x own cc nL Ts rm) (q : Nat) {i : Nat} {v : Int32} (d : decode cc pc = .ok (.iload i, 2)) (hl0 : lv[q]? = some (i, .int v)) (k : J l g A x nL kc kn (pc + 2) lv (.int v :: st) ws) : J l g A x nL kc kn pc lv st ws := fun H locs ls hP hD hS hl => lv_iload C.1 C.2.1 d (lv_at hl q hl0) (k H locs ls hP hD hS hl)
theorem j_iload_n (C : JC g A x own cc nL Ts rm) (q : Nat) {n : Fin 4} {i : Nat} {v : Int32} (d : decode cc pc = .ok (.iload_n n, 1)) (hi : (n : Nat) = i) (hl0 : lv[q]? = some (i, .int v)) (k : J l g A x nL kc kn (pc + 1) lv (.int v :: st) ws) : J l g A x nL kc kn pc lv st ws := fun H locs ls hP hD hS hl => lv_iload_n C.1 C.2.1 d hi (lv_at hl q hl0) (k H locs ls hP hD hS hl)
theorem j_aload_n (C : JC g A x own cc nL Ts rm) (q : Nat) {n : Fin 4} {i : Nat} {v : Nat} (d : decode cc pc = .ok (.aload_n n, 1)) (hi : (n : Nat) = i) (hl0 : lv[q]? = some (i, .ref v)) (k : J l g A x nL kc kn (pc + 1) lv (.ref v :: st) ws) : J l g A x nL kc kn pc lv st ws := fun H locs ls hP hD hS hl => lv_aload_n C.1 C.2.1 d hi (lv_at hl q hl0) (k H locs ls hP hD hS hl)
theorem j_istore (C : JC g A x own cc nL Ts rm) (ks : List Nat) {i : Nat} {v : Int32} {lv' : List (Nat × Value)} (d : decode cc pc = .ok (.istore i, 2)) (hn : i < nL) (hl0 : lv_pick ((i, Value.int v) :: lv.filter (fun q => !(q.1 == i) && !(q.1 + 1 == i && q.2.category == 2))) ks = lv') (k : J l g A x nL kc kn (pc + 2) lv' st ws) : J l g A x nL kc kn pc lv (.int v :: st) ws := fun H locs ls hP hD hS hl => lv_istore C.1 C.2.1 d hl hn rfl (fun ls' hl' => k H locs ls' hP hD hS (lv_sub hl' ks hl0))
theorem j_istore_n (C : JC g A x own cc nL Ts rm) (ks : List Nat) {n : Fin 4} {i : Nat} {v : Int32} {lv' : List (Nat × Value)} (d : decode cc pc = .ok (.istore_n n, 1)) (hi : (n : Nat) = i) (hn : i < nL) (hl0 : lv_pick ((i, Value.int v) :: lv.filter (fun q => !(q.1 == i) && !(q.1 + 1 == i && q.2.category == 2))) ks = lv') (k : J l g A x nL kc kn (pc + 1) lv' st ws) : J l g A x nL kc kn pc lv (.int v :: st) ws := fun H locs ls hP hD hS hl => lv_istore_n C.1 C.2.1 d hi hl hn rfl (fun ls' hl' => k H locs ls' hP hD hS (lv_sub hl' ks hl0))
theorem j_iinc (C : JC g A x own cc nL Ts rm) (q : Nat) (ks : List Nat) {i : Nat} {n : Int} {v v' : Int32} {lv' : List (Nat × Value)} (d : decode cc pc = .ok (.iinc i n, 3)) (hq : lv[q]? = some (i, .int v)) (hv : Int32.ofInt n = v') (hn : i < nL) (hl0 : lv_pick ((i, Value.int (v + v')) :: lv.filter (fun q => !(q.1 == i) && !(q.1 + 1 == i && q.2.category == 2))) ks = lv') (k : J l g A x nL kc kn (pc + 3) lv' st ws) : J l g A x nL kc kn pc lv st ws := fun H locs ls hP hD hS hl => lv_iinc C.1 C.2.1 d hl hq (by rw [hv]) hn rfl (fun ls' hl' => k H locs ls' hP hD hS (lv_sub hl' ks hl0))
theorem j_lv (ks : List Nat) {lv' : List (Nat × Value)} (hl0 : lv_pick lv ks = lv') (k : J l g A x nL kc kn pc lv' st ws) : J l g A x nL kc kn pc lv st ws := fun H locs ls hP hD hS hl => k H locs ls hP hD hS (lv_sub hl ks hl0)
theorem j_top {v : Int32} (k : ∀ v' : Int32, v' = v → J l g A x nL kc kn pc lv (.int v' :: st) ws) : J l g A x nL kc kn pc lv (.int v :: st) ws := k v rfl
theorem j_iadd (C : JC g A x own cc nL Ts rm) {a b : Int32} (d : decode cc pc = .ok (.iadd, 1)) (k : J l g A x nL kc kn (pc + 1) lv (.int (a + b) :: st) ws) : J l g A x nL kc kn pc lv (.int b :: .int a :: st) ws := fun H locs ls hP hD hS hl => lv_iadd C.1 C.2.1 d (k H locs ls hP hD hS hl)
theorem j_isub (C : JC g A x own cc nL Ts rm) {a b : Int32} (d : decode cc pc = .ok (.isub, 1)) (k : J l g A x nL kc kn (pc + 1) lv (.int (a - b) :: st) ws) : J l g A x nL kc kn pc lv (.int b :: .int a :: st) ws := fun H locs ls hP hD hS hl => lv_isub C.1 C.2.1 d (k H locs ls hP hD hS hl)
theorem j_imul (C : JC g A x own cc nL Ts rm) {a b : Int32} (d : decode cc pc = .ok (.imul, 1)) (k : J l g A x nL kc kn (pc + 1) lv (.int (a * b) :: st) ws) : J l g A x nL kc kn pc lv (.int b :: .int a :: st) ws := fun H locs ls hP hD hS hl => lv_imul C.1 C.2.1 d (k H locs ls hP hD hS hl)
theorem j_idiv (C : JC g A x own cc nL Ts rm) {a b : Int32} (d : decode cc pc = .ok (.idiv, 1)) (hne : ¬ b = 0) (k : J l g A x nL kc kn (pc + 1) lv (.int (a / b) :: st) ws) : J l g A x nL kc kn pc lv (.int b :: .int a :: st) ws := fun H locs ls hP hD hS hl => lv_idiv C.1 C.2.1 d hne (k H locs ls hP hD hS hl)
theorem j_irem (C : JC g A x own cc nL Ts rm) {a b : Int32} (d : decode cc pc = .ok (.irem, 1)) (hne : ¬ b = 0) (k : J l g A x nL kc kn (pc + 1) lv (.int (a - a / b * b) :: st) ws) : J l g A x nL kc kn pc lv (.int b :: .int a :: st) ws := fun H locs ls hP hD hS hl => lv_irem C.1 C.2.1 d hne (k H locs ls hP hD hS hl)
theorem j_iand (C : JC g A x own cc nL Ts rm) {a b : Int32} (d : decode cc pc = .ok (.iand, 1)) (k : J l g A x nL kc kn (pc + 1) lv (.int (a &&& b) :: st) ws) : J l g A x nL kc kn pc lv (.int b :: .int a :: st) ws := fun H locs ls hP hD hS hl => lv_iand C.1 C.2.1 d (k H locs ls hP hD hS hl)
theorem j_ior (C : JC g A x own cc nL Ts rm) {a b : Int32} (d : decode cc pc = .ok (.ior, 1)) (k : J l g A x nL kc kn (pc + 1) lv (.int (a ||| b) :: st) ws) : J l g A x nL kc kn pc lv (.int b :: .int a :: st) ws := fun H locs ls hP hD hS hl => lv_ior C.1 C.2.1 d (k H locs ls hP hD hS hl)
theorem j_ixor (C : JC g A x own cc nL Ts rm) {a b : Int32} (d : decode cc pc = .ok (.ixor, 1)) (k : J l g A x nL kc kn (pc + 1) lv (.int (a ^^^ b) :: st) ws) : J l g A x nL kc kn pc lv (.int b :: .int a :: st) ws := fun H locs ls hP hD hS hl => lv_ixor C.1 C.2.1 d (k H locs ls hP hD hS hl)
theorem j_ishl (C : JC g A x own cc nL Ts rm) {a b : Int32} (d : decode cc pc = .ok (.ishl, 1)) (k : J l g A x nL kc kn (pc + 1) lv (.int (a <<< (b &&& 31)) :: st) ws) : J l g A x nL kc kn pc lv (.int b :: .int a :: st) ws := fun H locs ls hP hD hS hl => lv_ishl C.1 C.2.1 d (k H locs ls hP hD hS hl)
theorem j_ishr (C : JC g A x own cc nL Ts rm) {a b : Int32} (d : decode cc pc = .ok (.ishr, 1)) (k : J l g A x nL kc kn (pc + 1) lv (.int (a >>> (b &&& 31)) :: st) ws) : J l g A x nL kc kn pc lv (.int b :: .int a :: st) ws := fun H locs ls hP hD hS hl => lv_ishr C.1 C.2.1 d (k H locs ls hP hD hS hl)
theorem j_iushr (C : JC g A x own cc nL Ts rm) {a b : Int32} (d : decode cc pc = .ok (.iushr, 1)) (k : J l g A x nL kc kn (pc + 1) lv (.int ((a.toUInt32 >>> (b.toUInt32 &&& Int32.toUInt32 31)).toInt32) :: st) ws) : J l g A x nL kc kn pc lv (.int b :: .int a :: st) ws := fun H locs ls hP hD hS hl => lv_iushr C.1 C.2.1 d rfl (k H locs ls hP hD hS hl)
theorem j_i2c (C : JC g A x own cc nL Ts rm) {a : Int32} (d : decode cc pc = .ok (.i2c, 1)) (k : J l g A x nL kc kn (pc + 1) lv (.int ((a.toUInt32 % 65536).toInt32) :: st) ws) : J l g A x nL kc kn pc lv (.int a :: st) ws := fun H locs ls hP hD hS hl => lv_i2c C.1 C.2.1 d rfl (k H locs ls hP hD hS hl)
theorem j_i2b (C : JC g A x own cc nL Ts rm) {a : Int32} (d : decode cc pc = .ok (.i2b, 1)) (k : J l g A x nL kc kn (pc + 1) lv (.int a.toInt8.toInt32 :: st) ws) : J l g A x nL kc kn pc lv (.int a :: st) ws := fun H locs ls hP hD hS hl => lv_i2b C.1 C.2.1 d rfl (k H locs ls hP hD hS hl)
theorem j_dup (C : JC g A x own cc nL Ts rm) {v : Value} (d : decode cc pc = .ok (.dup, 1)) (hv : v.category = 1) (k : J l g A x nL kc kn (pc + 1) lv (v :: v :: st) ws) : J l g A x nL kc kn pc lv (v :: st) ws := fun H locs ls hP hD hS hl => lv_dup C.1 C.2.1 d hv (k H locs ls hP hD hS hl)
theorem j_dup_x1 (C : JC g A x own cc nL Ts rm) {v w : Value} (d : decode cc pc = .ok (.dup_x1, 1)) (hv : v.category = 1) (hw : w.category = 1) (k : J l g A x nL kc kn (pc + 1) lv (v :: w :: v :: st) ws) : J l g A x nL kc kn pc lv (v :: w :: st) ws := fun H locs ls hP hD hS hl => lv_dup_x1 C.1 C.2.1 d hv hw (k H locs ls hP hD hS hl)
theorem j_dup2 (C : JC g A x own cc nL Ts rm) {v w : Value} (d : decode cc pc = .ok (.dup2, 1)) (hv : v.category = 1) (hw : w.category = 1) (k : J l g A x nL kc kn (pc + 1) lv (v :: w :: v :: w :: st) ws) : J l g A x nL kc kn pc lv (v :: w :: st) ws := fun H locs ls hP hD hS hl => lv_dup2_11 C.1 C.2.1 d hv hw (k H locs ls hP hD hS hl)
theorem j_pop (C : JC g A x own cc nL Ts rm) {v : Value} (d : decode cc pc = .ok (.pop, 1)) (hv : v.category = 1) (k : J l g A x nL kc kn (pc + 1) lv st ws) : J l g A x nL kc kn pc lv (v :: st) ws := fun H locs ls hP hD hS hl => lv_pop C.1 C.2.1 d hv (k H locs ls hP hD hS hl)
theorem j_goto (C : JC g A x own cc nL Ts rm) {off : Int} (tgt : Nat) (d : decode cc pc = .ok (.goto off, 3)) (ht : (pc : Int) + off = (tgt : Int)) (k : J l g A x nL kc kn tgt lv st ws) : J l g A x nL kc kn pc lv st ws := fun H locs ls hP hD hS hl => lv_goto C.1 C.2.1 d ht (k H locs ls hP hD hS hl)
theorem j_if_eq (C : JC g A x own cc nL Ts rm) {a : Int32} {off : Int} (tgt : Nat) (d : decode cc pc = .ok (.ifCond .eq off, 3)) (ht : (pc : Int) + off = (tgt : Int)) (k1 : a = 0 → J l g A x nL kc kn tgt lv st ws) (k2 : ¬ a = 0 → J l g A x nL kc kn (pc + 3) lv st ws) : J l g A x nL kc kn pc lv (.int a :: st) ws := fun H locs ls hP hD hS hl => lv_if_eq C.1 C.2.1 d ht (fun c => k1 c H locs ls hP hD hS hl) (fun c => k2 c H locs ls hP hD hS hl)
theorem j_if_ne (C : JC g A x own cc nL Ts rm) {a : Int32} {off : Int} (tgt : Nat) (d : decode cc pc = .ok (.ifCond .ne off, 3)) (ht : (pc : Int) + off = (tgt : Int)) (k1 : ¬ a = 0 → J l g A x nL kc kn tgt lv st ws) (k2 : a = 0 → J l g A x nL kc kn (pc + 3) lv st ws) : J l g A x nL kc kn pc lv (.int a :: st) ws := fun H locs ls hP hD hS hl => lv_if_ne C.1 C.2.1 d ht (fun c => k1 c H locs ls hP hD hS hl) (fun c => k2 c H locs ls hP hD hS hl)
theorem j_if_lt (C : JC g A x own cc nL Ts rm) {a : Int32} {off : Int} (tgt : Nat) (d : decode cc pc = .ok (.ifCond .lt off, 3)) (ht : (pc : Int) + off = (tgt : Int)) (k1 : a < 0 → J l g A x nL kc kn tgt lv st ws) (k2 : ¬ a < 0 → J l g A x nL kc kn (pc + 3) lv st ws) : J l g A x nL kc kn pc lv (.int a :: st) ws := fun H locs ls hP hD hS hl => lv_if_lt C.1 C.2.1 d ht (fun c => k1 c H locs ls hP hD hS hl) (fun c => k2 c H locs ls hP hD hS hl)
theorem j_if_ge (C : JC g A x own cc nL Ts rm) {a : Int32} {off : Int} (tgt : Nat) (d : decode cc pc = .ok (.ifCond .ge off, 3)) (ht : (pc : Int) + off = (tgt : Int)) (k1 : 0 ≤ a → J l g A x nL kc kn tgt lv st ws) (k2 : ¬ 0 ≤ a → J l g A x nL kc kn (pc + 3) lv st ws) : J l g A x nL kc kn pc lv (.int a :: st) ws := fun H locs ls hP hD hS hl => lv_if_ge C.1 C.2.1 d ht (fun c => k1 c H locs ls hP hD hS hl) (fun c => k2 c H locs ls hP hD hS hl)
theorem j_if_gt (C : JC g A x own cc nL Ts rm) {a : Int32} {off : Int} (tgt : Nat) (d : decode cc pc = .ok (.ifCond .gt off, 3)) (ht : (pc : Int) + off = (tgt : Int)) (k1 : 0 < a → J l g A x nL kc kn tgt lv st ws) (k2 : ¬ 0 < a → J l g A x nL kc kn (pc + 3) lv st ws) : J l g A x nL kc kn pc lv (.int a :: st) ws := fun H locs ls hP hD hS hl => lv_if_gt C.1 C.2.1 d ht (fun c => k1 c H locs ls hP hD hS hl) (fun c => k2 c H locs ls hP hD hS hl)
theorem j_if_le (C : JC g A x own cc nL Ts rm) {a : Int32} {off : Int} (tgt : Nat) (d : decode cc pc = .ok (.ifCond .le off, 3)) (ht : (pc : Int) + off = (tgt : Int)) (k1 : a ≤ 0 → J l g A x nL kc kn tgt lv st ws) (k2 : ¬ a ≤ 0 → J l g A x nL kc kn (pc + 3) lv st ws) : J l g A x nL kc kn pc lv (.int a :: st) ws := fun H locs ls hP hD hS hl => lv_if_le C.1 C.2.1 d ht (fun c => k1 c H locs ls hP hD hS hl) (fun c => k2 c H locs ls hP hD hS hl)
theorem j_icmp_eq (C : JC g A x own cc nL Ts rm) {a b : Int32} {off : Int} (tgt : Nat) (d : decode cc pc = .ok (.if_icmp .eq off, 3)) (ht : (pc : Int) + off = (tgt : Int)) (k1 : a = b → J l g A x nL kc kn tgt lv st ws) (k2 : ¬ a = b → J l g A x nL kc kn (pc + 3) lv st ws) : J l g A x nL kc kn pc lv (.int b :: .int a :: st) ws := fun H locs ls hP hD hS hl => lv_icmp_eq C.1 C.2.1 d ht (fun c => k1 c H locs ls hP hD hS hl) (fun c => k2 c H locs ls hP hD hS hl)
theorem j_icmp_ne (C : JC g A x own cc nL Ts rm) {a b : Int32} {off : Int} (tgt : Nat) (d : decode cc pc = .ok (.if_icmp .ne off, 3)) (ht : (pc : Int) + off = (tgt : Int)) (k1 : ¬ a = b → J l g A x nL kc kn tgt lv st ws) (k2 : a = b → J l g A x nL kc kn (pc + 3) lv st ws) : J l g A x nL kc kn pc lv (.int b :: .int a :: st) ws := fun H locs ls hP hD hS hl => lv_icmp_ne C.1 C.2.1 d ht (fun c => k1 c H locs ls hP hD hS hl) (fun c => k2 c H locs ls hP hD hS hl)
theorem j_icmp_lt (C : JC g A x own cc nL Ts rm) {a b : Int32} {off : Int} (tgt : Nat) (d : decode cc pc = .ok (.if_icmp .lt off, 3)) (ht : (pc : Int) + off = (tgt : Int)) (k1 : a < b → J l g A x nL kc kn tgt lv st ws) (k2 : ¬ a < b → J l g A x nL kc kn (pc + 3) lv st ws) : J l g A x nL kc kn pc lv (.int b :: .int a :: st) ws := fun H locs ls hP hD hS hl => lv_icmp_lt C.1 C.2.1 d ht (fun c => k1 c H locs ls hP hD hS hl) (fun c => k2 c H locs ls hP hD hS hl)
theorem j_icmp_ge (C : JC g A x own cc nL Ts rm) {a b : Int32} {off : Int} (tgt : Nat) (d : decode cc pc = .ok (.if_icmp .ge off, 3)) (ht : (pc : Int) + off = (tgt : Int)) (k1 : b ≤ a → J l g A x nL kc kn tgt lv st ws) (k2 : ¬ b ≤ a → J l g A x nL kc kn (pc + 3) lv st ws) : J l g A x nL kc kn pc lv (.int b :: .int a :: st) ws := fun H locs ls hP hD hS hl => lv_icmp_ge C.1 C.2.1 d ht (fun c => k1 c H locs ls hP hD hS hl) (fun c => k2 c H locs ls hP hD hS hl)
theorem j_icmp_gt (C : JC g A x own cc nL Ts rm) {a b : Int32} {off : Int} (tgt : Nat) (d : decode cc pc = .ok (.if_icmp .gt off, 3)) (ht : (pc : Int) + off = (tgt : Int)) (k1 : b < a → J l g A x nL kc kn tgt lv st ws) (k2 : ¬ b < a → J l g A x nL kc kn (pc + 3) lv st ws) : J l g A x nL kc kn pc lv (.int b :: .int a :: st) ws := fun H locs ls hP hD hS hl => lv_icmp_gt C.1 C.2.1 d ht (fun c => k1 c H locs ls hP hD hS hl) (fun c => k2 c H locs ls hP hD hS hl)
theorem j_icmp_le (C : JC g A x own cc nL Ts rm) {a b : Int32} {off : Int} (tgt : Nat) (d : decode cc pc = .ok (.if_icmp .le off, 3)) (ht : (pc : Int) + off = (tgt : Int)) (k1 : a ≤ b → J l g A x nL kc kn tgt lv st ws) (k2 : ¬ a ≤ b → J l g A x nL kc kn (pc + 3) lv st ws) : J l g A x nL kc kn pc lv (.int b :: .int a :: st) ws := fun H locs ls hP hD hS hl => lv_icmp_le C.1 C.2.1 d ht (fun c => k1 c H locs ls hP hD hS hl) (fun c => k2 c H locs ls hP hD hS hl)
theorem j_get (C : JC g A x own cc nL Ts rm) (q0 ci k : Nat) {ref C0 : String} {T : u_T} {N idx a : Nat} {fs : List Value} {v : Value} (hin : ∀ w ∈ u_ws C0 T N, w ∈ Ts) (hc : vwCl[ci]? = some (C0, T, N)) (hk : k < N) (hlink : Cond.fieldLink own idx ref (T k).2.1 (T k).2.2.1 ∈ Ts) (hsame : (T k).1 = ref) (he : ws[q0]? = some (a, .inr (ci, fs))) (hv : fs[k]? = some v) (d : decode cc pc = .ok (.getfield idx, 3)) (kk : J l g A x nL kc kn (pc + 3) lv (v :: st) ws) : J l g A x nL kc kn pc lv (.ref a :: st) ws := fun H locs ls hP hD hS hl => va_get C.1 C.2.1 C.2.2.2.2.1 hin C.2.2.2.1 C.2.2.2.2.2.1 hP q0 he hc k hk (C.2.2.2.2.1 _ hlink) (fun _ h => by rw [← hsame]; exact h) hv d (kk H locs ls hP hD hS hl)
theorem j_put (C : JC g A x own cc nL Ts rm) (q0 ci k : Nat) {ref C0 : String} {T : u_T} {N idx a : Nat} {fs : List Value} {v : Value} {ty : FieldType} {ws' : va_W} {ty0 : Nat → FieldType} (hty : ∀ k, k < N → parseFieldDescriptor (T k).2.2.1 = some (ty0 k)) (hnm : ∀ a, a < N → ∀ b, b < N → a ≠ b → (T a).2.1 ≠ (T b).2.1) (hin : ∀ w ∈ u_ws C0 T N, w ∈ Ts) (hc : vwCl[ci]? = some (C0, T, N)) (hk : k < N) (hlink : Cond.fieldLink own idx ref (T k).2.1 (T k).2.2.1 ∈ Ts) (hsame : (T k).1 = ref) (hfin : (T k).2.2.2 = false) (hd : ty0 k = ty) (hn : narrow ty v = v) (hfit : fits ty v = true) (he : ws[q0]? = some (a, .inr (ci, fs))) (hlen : k < fs.length) (hws : ws.set q0 (a, .inr (ci, fs.set k v)) = ws') (d : decode cc pc = .ok (.putfield idx, 3)) (kk : J l g A x nL kc kn (pc + 3) lv st ws') : J l g A x nL kc kn pc lv (v :: .ref a :: st) ws := fun H locs ls hP hD hS hl => va_put C.1 C.2.1 C.2.2.2.2.1 hin ty0 hty hnm C.2.2.2.1 C.2.2.2.2.2.1 hP hD hS q0 he hc k hk (C.2.2.2.2.1 _ hlink) (fun _ h => by rw [← hsame]; exact h) hfin (by rw [hty k hk, hd]) hn hfit hlen d (fun H1 locs1 hP1 hD1 hS1 => kk H1 locs1 ls (hws ▸ hP1) (hws ▸ hD1) hS1 hl)
theorem j_putF (C : JC g A x own cc nL Ts rm) {y : MethodName} {ret : Option FieldType} {mc ms : Nat} {Qc : Array Value → State → Outcome → State → Prop} (R : JR A x y ret mc ms Qc) (hyn : y.name = "<init>") (q0 ci k : Nat) {ref C0 : String} {T : u_T} {N idx a : Nat} {fs : List Value} {v : Value} {ty : FieldType} {ws' : va_W} {ty0 : Nat → FieldType} (hty : ∀ k, k < N → parseFieldDescriptor (T k).2.2.1 = some (ty0 k)) (hnm : ∀ a, a < N → ∀ b, b < N → a ≠ b → (T a).2.1 ≠ (T b).2.1) (hin : ∀ w ∈ u_ws C0 T N, w ∈ Ts) (hc : vwCl[ci]? = some (C0, T, N)) (hk : k < N) (hlink : Cond.fieldLink own idx ref (T k).2.1 (T k).2.2.1 ∈ Ts) (hsame : (T k).1 = ref) (hfin : (T k).2.2.2 = true) (hdecl : (T k).1 = own) (hd : ty0 k = ty) (hn : narrow ty v = v) (hfit : fits ty v = true) (he : ws[q0]? = some (a, .inr (ci, fs))) (hlen : k < fs.length) (hws : ws.set q0 (a, .inr (ci, fs.set k v)) = ws') (d : decode cc pc = .ok (.putfield idx, 3)) (kk : J l g A x nL kc kn (pc + 3) lv st ws') : J l g A x nL kc kn pc lv (v :: .ref a :: st) ws := fun H locs ls hP hD hS hl => va_putF C.1 C.2.1 C.2.2.2.2.1 hin ty0 hty hnm C.2.2.2.1 C.2.2.2.2.2.1 hP hD hS q0 he hc k hk (C.2.2.2.2.1 _ hlink) (fun _ h => by rw [← hsame]; exact h) hfin (by rw [R.2.2.1, hyn]) hdecl (by rw [hty k hk, hd]) hn hfit hlen d (fun H1 locs1 hP1 hD1 hS1 => kk H1 locs1 ls (hws ▸ hP1) (hws ▸ hD1) hS1 hl)
theorem j_iald (C : JC g A x own cc nL Ts rm) (q0 k : Nat) {a n : Nat} {f : Nat → Int32} {i : Int32} (ha : ws[q0]? = some (a, gI g n f)) (ei : i = nI k) (hk : k < n) (hn : n < 2147483648) (d : decode cc pc = .ok (.iaload, 1)) (kk : J l g A x nL kc kn (pc + 1) lv (.int (f k) :: st) ws) : J l g A x nL kc kn pc lv (.int i :: .ref a :: st) ws := fun H locs ls hP hD hS hl => va_iald C.1 C.2.1 C.2.2.2.2.2.1 hP q0 0 ha rfl (ix_in ei hk hn) d (by rw [ix_cl ei hk hn]; exact kk H locs ls hP hD hS hl)
theorem j_cald (C : JC g A x own cc nL Ts rm) (q0 k : Nat) {a n : Nat} {f : Nat → Int32} {i : Int32} (ha : ws[q0]? = some (a, gC g n f)) (ei : i = nI k) (hk : k < n) (hn : n < 2147483648) (d : decode cc pc = .ok (.caload, 1)) (kk : J l g A x nL kc kn (pc + 1) lv (.int (f k) :: st) ws) : J l g A x nL kc kn pc lv (.int i :: .ref a :: st) ws := fun H locs ls hP hD hS hl => va_cald C.1 C.2.1 C.2.2.2.2.2.1 hP q0 1 ha rfl (ix_in ei hk hn) d (by rw [ix_cl ei hk hn]; exact kk H locs ls hP hD hS hl)
theorem j_zald (C : JC g A x own cc nL Ts rm) (q0 k : Nat) {a n : Nat} {f : Nat → Int32} {i : Int32} (ha : ws[q0]? = some (a, gZ g n f)) (ei : i = nI k) (hk : k < n) (hn : n < 2147483648) (d : decode cc pc = .ok (.baload, 1)) (kk : J l g A x nL kc kn (pc + 1) lv (.int (f k) :: st) ws) : J l g A x nL kc kn pc lv (.int i :: .ref a :: st) ws := fun H locs ls hP hD hS hl => va_zald C.1 C.2.1 C.2.2.2.2.2.1 hP q0 2 ha rfl (ix_in ei hk hn) d (by rw [ix_cl ei hk hn]; exact kk H locs ls hP hD hS hl)
theorem j_iast (C : JC g A x own cc nL Ts rm) (q0 k : Nat) {a n : Nat} {f : Nat → Int32} {i v : Int32} {ws' : va_W} (ha : ws[q0]? = some (a, gI g n f)) (ei : i = nI k) (hk : k < n) (hn : n < 2147483648) (hws : ws.set q0 (a, gI g n (upd f k v)) = ws') (d : decode cc pc = .ok (.iastore, 1)) (kk : J l g A x nL kc kn (pc + 1) lv st ws') : J l g A x nL kc kn pc lv (.int v :: .int i :: .ref a :: st) ws := fun H locs ls hP hD hS hl => va_iast C.1 C.2.1 C.2.2.2.2.2.1 hP hD hS q0 0 ha rfl (ix_in ei hk hn) d (fun H1 locs1 hP1 hD1 hS1 => kk H1 locs1 ls (by rw [ix_cl ei hk hn] at hP1; exact hws ▸ hP1) (by rw [ix_cl ei hk hn] at hD1; exact hws ▸ hD1) hS1 hl)
theorem j_cast (C : JC g A x own cc nL Ts rm) (q0 k : Nat) {a n : Nat} {f : Nat → Int32} {i v : Int32} {ws' : va_W} (ha : ws[q0]? = some (a, gC g n f)) (ei : i = nI k) (hk : k < n) (hn : n < 2147483648) (hws : ws.set q0 (a, gC g n (upd f k (vp_nar .char v))) = ws') (d : decode cc pc = .ok (.castore, 1)) (kk : J l g A x nL kc kn (pc + 1) lv st ws') : J l g A x nL kc kn pc lv (.int v :: .int i :: .ref a :: st) ws := fun H locs ls hP hD hS hl => va_cast C.1 C.2.1 C.2.2.2.2.2.1 hP hD hS q0 1 ha rfl (ix_in ei hk hn) d (fun H1 locs1 hP1 hD1 hS1 => kk H1 locs1 ls (by rw [ix_cl ei hk hn] at hP1; exact hws ▸ hP1) (by rw [ix_cl ei hk hn] at hD1; exact hws ▸ hD1) hS1 hl)
theorem j_zast (C : JC g A x own cc nL Ts rm) (q0 k : Nat) {a n : Nat} {f : Nat → Int32} {i v : Int32} {ws' : va_W} (ha : ws[q0]? = some (a, gZ g n f)) (ei : i = nI k) (hk : k < n) (hn : n < 2147483648) (hws : ws.set q0 (a, gZ g n (upd f k (vp_nar .boolean v))) = ws') (d : decode cc pc = .ok (.bastore, 1)) (kk : J l g A x nL kc kn (pc + 1) lv st ws') : J l g A x nL kc kn pc lv (.int v :: .int i :: .ref a :: st) ws := fun H locs ls hP hD hS hl => va_zast C.1 C.2.1 C.2.2.2.2.2.1 hP hD hS q0 2 ha rfl (ix_in ei hk hn) d (fun H1 locs1 hP1 hD1 hS1 => kk H1 locs1 ls (by rw [ix_cl ei hk hn] at hP1; exact hws ▸ hP1) (by rw [ix_cl ei hk hn] at hD1; exact hws ▸ hD1) hS1 hl)
theorem j_min (C : JC g A x own cc nL Ts rm) {idx : Nat} {a b : Int32} (h1 : Cond.methodLink own idx Lib.Math.min.name ∈ Ts) (h2 : Cond.static Lib.Math.min.name ∈ Ts) (h3 : Cond.initialized "java/lang/Math" ∈ Ts) (h4 : Cond.code Lib.Math.min.name Lib.Math.min.code 2 (some .int) ∈ Ts) (hf : 1 ≤ rm.frames) (hlo : (st.map fun v => v.category).sum + 13 ≤ rm.locals) (hc : kc ≤ rm.cells) (hs : kn ≤ rm.slots) (d : decode cc pc = .ok (.invokestatic idx, 3)) (kk : J l g A x nL kc kn (pc + 3) lv (.int (if b < a then b else a) :: st) ws) : J l g A x nL kc kn pc lv (.int b :: .int a :: st) ws := fun H locs ls hP hD hS hl => va_mmin C.1 C.2.1 (C.2.2.1.trans hl.1.symm) C.2.2.2.1 (C.2.2.2.2.1 _ h1) (C.2.2.2.2.1 _ h2) (C.2.2.2.2.1 _ h3) (C.2.2.2.2.1 _ h4) (by rw [C.2.2.2.2.2.2.2.2]; exact hf) (by rw [C.2.2.2.2.2.2.2.2]; exact hlo) (by rw [C.2.2.2.2.2.2.2.2]; exact hc) (by rw [C.2.2.2.2.2.2.2.2]; exact hs) d (kk H locs ls hP hD hS hl)
theorem j_max (C : JC g A x own cc nL Ts rm) {idx : Nat} {a b : Int32} (h1 : Cond.methodLink own idx Lib.Math.max.name ∈ Ts) (h2 : Cond.static Lib.Math.max.name ∈ Ts) (h3 : Cond.initialized "java/lang/Math" ∈ Ts) (h4 : Cond.code Lib.Math.max.name Lib.Math.max.code 2 (some .int) ∈ Ts) (hf : 1 ≤ rm.frames) (hlo : (st.map fun v => v.category).sum + 13 ≤ rm.locals) (hc : kc ≤ rm.cells) (hs : kn ≤ rm.slots) (d : decode cc pc = .ok (.invokestatic idx, 3)) (kk : J l g A x nL kc kn (pc + 3) lv (.int (if a < b then b else a) :: st) ws) : J l g A x nL kc kn pc lv (.int b :: .int a :: st) ws := fun H locs ls hP hD hS hl => va_mmax C.1 C.2.1 (C.2.2.1.trans hl.1.symm) C.2.2.2.1 (C.2.2.2.2.1 _ h1) (C.2.2.2.2.1 _ h2) (C.2.2.2.2.1 _ h3) (C.2.2.2.2.1 _ h4) (by rw [C.2.2.2.2.2.2.2.2]; exact hf) (by rw [C.2.2.2.2.2.2.2.2]; exact hlo) (by rw [C.2.2.2.2.2.2.2.2]; exact hc) (by rw [C.2.2.2.2.2.2.2.2]; exact hs) d (kk H locs ls hP hD hS hl)
theorem j_copy (C : JC g A x own cc nL Ts rm) (q0 q1 s d0 n : Nat) {idx a0 a1 n0 n1 : Nat} {f0 f1 : Nat → Int32} {sp dp nn : Int32} {ws' : va_W} (h1 : Cond.methodLink own idx arraycopyName ∈ Ts) (h2 : Cond.native arraycopyName ∈ Ts) (h3 : Cond.static arraycopyName ∈ Ts) (h4 : Cond.initialized "java/lang/System" ∈ Ts) (ha0 : ws[q0]? = some (a0, gI g n0 f0)) (ha1 : ws[q1]? = some (a1, gI g n1 f1)) (es : sp = nI s) (ed : dp = nI d0) (en : nn = nI n) (hs : s + n ≤ n0) (hd : d0 + n ≤ n1) (hn0 : n0 < 2147483648) (hn1 : n1 < 2147483648) (hf : 1 ≤ rm.frames) (hlo : (st.map fun v => v.category).sum + (nativeFrameWords "java/lang/System" "arraycopy" 5 + 11) ≤ rm.locals) (hws : ws.set q1 (a1, gI g n1 (va_cpy f0 f1 s d0 n)) = ws') (d : decode cc pc = .ok (.invokestatic idx, 3)) (kk : J l g A x nL kc kn (pc + 3) lv st ws') : J l g A x nL kc kn pc lv (.int nn :: .int dp :: .ref a1 :: .int sp :: .ref a0 :: st) ws := by
  intro H locs ls hP hD hS hl
  have c1 := ix_cle es (n := n0) (by omega) hn0
  have c2 := ix_cle ed (n := n1) (by omega) hn1
  have c3 := ix_cle en (n := n0) (by omega) hn0
  refine va_copyi (ty := .int) C.1 C.2.1 (C.2.2.1.trans hl.1.symm) C.2.2.2.1 (C.2.2.2.2.1 _ h1) (C.2.2.2.2.1 _ h2) (C.2.2.2.2.1 _ h3) (C.2.2.2.2.1 _ h4) C.2.2.2.2.2.1 hP hD hS q0 q1 0 0 ha0 ha1 rfl rfl rfl (ix_pos es (n := n0) (by omega) hn0) (ix_pos ed (n := n1) (by omega) hn1) (ix_pos en (n := n0) (by omega) hn0) (by rw [c1, c3]; exact hs) (by rw [c2, c3]; exact hd) (fun _ _ => rfl) (by rw [C.2.2.2.2.2.2.2.2]; exact hf) (by rw [C.2.2.2.2.2.2.2.2]; exact hlo) d (fun H1 locs1 hP1 hD1 hS1 => ?_)
  rw [c1, c2, c3] at hP1 hD1
  exact kk H1 locs1 ls (hws ▸ hP1) (hws ▸ hD1) hS1 hl
theorem j_ldc_w (C : JC g A x own cc nL Ts rm) {idx : Nat} {v : Int32} (hc : Cond.constant own idx v ∈ Ts) (d : decode cc pc = .ok (.ldc_w idx, 3)) (k : J l g A x nL kc kn (pc + 3) lv (.int v :: st) ws) : J l g A x nL kc kn pc lv st ws := fun H locs ls hP hD hS hl => lv_ldcw C.1 C.2.1 C.2.2.2.1 (C.2.2.2.2.1 _ hc) d (k H locs ls hP hD hS hl)
theorem j_tout (C : JC g A x own cc nL Ts rm) {dflt lo hi : Int} {offs : Array Int} {len : Nat} {v : Int32} (tgt : Nat) (d : decode cc pc = .ok (.tableswitch dflt lo hi offs, len)) (h : v.toInt < lo ∨ hi < v.toInt) (ht : (pc : Int) + dflt = (tgt : Int)) (k : J l g A x nL kc kn tgt lv st ws) : J l g A x nL kc kn pc lv (.int v :: st) ws := fun H locs ls hP hD hS hl => lv_tableOut C.1 C.2.1 d h ht (k H locs ls hP hD hS hl)
theorem j_tin (C : JC g A x own cc nL Ts rm) {dflt lo hi : Int} {offs : Array Int} {len : Nat} {v : Int32} {off : Int} (tgt : Nat) (w : Int32) (hv : v = w) (d : decode cc pc = .ok (.tableswitch dflt lo hi offs, len)) (h1 : ¬ w.toInt < lo) (h2 : ¬ hi < w.toInt) (ho : offs[(w.toInt - lo).toNat]? = some off) (ht : (pc : Int) + off = (tgt : Int)) (k : J l g A x nL kc kn tgt lv st ws) : J l g A x nL kc kn pc lv (.int v :: st) ws := fun H locs ls hP hD hS hl => by subst hv; exact lv_tableIn C.1 C.2.1 d h1 h2 ho ht (k H locs ls hP hD hS hl)
theorem j_ldcS0 (C : JC g A x RX4 cc nL Ts rm) (d : decode cc pc = .ok (.ldc 62, 2)) (k : J l g A x nL kc kn (pc + 2) lv (.ref (g.2.2 0) :: st) ws) : J l g A x nL kc kn pc lv st ws := fun H locs ls hP hD hS hl => va_ldcS C.1 C.2.1 C.2.2.2.1 C.2.2.2.2.2.2.2.1.2.2.1.1 d (k H locs ls hP hD hS hl)
theorem j_ldcS1 (C : JC g A x RX4 cc nL Ts rm) (d : decode cc pc = .ok (.ldc 75, 2)) (k : J l g A x nL kc kn (pc + 2) lv (.ref (g.2.2 1) :: st) ws) : J l g A x nL kc kn pc lv st ws := fun H locs ls hP hD hS hl => va_ldcS C.1 C.2.1 C.2.2.2.1 C.2.2.2.2.2.2.2.1.2.2.1.2 d (k H locs ls hP hD hS hl)
theorem j_coder (C : JC g A x own cc nL Ts rm) (i : Nat) (hi : i < 2) {idx : Nat} (hlink : Cond.fieldLink own idx "java/lang/String" "coder" "B" ∈ Ts) (d : decode cc pc = .ok (.getfield idx, 3)) (k : J l g A x nL kc kn (pc + 3) lv (.int 0 :: st) ws) : J l g A x nL kc kn pc lv (.ref (g.2.2 i) :: st) ws := fun H locs ls hP hD hS hl => vk_getf C.1 C.2.1 (C.2.2.2.2.2.2.2.1.1.1.1 i hi).2.1 hS C.2.2.2.1 (C.2.2.2.2.1 _ hlink) (fun _ h => h) d (k H locs ls hP hD hS hl)
theorem j_value (C : JC g A x own cc nL Ts rm) (i : Nat) (hi : i < 2) {idx : Nat} (hlink : Cond.fieldLink own idx "java/lang/String" "value" "[B" ∈ Ts) (d : decode cc pc = .ok (.getfield idx, 3)) (k : J l g A x nL kc kn (pc + 3) lv (.ref (g.2.2 (i + 10)) :: st) ws) : J l g A x nL kc kn pc lv (.ref (g.2.2 i) :: st) ws := fun H locs ls hP hD hS hl => vk_getf C.1 C.2.1 (C.2.2.2.2.2.2.2.1.1.1.1 i hi).2.2.1 hS C.2.2.2.1 (C.2.2.2.2.1 _ hlink) (fun _ h => h) d (k H locs ls hP hD hS hl)
theorem j_blen (C : JC g A x own cc nL Ts rm) (i : Nat) (hi : i < 2) (d : decode cc pc = .ok (.arraylength, 1)) (k : J l g A x nL kc kn (pc + 1) lv (.int (nI (gLen.getD i 0)) :: st) ws) : J l g A x nL kc kn pc lv (.ref (g.2.2 (i + 10)) :: st) ws := fun H locs ls hP hD hS hl => va_tlen C.1 C.2.1 (C.2.2.2.2.2.2.2.1.1.1.1 i hi).2.2.2 hS rfl d (k H locs ls hP hD hS hl)
theorem gLen_lt (i : Nat) : gLen.getD i 0 < 2147483648 := by
  match i with
  | 0 => decide
  | 1 => decide
  | n + 2 => simp [gLen]
theorem j_bald (C : JC g A x own cc nL Ts rm) (i k : Nat) (hi : i < 2) {z : Int32} (ei : z = nI k) (hk : k < gLen.getD i 0) (d : decode cc pc = .ok (.baload, 1)) (kk : J l g A x nL kc kn (pc + 1) lv (.int ((gByt.getD i []).getD k 0) :: st) ws) : J l g A x nL kc kn pc lv (.int z :: .ref (g.2.2 (i + 10)) :: st) ws := fun H locs ls hP hD hS hl => va_tb C.1 C.2.1 (C.2.2.2.2.2.2.2.1.1.1.1 i hi).2.2.2 hS (ix_in ei hk (gLen_lt i)) (v := .int ((gByt.getD i []).getD k 0)) (by rw [ix_cl ei hk (gLen_lt i)]) d (kk H locs ls hP hD hS hl)
theorem j_compact (C : JC g A x own cc nL Ts rm) {idx : Nat} (hlink : Cond.fieldLink own idx "java/lang/String" "COMPACT_STRINGS" "Z" ∈ Ts) (d : decode cc pc = .ok (.getstatic idx, 3)) (k : J l g A x nL kc kn (pc + 3) lv (.int 1 :: st) ws) : J l g A x nL kc kn pc lv st ws := fun H locs ls hP hD hS hl => va_gets C.1 C.2.1 C.2.2.2.2.2.2.2.1.1.2.1 hS C.2.2.2.1 (C.2.2.2.2.1 _ hlink) (fun _ h => h) d (k H locs ls hP hD hS hl)
theorem j_sioobe (C : JC g A x own cc nL Ts rm) {idx : Nat} (hlink : Cond.fieldLink own idx "jdk/internal/util/Preconditions" "SIOOBE_FORMATTER" "Ljava/util/function/BiFunction;" ∈ Ts) (d : decode cc pc = .ok (.getstatic idx, 3)) (k : ∀ v : Value, v.category = 1 → J l g A x nL kc kn (pc + 3) lv (v :: st) ws) : J l g A x nL kc kn pc lv st ws := fun H locs ls hP hD hS hl => by
  rcases C.2.2.2.2.2.2.2.1.1.2.2 with h | ⟨t, h⟩
  · exact va_gets C.1 C.2.1 h hS C.2.2.2.1 (C.2.2.2.2.1 _ hlink) (fun _ h => h) d (k _ rfl H locs ls hP hD hS hl)
  · exact va_gets C.1 C.2.1 h hS C.2.2.2.1 (C.2.2.2.2.1 _ hlink) (fun _ h => h) d (k _ rfl H locs ls hP hD hS hl)
theorem j_iret (C : JC g A x own cc nL Ts rm) {y : MethodName} {ty : FieldType} {mc ms : Nat} {S : Type} {post : Int32 → S → Prop} {w1 : S → va_W} (R : JR A x y (some ty) mc ms (va_Qi post (fun u t => va_P g.1 vwCl (w1 u) t.heap ∧ va_D A (w1 u)) A)) {v : Int32} (u : S) (hn : narrow ty (.int v) = .int v) (d : decode cc pc = .ok (.ireturn, 1)) (hw : w1 u = ws) (hp : post v u) : J l g A x nL mc ms pc lv [.int v] ws := by
  intro H locs ls hP hD hS hl
  rw [R.2.2.2]
  exact W.zret C.1 C.2.1 R.1 hn (fun t ht hW => ⟨⟨v, u, rfl, hp, by rw [ht, hw]; exact hP, by rw [hw]; exact hD⟩, hS.F ht⟩) hS.2.2 d R.2.1
theorem j_vret (C : JC g A x own cc nL Ts rm) {y : MethodName} {mc ms : Nat} {S : Type} {post : S → Prop} {w1 : S → va_W} (R : JR A x y none mc ms (va_Qv post (fun u t => va_P g.1 vwCl (w1 u) t.heap ∧ va_D A (w1 u)) A)) (u : S) (d : decode cc pc = .ok (.return_, 1)) (hw : w1 u = ws) (hp : post u) : J l g A x nL mc ms pc lv [] ws := by
  intro H locs ls hP hD hS hl
  rw [R.2.2.2]
  exact W.vret C.1 C.2.1 R.1 (fun t ht hW => ⟨⟨u, rfl, hp, by rw [ht, hw]; exact hP, by rw [hw]; exact hD⟩, hS.F ht⟩) hS.2.2 d R.2.1
theorem j_aret (C : JC g A x own cc nL Ts rm) {y : MethodName} {rt : FieldType} {mc ms : Nat} {S : Type} {ad : Nat} {post : S → Prop} {w1 : S → va_W} (R : JR A x y (some rt) mc ms (va_Qr post (fun u a t => a = ad ∧ va_P g.1 vwCl (w1 u) t.heap ∧ va_D A (w1 u)) A)) (u : S) (hrt : (∃ n, rt = .object n) ∨ ∃ t, rt = .array t) (d : decode cc pc = .ok (.areturn, 1)) (hw : w1 u = ws) (hp : post u) : J l g A x nL mc ms pc lv [.ref ad] ws := by
  intro H locs ls hP hD hS hl
  rw [R.2.2.2]
  exact W.aret C.1 C.2.1 R.1 hrt (Or.inr ⟨ad, rfl⟩) (fun t ht hW => ⟨⟨u, ad, rfl, hp, rfl, by rw [ht, hw]; exact hP, by rw [hw]; exact hD⟩, hS.F ht⟩) hS.2.2 d R.2.1
theorem j_pre {H : Heap} {locs : List Loc} {wc : va_W} {av : List Value} (C : JC g A x own cc nL Ts rm) (hP : va_P g.1 vwCl ws H) (hD : va_D A ws) (hS : va_S A x.2.2.2.1.heap H locs) (isC : List Nat) (hC : isC.map (fun i => ws[i]?) = wc.map some) (hn : va_nd isC = true) : ∀ U : State, U.heap = H → x.2.2.2.1.WarmedH U.vm → va_Pc av (gP g wc H.size) av.toArray U := by
  intro U hU hW
  have hs : isC.filterMap (fun i => ws[i]?) = wc := by
    have h1 : isC.filterMap (fun i => ws[i]?) = (isC.map (fun i => ws[i]?)).filterMap id := by rw [List.filterMap_map]; rfl
    rw [h1, hC, List.filterMap_map]
    simp
  exact ⟨rfl, by rw [hU], by rw [hU]; exact hP.sub isC hs, va_K.moved hW.alike C.2.2.2.2.2.1, (hD.sub isC hn hC).weaken (fun _ _ _ _ => trivial), gS_call C.2.2.2.2.2.2.2.1 hS hU hW (va_free hD hS C.2.2.2.2.2.2.1 isC hC)⟩
/-- a call that can be made: 'rest' is what is below it on the stack, wc its world, Qc what it says behind -/
def JCall (l : Launch) (g : gE) (A : Nat → Prop) (x : jX) (nL kc kn mc ms pc : Nat) (lv : List (Nat × Value)) (st rest : List Value) (ws wc : va_W) (Qc : Nat → Array Value → State → Outcome → State → Prop) : Prop :=
  ∀ (H : Heap) (locs : List Loc) (ls : Array Slot), va_P g.1 vwCl ws H → va_D A ws → va_S A x.2.2.2.1.heap H locs → lv_has ls nL lv → ∃ av : Array Value, va_Run x.1 l x.2.1 x.2.2.1 x.2.2.2.1 x.2.2.2.2.1 x.2.2.2.2.2.1 x.2.2.2.2.2.2.1 x.2.2.2.2.2.2.2.1 x.2.2.2.2.2.2.2.2.1 H locs kc kn mc ms (F0 x.2.2.2.2.1 pc ls st) rest (Qc H.size av) (va_A wc H.size)
theorem jc_V (C : JC g A x own cc nL Ts rm) {y : MethodName} {wy wy' : List Cond} {ry : Room} {b idx maxL : Nat} {As : List Value} {wc : va_W} {mc ms : Nat} {CC : String} {bytes : ByteArray} {ret : Option FieldType} {Qc : Nat → Array Value → State → Outcome → State → Prop} (hM : ∀ sz : Nat, Met l y wy ry (va_Pc (.ref b :: As) (gP g wc sz)) (Qc sz) mc ms (va_A wc sz)) (n : Nat) (hG : GoodIn Ts (wsV own idx CC y wy)) (hw : wy = Cond.code y bytes maxL ret :: wy') (hrc : ry.cells = mc) (hrs : ry.slots = ms) (hd : y.cls = CC ∧ y.cls ≠ "java/lang/invoke/MethodHandle" ∧ y.cls ≠ "java/lang/invoke/VarHandle" ∧ (parseMethodDescriptor y.desc).map (fun d => d.parameters.length) = some n) (hR : ry.frames + 1 ≤ rm.frames ∧ 8 + (maxL + 11) + ry.locals ≤ rm.locals) (hrec : ∀ (H : Heap) (locs : List Loc), va_P g.1 vwCl ws H → va_S A x.2.2.2.1.heap H locs → ∃ cell : Cell, H[b]? = some cell ∧ cell.vm.isStatics = false ∧ x.2.2.2.1.vm.findClass CC = some cell.cls) (isC : List Nat) (hC : isC.map (fun i => ws[i]?) = wc.map some) (hnd : va_nd isC = true) {rest : List Value} (hst : st = As.reverse ++ .ref b :: rest) (hn : As.length = n) (hcat : (rest.map fun v => v.category).sum ≤ 8) (d : decode cc pc = .ok (.invokevirtual idx, 3)) (hf : kc + mc ≤ rm.cells ∧ kn + ms ≤ rm.slots) : JCall l g A x nL kc kn mc ms pc lv st rest ws wc Qc := by
  intro H locs ls hP hD hS hl
  subst hst
  exact ⟨_, va_runV (As := As) (rest := rest) ⟨C.1, C.2.1, C.2.2.1, C.2.2.2.1, C.2.2.2.2.1⟩ (hM H.size) (cwV n C.2.2.2.2.1 hG hw hrc hrs hd (by rw [C.2.2.2.2.2.2.2.2]; exact hR)) ⟨gP_blind, hrec H locs hP hS, j_pre C hP hD hS isC hC hnd⟩ rfl hn hl.1 rfl (lv_room hcat) d (by rw [C.2.2.2.2.2.2.2.2]; exact hf)⟩
theorem j_rec (C : JC g A x own cc nL Ts rm) (q0 ci : Nat) {b : Nat} {CC : String} {fs : List Value} {T : u_T} {N : Nat} (he : ws[q0]? = some (b, .inr (ci, fs))) (hcl : vwCl[ci]? = some (CC, T, N)) : ∀ (H : Heap) (locs : List Loc), va_P g.1 vwCl ws H → va_S A x.2.2.2.1.heap H locs → ∃ cell : Cell, H[b]? = some cell ∧ cell.vm.isStatics = false ∧ x.2.2.2.1.vm.findClass CC = some cell.cls := fun _ _ hP _ => va_recv C.2.2.2.2.2.1 hP hcl he
theorem j_recK (C : JC g A x own cc nL Ts rm) (i : Nat) (hi : i < 2) : ∀ (H : Heap) (locs : List Loc), va_P g.1 vwCl ws H → va_S A x.2.2.2.1.heap H locs → ∃ cell : Cell, H[g.2.2 i]? = some cell ∧ cell.vm.isStatics = false ∧ x.2.2.2.1.vm.findClass "java/lang/String" = some cell.cls := fun _ _ _ hS => vk_recv (i := i) C.2.2.2.2.2.2.2.1.1.1 hi hS
theorem jc_S (C : JC g A x own cc nL Ts rm) {y : MethodName} {wy wy' : List Cond} {ry : Room} {idx maxL : Nat} {As : List Value} {wc : va_W} {mc ms : Nat} {bytes : ByteArray} {ret : Option FieldType} {Qc : Nat → Array Value → State → Outcome → State → Prop} (hM : ∀ sz : Nat, Met l y wy ry (va_Pc As (gP g wc sz)) (Qc sz) mc ms (va_A wc sz)) (n : Nat) (hG : GoodIn Ts (va_wsS own idx y wy)) (hw : wy = Cond.code y bytes maxL ret :: wy') (hrc : ry.cells = mc) (hrs : ry.slots = ms) (hd : y.cls ≠ "java/lang/invoke/MethodHandle" ∧ y.cls ≠ "java/lang/invoke/VarHandle" ∧ (parseMethodDescriptor y.desc).map (fun d => d.parameters.length) = some n) (hR : ry.frames + 1 ≤ rm.frames ∧ 8 + (maxL + 11) + ry.locals ≤ rm.locals) (isC : List Nat) (hC : isC.map (fun i => ws[i]?) = wc.map some) (hnd : va_nd isC = true) {rest : List Value} (hst : st = As.reverse ++ rest) (hn : As.length = n) (hcat : (rest.map fun v => v.category).sum ≤ 8) (d : decode cc pc = .ok (.invokestatic idx, 3)) (hf : kc + mc ≤ rm.cells ∧ kn + ms ≤ rm.slots) : JCall l g A x nL kc kn mc ms pc lv st rest ws wc Qc := by
  intro H locs ls hP hD hS hl
  subst hst
  exact ⟨_, va_runS (As := As) (rest := rest) ⟨C.1, C.2.1, C.2.2.1, C.2.2.2.1, C.2.2.2.2.1⟩ (hM H.size) (va_cwS n C.2.2.2.2.1 hG hw hrc hrs hd (by rw [C.2.2.2.2.2.2.2.2]; exact hR)) ⟨gP_blind, j_pre C hP hD hS isC hC hnd⟩ rfl hn hl.1 rfl (lv_room hcat) d (by rw [C.2.2.2.2.2.2.2.2]; exact hf)⟩
theorem jc_I (C : JC g A x own cc nL Ts rm) {y : MethodName} {wy wy' : List Cond} {ry : Room} {b idx maxL : Nat} {As : List Value} {wc : va_W} {mc ms : Nat} {bytes : ByteArray} {Qc : Nat → Array Value → State → Outcome → State → Prop} (hM : ∀ sz : Nat, Met l y wy ry (va_Pc (.ref b :: As) (gP g wc sz)) (Qc sz) mc ms (va_A wc sz)) (n : Nat) (hG : GoodIn Ts wy) (hw : wy = Cond.code y bytes maxL none :: wy') (hrc : ry.cells = mc) (hrs : ry.slots = ms) (hini : Cond.initialized y.cls ∈ Ts) (hli : Cond.methodLink own idx y ∈ Ts) (hins : Cond.instanceMethod y ∈ Ts) (hy1 : y.name = "<init>") (hd : y.cls ≠ "java/lang/invoke/MethodHandle" ∧ y.cls ≠ "java/lang/invoke/VarHandle" ∧ (parseMethodDescriptor y.desc).map (fun d => d.parameters.length) = some n) (hR : ry.frames + 1 ≤ rm.frames ∧ 8 + (maxL + 11) + ry.locals ≤ rm.locals) (isC : List Nat) (hC : isC.map (fun i => ws[i]?) = wc.map some) (hnd : va_nd isC = true) {rest : List Value} (hst : st = As.reverse ++ .ref b :: rest) (hn : As.length = n) (hcat : (rest.map fun v => v.category).sum ≤ 8) (d : decode cc pc = .ok (.invokespecial idx, 3)) (hf : kc + mc ≤ rm.cells ∧ kn + ms ≤ rm.slots) : JCall l g A x nL kc kn mc ms pc lv st rest ws wc Qc := by
  intro H locs ls hP hD hS hl
  subst hst
  exact ⟨_, va_runI (As := As) (rest := rest) ⟨C.1, C.2.1, C.2.2.1, C.2.2.2.1, C.2.2.2.2.1⟩ (hM H.size) (cwI n C.2.2.2.2.1 hG hw hrc hrs (C.2.2.2.2.1 _ hini) (C.2.2.2.2.1 _ hli) (C.2.2.2.2.1 _ hins) hy1 hd (by rw [C.2.2.2.2.2.2.2.2]; exact hR)) ⟨gP_blind, j_pre C hP hD hS isC hC hnd⟩ rfl hn hl.1 rfl (lv_room hcat) d (by rw [C.2.2.2.2.2.2.2.2]; exact hf)⟩
theorem jc_IN (C : JC g A x own cc nL Ts rm) {y : MethodName} {wy wy' : List Cond} {ry : Room} {b idx maxL : Nat} {host : String} {As : List Value} {wc : va_W} {mc ms : Nat} {bytes : ByteArray} {Qc : Nat → Array Value → State → Outcome → State → Prop} (hM : ∀ sz : Nat, Met l y wy ry (va_Pc (.ref b :: As) (gP g wc sz)) (Qc sz) mc ms (va_A wc sz)) (n : Nat) (hG : GoodIn Ts wy) (hw : wy = Cond.code y bytes maxL none :: wy') (hrc : ry.cells = mc) (hrs : ry.slots = ms) (hini : Cond.initialized y.cls ∈ Ts) (hli : va_Nw (.methodLinkNest own idx y host) x.2.2.2.1) (hins : Cond.instanceMethod y ∈ Ts) (hy1 : y.name = "<init>") (hd : y.cls ≠ "java/lang/invoke/MethodHandle" ∧ y.cls ≠ "java/lang/invoke/VarHandle" ∧ (parseMethodDescriptor y.desc).map (fun d => d.parameters.length) = some n) (hR : ry.frames + 1 ≤ rm.frames ∧ 8 + (maxL + 11) + ry.locals ≤ rm.locals) (isC : List Nat) (hC : isC.map (fun i => ws[i]?) = wc.map some) (hnd : va_nd isC = true) {rest : List Value} (hst : st = As.reverse ++ .ref b :: rest) (hn : As.length = n) (hcat : (rest.map fun v => v.category).sum ≤ 8) (d : decode cc pc = .ok (.invokespecial idx, 3)) (hf : kc + mc ≤ rm.cells ∧ kn + ms ≤ rm.slots) : JCall l g A x nL kc kn mc ms pc lv st rest ws wc Qc := by
  intro H locs ls hP hD hS hl
  subst hst
  exact ⟨_, va_runIN (As := As) (rest := rest) ⟨C.1, C.2.1, C.2.2.1, C.2.2.2.1, C.2.2.2.2.1⟩ (hM H.size) ⟨va_cnB n C.2.2.2.2.1 hG hw hrc hrs hli (C.2.2.2.2.1 _ hini) hd (by rw [C.2.2.2.2.2.2.2.2]; exact hR), hy1, C.2.2.2.2.1 _ hins⟩ ⟨gP_blind, j_pre C hP hD hS isC hC hnd⟩ rfl hn hl.1 rfl (lv_room hcat) d (by rw [C.2.2.2.2.2.2.2.2]; exact hf)⟩
/-- behind a call: its world stays as it is -/
theorem j_ri (C : JC g A x own cc nL Ts rm) {mc ms : Nat} {wc : va_W} {rest : List Value} {S : Type} {post : Int32 → S → Prop} {w1 : S → va_W} (h : JCall l g A x nL kc kn mc ms pc lv st rest ws wc (fun sz => va_Qi post (fun u t => va_P g.1 vwCl (w1 u) t.heap ∧ va_D (va_A wc sz) (w1 u)) (va_A wc sz))) (isC : List Nat) (hC : isC.map (fun i => ws[i]?) = wc.map some) (hsame : ∀ u, w1 u = wc) (kk : ∀ (r : Int32) (u : S), post r u → J l g A x nL (kc + mc) (kn + ms) (pc + 3) lv (.int r :: rest) ws) : J l g A x nL kc kn pc lv st ws := by
  intro H locs ls hP hD hS hl
  have hF := va_free hD hS C.2.2.2.2.2.2.1 isC hC
  obtain ⟨av, hr⟩ := h H locs ls hP hD hS hl
  refine va_calli hr hS (fun q _ h => hF q h) hF (fun r u t H1 locs1 ht hvm hq hB hz hk hS1 => ?_)
  rw [ht, hsame u] at hB
  exact kk r u hq H1 locs1 ls (va_same hP hD isC hC hk hB.1) hD hS1 hl
theorem j_rv (C : JC g A x own cc nL Ts rm) {mc ms : Nat} {wc : va_W} {rest : List Value} {S : Type} {post : S → Prop} {w1 : S → va_W} (h : JCall l g A x nL kc kn mc ms pc lv st rest ws wc (fun sz => va_Qv post (fun u t => va_P g.1 vwCl (w1 u) t.heap ∧ va_D (va_A wc sz) (w1 u)) (va_A wc sz))) (isC : List Nat) (hC : isC.map (fun i => ws[i]?) = wc.map some) (hsame : ∀ u, w1 u = wc) (kk : ∀ (u : S), post u → J l g A x nL (kc + mc) (kn + ms) (pc + 3) lv rest ws) : J l g A x nL kc kn pc lv st ws := by
  intro H locs ls hP hD hS hl
  have hF := va_free hD hS C.2.2.2.2.2.2.1 isC hC
  obtain ⟨av, hr⟩ := h H locs ls hP hD hS hl
  refine va_callv hr hS (fun q _ h => hF q h) hF (fun u t H1 locs1 ht hvm hq hB hz hk hS1 => ?_)
  rw [ht, hsame u] at hB
  exact kk u hq H1 locs1 ls (va_same hP hD isC hC hk hB.1) hD hS1 hl
theorem va_perm {A : Nat → Prop} {w w' : va_W} {H : Heap} (hP : va_P g.1 vwCl w H) (hD : va_D A w) (perm : List Nat) (hn : va_nd perm = true) (h : perm.map (fun i => w[i]?) = w'.map some) : va_P g.1 vwCl w' H ∧ va_D A w' := by
  refine ⟨hP.sub perm ?_, hD.sub perm hn h⟩
  have h1 : perm.filterMap (fun i => w[i]?) = (perm.map (fun i => w[i]?)).filterMap id := by rw [List.filterMap_map]; rfl
  rw [h1, h, List.filterMap_map]
  simp
/-- .. its world changes: the caller's other cells (places isR: wr), then the callee's; perm puts them in their order again -/
theorem j_rwi (C : JC g A x own cc nL Ts rm) {mc ms : Nat} {wc : va_W} {rest : List Value} {S : Type} {post : Int32 → S → Prop} {w1 : S → va_W} (h : JCall l g A x nL kc kn mc ms pc lv st rest ws wc (fun sz => va_Qi post (fun u t => va_P g.1 vwCl (w1 u) t.heap ∧ va_D (va_A wc sz) (w1 u)) (va_A wc sz))) (isC isR perm : List Nat) {wr : va_W} {ws' : S → va_W} (hC : isC.map (fun i => ws[i]?) = wc.map some) (hRr : isR.map (fun i => ws[i]?) = wr.map some) (hnR : va_nd isR = true) (hdis : ∀ i ∈ isR, i ∉ isC) (hpn : va_nd perm = true) (hpm : ∀ u, perm.map (fun i => (wr ++ w1 u)[i]?) = (ws' u).map some) (kk : ∀ (r : Int32) (u : S), post r u → J l g A x nL (kc + mc) (kn + ms) (pc + 3) lv (.int r :: rest) (ws' u)) : J l g A x nL kc kn pc lv st ws := by
  intro H locs ls hP hD hS hl
  have hF := va_free hD hS C.2.2.2.2.2.2.1 isC hC
  obtain ⟨av, hr⟩ := h H locs ls hP hD hS hl
  refine va_calli hr hS (fun q _ h => hF q h) hF (fun r u t H1 locs1 ht hvm hq hB hz hk hS1 => ?_)
  rw [ht] at hB
  obtain ⟨hP2, hD2⟩ := va_join hP hD isC isR hC hRr hnR hdis hk hF hB.1 hB.2
  obtain ⟨hP3, hD3⟩ := va_perm hP2 hD2 perm hpn (hpm u)
  exact kk r u hq H1 locs1 ls hP3 hD3 hS1 hl
theorem j_rwv (C : JC g A x own cc nL Ts rm) {mc ms : Nat} {wc : va_W} {rest : List Value} {S : Type} {post : S → Prop} {w1 : S → va_W} (h : JCall l g A x nL kc kn mc ms pc lv st rest ws wc (fun sz => va_Qv post (fun u t => va_P g.1 vwCl (w1 u) t.heap ∧ va_D (va_A wc sz) (w1 u)) (va_A wc sz))) (isC isR perm : List Nat) {wr : va_W} {ws' : S → va_W} (hC : isC.map (fun i => ws[i]?) = wc.map some) (hRr : isR.map (fun i => ws[i]?) = wr.map some) (hnR : va_nd isR = true) (hdis : ∀ i ∈ isR, i ∉ isC) (hpn : va_nd perm = true) (hpm : ∀ u, perm.map (fun i => (wr ++ w1 u)[i]?) = (ws' u).map some) (kk : ∀ (u : S), post u → J l g A x nL (kc + mc) (kn + ms) (pc + 3) lv rest (ws' u)) : J l g A x nL kc kn pc lv st ws := by
  intro H locs ls hP hD hS hl
  have hF := va_free hD hS C.2.2.2.2.2.2.1 isC hC
  obtain ⟨av, hr⟩ := h H locs ls hP hD hS hl
  refine va_callv hr hS (fun q _ h => hF q h) hF (fun u t H1 locs1 ht hvm hq hB hz hk hS1 => ?_)
  rw [ht] at hB
  obtain ⟨hP2, hD2⟩ := va_join hP hD isC isR hC hRr hnR hdis hk hF hB.1 hB.2
  obtain ⟨hP3, hD3⟩ := va_perm hP2 hD2 perm hpn (hpm u)
  exact kk u hq H1 locs1 ls hP3 hD3 hS1 hl
theorem j_rwr (C : JC g A x own cc nL Ts rm) {mc ms ad : Nat} {wc : va_W} {rest : List Value} {S : Type} {post : S → Prop} {w1 : S → va_W} (h : JCall l g A x nL kc kn mc ms pc lv st rest ws wc (fun sz => va_Qr post (fun u a t => a = ad ∧ va_P g.1 vwCl (w1 u) t.heap ∧ va_D (va_A wc sz) (w1 u)) (va_A wc sz))) (isC isR perm : List Nat) {wr : va_W} {ws' : S → va_W} (hC : isC.map (fun i => ws[i]?) = wc.map some) (hRr : isR.map (fun i => ws[i]?) = wr.map some) (hnR : va_nd isR = true) (hdis : ∀ i ∈ isR, i ∉ isC) (hpn : va_nd perm = true) (hpm : ∀ u, perm.map (fun i => (wr ++ w1 u)[i]?) = (ws' u).map some) (kk : ∀ (u : S), post u → J l g A x nL (kc + mc) (kn + ms) (pc + 3) lv (.ref ad :: rest) (ws' u)) : J l g A x nL kc kn pc lv st ws := by
  intro H locs ls hP hD hS hl
  have hF := va_free hD hS C.2.2.2.2.2.2.1 isC hC
  obtain ⟨av, hr⟩ := h H locs ls hP hD hS hl
  refine va_callr hr hS (fun q _ h => hF q h) hF (fun u ra t H1 locs1 ht hvm hq hB hz hk hS1 => ?_)
  obtain ⟨rfl, hB⟩ := hB
  rw [ht] at hB
  obtain ⟨hP2, hD2⟩ := va_join hP hD isC isR hC hRr hnR hdis hk hF hB.1 hB.2
  obtain ⟨hP3, hD3⟩ := va_perm hP2 hD2 perm hpn (hpm u)
  exact kk u hq H1 locs1 ls hP3 hD3 hS1 hl
/-- Object's constructor -/
theorem j_objInit (C : JC g A x own cc nL Ts rm) {idx a : Nat} (h1 : Cond.methodLink own idx Lib.objectInit ∈ Ts) (h2 : Cond.instanceMethod Lib.objectInit ∈ Ts) (h3 : Cond.code Lib.objectInit ⟨#[0xb1]⟩ 1 none ∈ Ts) (hf : 1 ≤ rm.frames) (hlo : (st.map fun v => v.category).sum + 12 ≤ rm.locals) (d : decode cc pc = .ok (.invokespecial idx, 3)) (kk : J l g A x nL kc kn (pc + 3) lv st ws) : J l g A x nL kc kn pc lv (.ref a :: st) ws := fun H locs ls hP hD hS hl => W.objInit C.1 C.2.1 C.2.2.2.1 (C.2.2.2.2.1 _ h1) (C.2.2.2.2.1 _ h2) (C.2.2.2.2.1 _ h3) rfl (by rw [C.2.2.1]; exact hl.1) rfl d (by rw [C.2.2.2.2.2.2.2.2]; exact hf) (by rw [C.2.2.2.2.2.2.2.2]; show 2 * 0 + _ + 12 ≤ _; omega) (W.eq rfl (kk H locs ls hP hD hS hl))
theorem va_RAuni {U : State} {c1 c2 : ClassId} {ty : FieldType} (h1 : va_RA U c1 ty) (h2 : va_RA U c2 ty) : c1 = c2 := by
  cases ty with
  | object C =>
    obtain ⟨_, _, _, _, _, h3⟩ := h1
    obtain ⟨_, _, _, _, _, h4⟩ := h2
    exact Option.some.inj (h3.symm.trans h4)
  | _ => exact Option.some.inj ((show U.vm.findClass _ = some c1 from h1).symm.trans h2)
end JROWS
end
section
def wp_X2_copyFrom (v_generation : Int32) (v_toll : Int32) (f_sorts : (Nat → Int32)) (f_owners : (Nat → Int32)) (f_worths : (Nat → Int32)) (f_gave : (Nat → Int32)) (v_p1_generation : Int32) (v_p1_toll : Int32) (f_p1_sorts : (Nat → Int32)) (f_p1_owners : (Nat → Int32)) (f_p1_worths : (Nat → Int32)) (f_p1_gave : (Nat → Int32)) (K : Int32 → Int32 → (Nat → Int32) → (Nat → Int32) → (Nat → Int32) → (Nat → Int32) → Prop) : Prop :=
  ∃ sk1 dk1 nk1 : Nat, (0 : Int32) = nI sk1 ∧ (0 : Int32) = nI dk1 ∧ (120 : Int32) = nI nk1 ∧ sk1 + nk1 ≤ 120 ∧ dk1 + nk1 ≤ 120 ∧ (∃ sk2 dk2 nk2 : Nat, (0 : Int32) = nI sk2 ∧ (0 : Int32) = nI dk2 ∧ (504 : Int32) = nI nk2 ∧ sk2 + nk2 ≤ 504 ∧ dk2 + nk2 ≤ 504 ∧ (∃ sk3 dk3 nk3 : Nat, (0 : Int32) = nI sk3 ∧ (0 : Int32) = nI dk3 ∧ (30 : Int32) = nI nk3 ∧ sk3 + nk3 ≤ 30 ∧ dk3 + nk3 ≤ 30 ∧ (∃ sk4 dk4 nk4 : Nat, (0 : Int32) = nI sk4 ∧ (0 : Int32) = nI dk4 ∧ (6 : Int32) = nI nk4 ∧ sk4 + nk4 ≤ 6 ∧ dk4 + nk4 ≤ 6 ∧ (K v_p1_generation v_p1_toll (va_cpy f_p1_sorts f_sorts sk1 dk1 nk1) (va_cpy f_p1_owners f_owners sk2 dk2 nk2) (va_cpy f_p1_worths f_worths sk3 dk3 nk3) (va_cpy f_p1_gave f_gave sk4 dk4 nk4)))))
def wp_X2_sortAt (f_sorts : (Nat → Int32)) (x1 : Int32) (x2 : Int32) (K : Int32 → Prop) : Prop :=
  ∃ k1 : Nat, (x1 * (24 : Int32)) + x2 = nI k1 ∧ k1 < 120 ∧ (K (f_sorts k1))
def wp_X2_setRing (f_sorts : (Nat → Int32)) (f_p2 : (Nat → Int32)) (x1 : Int32) (K : (Nat → Int32) → Prop) : Prop :=
  ∃ sk1 dk1 nk1 : Nat, (0 : Int32) = nI sk1 ∧ x1 * (24 : Int32) = nI dk1 ∧ (24 : Int32) = nI nk1 ∧ sk1 + nk1 ≤ 24 ∧ dk1 + nk1 ≤ 120 ∧ (K (va_cpy f_p2 f_sorts sk1 dk1 nk1))
def wb_X2_sectorsOfSort_5 (f_sorts : (Nat → Int32)) (x1 : Int32) (x2 : Int32) (K : Int32 → Prop) (L5 : Int32 → Int32 → Prop) (x3 : Int32) (x4 : Int32) : Prop :=
  (((24 : Int32) ≤ x4) → (K x3)) ∧ ((¬ (24 : Int32) ≤ x4) → (wp_X2_sortAt f_sorts x1 x4 (fun r1 => (((¬ r1 = x2) → (∀ n2 : Int32, n2 = x4 + (1 : Int32) → (L5 x3 n2))) ∧ ((r1 = x2) → (∀ n3 : Int32, n3 = x3 ||| ((1 : Int32) <<< (x4 &&& 31)) → (∀ n4 : Int32, n4 = x4 + (1 : Int32) → (L5 n3 n4))))))))
def wp_X2_sectorsOfSort (f_sorts : (Nat → Int32)) (x1 : Int32) (x2 : Int32) (K : Int32 → Prop) : Prop :=
  lpW2 (wb_X2_sectorsOfSort_5 f_sorts x1 x2 K) (0 : Int32) (0 : Int32)
def wp_X2_ownerBehind (f_owners : (Nat → Int32)) (x1 : Int32) (x2 : Int32) (K : Int32 → Prop) : Prop :=
  ∃ k1 : Nat, (x1 * (24 : Int32)) + x2 = nI k1 ∧ k1 < 504 ∧ (K (f_owners k1))
def wp_X2_ownerOf (v_generation : Int32) (f_owners : (Nat → Int32)) (x1 : Int32) (K : Int32 → Prop) : Prop :=
  wp_X2_ownerBehind f_owners v_generation x1 (fun r1 => (K r1))
def wb_X2_sectorsOf_4 (v_generation : Int32) (f_owners : (Nat → Int32)) (x1 : Int32) (K : Int32 → Prop) (L4 : Int32 → Int32 → Prop) (x2 : Int32) (x3 : Int32) : Prop :=
  (((24 : Int32) ≤ x3) → (K x2)) ∧ ((¬ (24 : Int32) ≤ x3) → (wp_X2_ownerOf v_generation f_owners x3 (fun r1 => (((¬ r1 = x1) → (∀ n2 : Int32, n2 = x3 + (1 : Int32) → (L4 x2 n2))) ∧ ((r1 = x1) → (∀ n3 : Int32, n3 = x2 ||| ((1 : Int32) <<< (x3 &&& 31)) → (∀ n4 : Int32, n4 = x3 + (1 : Int32) → (L4 n3 n4))))))))
def wp_X2_sectorsOf (v_generation : Int32) (f_owners : (Nat → Int32)) (x1 : Int32) (K : Int32 → Prop) : Prop :=
  lpW2 (wb_X2_sectorsOf_4 v_generation f_owners x1 K) (0 : Int32) (0 : Int32)
def wb_X2_ownersOf_4 (v_generation : Int32) (f_owners : (Nat → Int32)) (x1 : Int32) (K : Int32 → Prop) (L4 : Int32 → Int32 → Prop) (x2 : Int32) (x3 : Int32) : Prop :=
  (((24 : Int32) ≤ x3) → (K x2)) ∧ ((¬ (24 : Int32) ≤ x3) → (((((x1 >>> (x3 &&& 31)) &&& (1 : Int32)) = 0) → (∀ n1 : Int32, n1 = x3 + (1 : Int32) → (L4 x2 n1))) ∧ ((¬ ((x1 >>> (x3 &&& 31)) &&& (1 : Int32)) = 0) → (wp_X2_ownerOf v_generation f_owners x3 (fun r2 => (∀ n3 : Int32, n3 = x2 ||| ((1 : Int32) <<< (r2 &&& 31)) → (∀ n4 : Int32, n4 = x3 + (1 : Int32) → (L4 n3 n4))))))))
def wp_X2_ownersOf (v_generation : Int32) (f_owners : (Nat → Int32)) (x1 : Int32) (K : Int32 → Prop) : Prop :=
  lpW2 (wb_X2_ownersOf_4 v_generation f_owners x1 K) (0 : Int32) (0 : Int32)
def wp_X2_setSlices (v_generation : Int32) (f_owners : (Nat → Int32)) (f_p1 : (Nat → Int32)) (K : Int32 → (Nat → Int32) → Prop) : Prop :=
  ∃ sk1 dk1 nk1 : Nat, (0 : Int32) = nI sk1 ∧ (0 : Int32) = nI dk1 ∧ (24 : Int32) = nI nk1 ∧ sk1 + nk1 ≤ 24 ∧ dk1 + nk1 ≤ 504 ∧ (K (0 : Int32) (va_cpy f_p1 f_owners sk1 dk1 nk1))
def wp_X2_beginGeneration (v_generation : Int32) (f_owners : (Nat → Int32)) (K : Int32 → (Nat → Int32) → Prop) : Prop :=
  ∃ sk1 dk1 nk1 : Nat, v_generation * (24 : Int32) = nI sk1 ∧ (v_generation + (1 : Int32)) * (24 : Int32) = nI dk1 ∧ (24 : Int32) = nI nk1 ∧ sk1 + nk1 ≤ 504 ∧ dk1 + nk1 ≤ 504 ∧ (∀ n2 : Int32, n2 = v_generation + (1 : Int32) → (K n2 (va_cpy f_owners f_owners sk1 dk1 nk1)))
def wp_X2_give (v_generation : Int32) (f_owners : (Nat → Int32)) (x1 : Int32) (x2 : Int32) (K : (Nat → Int32) → Prop) : Prop :=
  ∃ k1 : Nat, (v_generation * (24 : Int32)) + x1 = nI k1 ∧ k1 < 504 ∧ (K (upd f_owners k1 x2))
def wb_X2_giveAway_5 (v_generation : Int32) (f_p2 : (Nat → Int32)) (x1 : Int32) (K : (Nat → Int32) → Prop) (L5 : Int32 → Int32 → (Nat → Int32) → Prop) (x3 : Int32) (x4 : Int32) (f_owners : (Nat → Int32)) : Prop :=
  (((24 : Int32) ≤ x4) → (K f_owners)) ∧ ((¬ (24 : Int32) ≤ x4) → (wp_X2_ownerOf v_generation f_owners x4 (fun r1 => (((¬ r1 = x1) → (∀ n2 : Int32, n2 = x4 + (1 : Int32) → (L5 x3 n2 f_owners))) ∧ ((r1 = x1) → (∃ k3 : Nat, x3 = nI k3 ∧ k3 < 24 ∧ (∀ n4 : Int32, n4 = f_p2 k3 → (wp_X2_give v_generation f_owners x4 n4 (fun u5 => (∀ n6 : Int32, n6 = x3 + (1 : Int32) → (∀ n7 : Int32, n7 = x4 + (1 : Int32) → (L5 n6 n7 u5))))))))))))
def wp_X2_giveAway (v_generation : Int32) (f_owners : (Nat → Int32)) (f_p2 : (Nat → Int32)) (x1 : Int32) (K : (Nat → Int32) → Prop) : Prop :=
  lpW3 (wb_X2_giveAway_5 v_generation f_p2 x1 K) (0 : Int32) (0 : Int32) f_owners
def wb_X2_join_2 (v_generation : Int32) (x1 : Int32) (x2 : Int32) (K : (Nat → Int32) → Prop) (L2 : Int32 → (Nat → Int32) → Prop) (x3 : Int32) (f_owners : (Nat → Int32)) : Prop :=
  (((24 : Int32) ≤ x3) → (K f_owners)) ∧ ((¬ (24 : Int32) ≤ x3) → (wp_X2_ownerOf v_generation f_owners x3 (fun r1 => (((¬ r1 = x2) → (∀ n2 : Int32, n2 = x3 + (1 : Int32) → (L2 n2 f_owners))) ∧ ((r1 = x2) → (wp_X2_give v_generation f_owners x3 x1 (fun u3 => (∀ n4 : Int32, n4 = x3 + (1 : Int32) → (L2 n4 u3)))))))))
def wp_X2_join (v_generation : Int32) (f_owners : (Nat → Int32)) (x1 : Int32) (x2 : Int32) (K : (Nat → Int32) → Prop) : Prop :=
  lpW2 (wb_X2_join_2 v_generation x1 x2 K) (0 : Int32) f_owners
def wp_X2_setWorth (f_worths : (Nat → Int32)) (x1 : Int32) (x2 : Int32) (x3 : Int32) (K : Int32 → (Nat → Int32) → Prop) : Prop :=
  ∃ k1 : Nat, (x1 * (5 : Int32)) + x2 = nI k1 ∧ k1 < 30 ∧ (∀ n2 : Int32, n2 = f_worths k1 → (∃ k3 : Nat, (x1 * (5 : Int32)) + x2 = nI k3 ∧ k3 < 30 ∧ (K n2 (upd f_worths k3 x3))))
def wb_X2_shareOfSector_5 (f_sorts : (Nat → Int32)) (f_worths : (Nat → Int32)) (x1 : Int32) (x2 : Int32) (K : Int32 → Prop) (L5 : Int32 → Int32 → Prop) (x3 : Int32) (x4 : Int32) : Prop :=
  (((5 : Int32) ≤ x4) → (K x3)) ∧ ((¬ (5 : Int32) ≤ x4) → (wp_X2_sortAt f_sorts x4 x2 (fun r1 => (∃ k2 : Nat, (x1 * (5 : Int32)) + r1 = nI k2 ∧ k2 < 30 ∧ (∀ n3 : Int32, n3 = x3 + (f_worths k2) → (∀ n4 : Int32, n4 = x4 + (1 : Int32) → (L5 n3 n4)))))))
def wp_X2_shareOfSector (f_sorts : (Nat → Int32)) (f_worths : (Nat → Int32)) (x1 : Int32) (x2 : Int32) (K : Int32 → Prop) : Prop :=
  lpW2 (wb_X2_shareOfSector_5 f_sorts f_worths x1 x2 K) (0 : Int32) (0 : Int32)
def wb_X2_shareOf_5 (f_sorts : (Nat → Int32)) (f_worths : (Nat → Int32)) (x1 : Int32) (x2 : Int32) (K : Int32 → Prop) (L5 : Int32 → Int32 → Prop) (x3 : Int32) (x4 : Int32) : Prop :=
  (((24 : Int32) ≤ x4) → (K x3)) ∧ ((¬ (24 : Int32) ≤ x4) → (((((x2 >>> (x4 &&& 31)) &&& (1 : Int32)) = 0) → (∀ n1 : Int32, n1 = x4 + (1 : Int32) → (L5 x3 n1))) ∧ ((¬ ((x2 >>> (x4 &&& 31)) &&& (1 : Int32)) = 0) → (wp_X2_shareOfSector f_sorts f_worths x1 x4 (fun r2 => (∀ n3 : Int32, n3 = x3 + r2 → (∀ n4 : Int32, n4 = x4 + (1 : Int32) → (L5 n3 n4))))))))
def wp_X2_shareOf (f_sorts : (Nat → Int32)) (f_worths : (Nat → Int32)) (x1 : Int32) (x2 : Int32) (K : Int32 → Prop) : Prop :=
  lpW2 (wb_X2_shareOf_5 f_sorts f_worths x1 x2 K) (0 : Int32) (0 : Int32)
def wp_X2_hasRight (f_gave : (Nat → Int32)) (x1 : Int32) (x2 : Int32) (K : Int32 → Prop) : Prop :=
  ∃ k1 : Nat, x2 = nI k1 ∧ k1 < 6 ∧ ((((((f_gave k1) >>> (x1 &&& 31)) &&& (1 : Int32)) = 0) → (K (0 : Int32))) ∧ ((¬ (((f_gave k1) >>> (x1 &&& 31)) &&& (1 : Int32)) = 0) → (K (1 : Int32))))
def wp_X2_setRight (f_gave : (Nat → Int32)) (x1 : Int32) (x2 : Int32) (x3 : Int32) (K : Int32 → (Nat → Int32) → Prop) : Prop :=
  wp_X2_hasRight f_gave x2 x1 (fun r1 => (∀ n2 : Int32, n2 = (1 : Int32) <<< (x2 &&& 31) → (((x3 = 0) → (∃ k3 : Nat, x1 = nI k3 ∧ k3 < 6 ∧ (∀ n4 : Int32, n4 = (f_gave k3) &&& (n2 ^^^ (-1 : Int32)) → (∃ k5 : Nat, x1 = nI k5 ∧ k5 < 6 ∧ ((narrow .boolean (.int r1) = .int r1) ∧ (K r1 (upd f_gave k5 n4))))))) ∧ ((¬ x3 = 0) → (∃ k6 : Nat, x1 = nI k6 ∧ k6 < 6 ∧ (∀ n7 : Int32, n7 = (f_gave k6) ||| n2 → (∃ k8 : Nat, x1 = nI k8 ∧ k8 < 6 ∧ ((narrow .boolean (.int r1) = .int r1) ∧ (K r1 (upd f_gave k8 n7))))))))))
def wp_X2_isFreeFor (v_generation : Int32) (f_owners : (Nat → Int32)) (f_gave : (Nat → Int32)) (x1 : Int32) (x2 : Int32) (K : Int32 → Prop) : Prop :=
  wp_X2_ownerOf v_generation f_owners x2 (fun r1 => (((r1 = x1) → (K (1 : Int32))) ∧ ((¬ r1 = x1) → (wp_X2_hasRight f_gave x1 r1 (fun r2 => (((r2 = 0) → (K (0 : Int32))) ∧ ((¬ r2 = 0) → (K (1 : Int32)))))))))
theorem hi_X2_copyFrom_X2 : ∀ w ∈ wsX20, w ∈ wsX2_copyFrom := fun _ h => List.mem_cons_of_mem _ (List.mem_append_right _ h)
theorem hd_X2_copyFrom : yX2_copyFrom.cls = RX2 ∧ yX2_copyFrom.cls ≠ "java/lang/invoke/MethodHandle" ∧ yX2_copyFrom.cls ≠ "java/lang/invoke/VarHandle" ∧ (parseMethodDescriptor yX2_copyFrom.desc).map (fun d => d.parameters.length) = some 1 := by decide +kernel
set_option maxRecDepth 20000 in
set_option maxHeartbeats 4000000 in
theorem c_X2_copyFrom (l : Launch) (g : gE) (a_this a_sorts a_owners a_worths a_gave a_p1 a_p1_sorts a_p1_owners a_p1_worths a_p1_gave : Nat) (v_generation : Int32) (v_toll : Int32) (f_sorts : (Nat → Int32)) (f_owners : (Nat → Int32)) (f_worths : (Nat → Int32)) (f_gave : (Nat → Int32)) (v_p1_generation : Int32) (v_p1_toll : Int32) (f_p1_sorts : (Nat → Int32)) (f_p1_owners : (Nat → Int32)) (f_p1_worths : (Nat → Int32)) (f_p1_gave : (Nat → Int32))   (K : Int32 → Int32 → (Nat → Int32) → (Nat → Int32) → (Nat → Int32) → (Nat → Int32) → Prop) (hw : wp_X2_copyFrom v_generation v_toll f_sorts f_owners f_worths f_gave v_p1_generation v_p1_toll f_p1_sorts f_p1_owners f_p1_worths f_p1_gave K) : Cv l g yX2_copyFrom wsX2_copyFrom { frames := 1, cells := 0, slots := 0, locals := 60 } [.ref a_this, .ref a_p1] [(a_this, .inr (2, [.ref a_sorts, .ref a_owners, .ref a_worths, .ref a_gave, .int v_generation, .int v_toll])), (a_sorts, gI g 120 f_sorts), (a_owners, gI g 504 f_owners), (a_worths, gI g 30 f_worths), (a_gave, gI g 6 f_gave), (a_p1, .inr (2, [.ref a_p1_sorts, .ref a_p1_owners, .ref a_p1_worths, .ref a_p1_gave, .int v_p1_generation, .int v_p1_toll])), (a_p1_sorts, gI g 120 f_p1_sorts), (a_p1_owners, gI g 504 f_p1_owners), (a_p1_worths, gI g 30 f_p1_worths), (a_p1_gave, gI g 6 f_p1_gave)] (fun (u : Int32 × Int32 × (Nat → Int32) × (Nat → Int32) × (Nat → Int32) × (Nat → Int32)) => K u.1 u.2.1 u.2.2.1 u.2.2.2.1 u.2.2.2.2.1 u.2.2.2.2.2) (fun (u : Int32 × Int32 × (Nat → Int32) × (Nat → Int32) × (Nat → Int32) × (Nat → Int32)) => [(a_this, .inr (2, [.ref a_sorts, .ref a_owners, .ref a_worths, .ref a_gave, .int (u.1), .int (u.2.1)])), (a_sorts, gI g 120 (u.2.2.1)), (a_owners, gI g 504 (u.2.2.2.1)), (a_worths, gI g 30 (u.2.2.2.2.1)), (a_gave, gI g 6 (u.2.2.2.2.2)), (a_p1, .inr (2, [.ref a_p1_sorts, .ref a_p1_owners, .ref a_p1_worths, .ref a_p1_gave, .int v_p1_generation, .int v_p1_toll])), (a_p1_sorts, gI g 120 f_p1_sorts), (a_p1_owners, gI g 504 f_p1_owners), (a_p1_worths, gI g 30 f_p1_worths), (a_p1_gave, gI g 6 f_p1_gave)]) 0 0 := by
  refine Cv_of (cc := cX2_copyFrom) (nL := 2) (ret := none) (own := RX2) (lv0 := [(0, .ref a_this), (1, .ref a_p1)]) (by decide +kernel) rfl rfl (Nat.le_of_ble_eq_true rfl) rfl (fun A x C R => ?_)
  refine j_aload_n C 1 dX2_copyFrom_0 rfl rfl ?_
  refine j_get C 5 2 0 (T := TX2) (N := 6) hi_X2_copyFrom_X2 rfl (by decide) (List.mem_of_getElem? (i := 1) rfl) rfl rfl rfl dX2_copyFrom_1 ?_
  refine j_iconst C dX2_copyFrom_4 (v := (0 : Int32)) (by decide) ?_
  refine j_aload_n C 0 dX2_copyFrom_5 rfl rfl ?_
  refine j_get C 0 2 0 (T := TX2) (N := 6) hi_X2_copyFrom_X2 rfl (by decide) (List.mem_of_getElem? (i := 1) rfl) rfl rfl rfl dX2_copyFrom_6 ?_
  refine j_iconst C dX2_copyFrom_9 (v := (0 : Int32)) (by decide) ?_
  refine j_bipush C dX2_copyFrom_10 (v := (120 : Int32)) (by decide) ?_
  obtain ⟨sk1, dk1, nk1, e1, e2, e3, e4, e5, hw⟩ := hw
  refine j_copy C 6 1 sk1 dk1 nk1 (List.mem_of_getElem? (i := 2) rfl) (List.mem_of_getElem? (i := 3) rfl) (List.mem_of_getElem? (i := 4) rfl) (List.mem_of_getElem? (i := 5) rfl) rfl rfl e1 e2 e3 e4 e5 (by decide) (by decide) (by decide) (Nat.le_of_ble_eq_true rfl) rfl dX2_copyFrom_12 ?_
  refine j_aload_n C 1 dX2_copyFrom_15 rfl rfl ?_
  refine j_get C 5 2 1 (T := TX2) (N := 6) hi_X2_copyFrom_X2 rfl (by decide) (List.mem_of_getElem? (i := 6) rfl) rfl rfl rfl dX2_copyFrom_16 ?_
  refine j_iconst C dX2_copyFrom_19 (v := (0 : Int32)) (by decide) ?_
  refine j_aload_n C 0 dX2_copyFrom_20 rfl rfl ?_
  refine j_get C 0 2 1 (T := TX2) (N := 6) hi_X2_copyFrom_X2 rfl (by decide) (List.mem_of_getElem? (i := 6) rfl) rfl rfl rfl dX2_copyFrom_21 ?_
  refine j_iconst C dX2_copyFrom_24 (v := (0 : Int32)) (by decide) ?_
  refine j_sipush C dX2_copyFrom_25 (v := (504 : Int32)) (by decide) ?_
  obtain ⟨sk2, dk2, nk2, e1, e2, e3, e4, e5, hw⟩ := hw
  refine j_copy C 7 2 sk2 dk2 nk2 (List.mem_of_getElem? (i := 2) rfl) (List.mem_of_getElem? (i := 3) rfl) (List.mem_of_getElem? (i := 4) rfl) (List.mem_of_getElem? (i := 5) rfl) rfl rfl e1 e2 e3 e4 e5 (by decide) (by decide) (by decide) (Nat.le_of_ble_eq_true rfl) rfl dX2_copyFrom_28 ?_
  refine j_aload_n C 1 dX2_copyFrom_31 rfl rfl ?_
  refine j_get C 5 2 2 (T := TX2) (N := 6) hi_X2_copyFrom_X2 rfl (by decide) (List.mem_of_getElem? (i := 7) rfl) rfl rfl rfl dX2_copyFrom_32 ?_
  refine j_iconst C dX2_copyFrom_35 (v := (0 : Int32)) (by decide) ?_
  refine j_aload_n C 0 dX2_copyFrom_36 rfl rfl ?_
  refine j_get C 0 2 2 (T := TX2) (N := 6) hi_X2_copyFrom_X2 rfl (by decide) (List.mem_of_getElem? (i := 7) rfl) rfl rfl rfl dX2_copyFrom_37 ?_
  refine j_iconst C dX2_copyFrom_40 (v := (0 : Int32)) (by decide) ?_
  refine j_bipush C dX2_copyFrom_41 (v := (30 : Int32)) (by decide) ?_
  obtain ⟨sk3, dk3, nk3, e1, e2, e3, e4, e5, hw⟩ := hw
  refine j_copy C 8 3 sk3 dk3 nk3 (List.mem_of_getElem? (i := 2) rfl) (List.mem_of_getElem? (i := 3) rfl) (List.mem_of_getElem? (i := 4) rfl) (List.mem_of_getElem? (i := 5) rfl) rfl rfl e1 e2 e3 e4 e5 (by decide) (by decide) (by decide) (Nat.le_of_ble_eq_true rfl) rfl dX2_copyFrom_43 ?_
  refine j_aload_n C 1 dX2_copyFrom_46 rfl rfl ?_
  refine j_get C 5 2 3 (T := TX2) (N := 6) hi_X2_copyFrom_X2 rfl (by decide) (List.mem_of_getElem? (i := 8) rfl) rfl rfl rfl dX2_copyFrom_47 ?_
  refine j_iconst C dX2_copyFrom_50 (v := (0 : Int32)) (by decide) ?_
  refine j_aload_n C 0 dX2_copyFrom_51 rfl rfl ?_
  refine j_get C 0 2 3 (T := TX2) (N := 6) hi_X2_copyFrom_X2 rfl (by decide) (List.mem_of_getElem? (i := 8) rfl) rfl rfl rfl dX2_copyFrom_52 ?_
  refine j_iconst C dX2_copyFrom_55 (v := (0 : Int32)) (by decide) ?_
  refine j_bipush C dX2_copyFrom_56 (v := (6 : Int32)) (by decide) ?_
  obtain ⟨sk4, dk4, nk4, e1, e2, e3, e4, e5, hw⟩ := hw
  refine j_copy C 9 4 sk4 dk4 nk4 (List.mem_of_getElem? (i := 2) rfl) (List.mem_of_getElem? (i := 3) rfl) (List.mem_of_getElem? (i := 4) rfl) (List.mem_of_getElem? (i := 5) rfl) rfl rfl e1 e2 e3 e4 e5 (by decide) (by decide) (by decide) (Nat.le_of_ble_eq_true rfl) rfl dX2_copyFrom_58 ?_
  refine j_aload_n C 0 dX2_copyFrom_61 rfl rfl ?_
  refine j_aload_n C 1 dX2_copyFrom_62 rfl rfl ?_
  refine j_get C 5 2 4 (T := TX2) (N := 6) hi_X2_copyFrom_X2 rfl (by decide) (List.mem_of_getElem? (i := 9) rfl) rfl rfl rfl dX2_copyFrom_63 ?_
  refine j_put C 0 2 4 (T := TX2) (N := 6) (ty := .int) tyX2_ok nmX2 hi_X2_copyFrom_X2 rfl (by decide) (List.mem_of_getElem? (i := 9) rfl) rfl rfl rfl rfl rfl rfl (Nat.le_of_ble_eq_true rfl) rfl dX2_copyFrom_66 ?_
  refine j_aload_n C 0 dX2_copyFrom_69 rfl rfl ?_
  refine j_aload_n C 1 dX2_copyFrom_70 rfl rfl ?_
  refine j_get C 5 2 5 (T := TX2) (N := 6) hi_X2_copyFrom_X2 rfl (by decide) (List.mem_of_getElem? (i := 10) rfl) rfl rfl rfl dX2_copyFrom_71 ?_
  refine j_put C 0 2 5 (T := TX2) (N := 6) (ty := .int) tyX2_ok nmX2 hi_X2_copyFrom_X2 rfl (by decide) (List.mem_of_getElem? (i := 10) rfl) rfl rfl rfl rfl rfl rfl (Nat.le_of_ble_eq_true rfl) rfl dX2_copyFrom_74 ?_
  exact j_vret C R (v_p1_generation, v_p1_toll, va_cpy f_p1_sorts f_sorts sk1 dk1 nk1, va_cpy f_p1_owners f_owners sk2 dk2 nk2, va_cpy f_p1_worths f_worths sk3 dk3 nk3, va_cpy f_p1_gave f_gave sk4 dk4 nk4) dX2_copyFrom_77 rfl hw
theorem hi_X2_sortAt_X2 : ∀ w ∈ wsX20, w ∈ wsX2_sortAt := fun _ h => List.mem_cons_of_mem _ (List.mem_append_right _ h)
theorem hd_X2_sortAt : yX2_sortAt.cls = RX2 ∧ yX2_sortAt.cls ≠ "java/lang/invoke/MethodHandle" ∧ yX2_sortAt.cls ≠ "java/lang/invoke/VarHandle" ∧ (parseMethodDescriptor yX2_sortAt.desc).map (fun d => d.parameters.length) = some 2 := by decide +kernel
set_option maxRecDepth 20000 in
set_option maxHeartbeats 4000000 in
theorem c_X2_sortAt (l : Launch) (g : gE) (a_this a_sorts a_owners a_worths a_gave : Nat) (v_generation : Int32) (v_toll : Int32) (f_sorts : (Nat → Int32)) (x1 : Int32) (x2 : Int32)  (K : Int32 → Prop) (hw : wp_X2_sortAt f_sorts x1 x2 K) : Ci l g yX2_sortAt wsX2_sortAt { frames := 0, cells := 0, slots := 0, locals := 0 } [.ref a_this, .int x1, .int x2] [(a_this, .inr (2, [.ref a_sorts, .ref a_owners, .ref a_worths, .ref a_gave, .int v_generation, .int v_toll])), (a_sorts, gI g 120 f_sorts)] (fun (r : Int32) (_ : Unit) => K r) (fun (_ : Unit) => [(a_this, .inr (2, [.ref a_sorts, .ref a_owners, .ref a_worths, .ref a_gave, .int v_generation, .int v_toll])), (a_sorts, gI g 120 f_sorts)]) 0 0 := by
  refine Ci_of (cc := cX2_sortAt) (nL := 3) (ret := (some .int)) (own := RX2) (lv0 := [(0, .ref a_this), (1, .int x1), (2, .int x2)]) (by decide +kernel) rfl rfl (Nat.le_of_ble_eq_true rfl) rfl (fun A x C R => ?_)
  refine j_aload_n C 0 dX2_sortAt_0 rfl rfl ?_
  refine j_get C 0 2 0 (T := TX2) (N := 6) hi_X2_sortAt_X2 rfl (by decide) (List.mem_of_getElem? (i := 1) rfl) rfl rfl rfl dX2_sortAt_1 ?_
  refine j_iload_n C 1 dX2_sortAt_4 rfl rfl ?_
  refine j_bipush C dX2_sortAt_5 (v := (24 : Int32)) (by decide) ?_
  refine j_imul C dX2_sortAt_7 ?_
  refine j_iload_n C 2 dX2_sortAt_8 rfl rfl ?_
  refine j_iadd C dX2_sortAt_9 ?_
  obtain ⟨k1, ek1, hk1, hw⟩ := hw
  refine j_iald C 1 k1 rfl ek1 hk1 (by decide) dX2_sortAt_10 ?_
  exact j_iret C R () rfl dX2_sortAt_11 rfl hw
theorem hi_X2_setRing_X2 : ∀ w ∈ wsX20, w ∈ wsX2_setRing := fun _ h => List.mem_cons_of_mem _ (List.mem_append_right _ h)
theorem hd_X2_setRing : yX2_setRing.cls = RX2 ∧ yX2_setRing.cls ≠ "java/lang/invoke/MethodHandle" ∧ yX2_setRing.cls ≠ "java/lang/invoke/VarHandle" ∧ (parseMethodDescriptor yX2_setRing.desc).map (fun d => d.parameters.length) = some 2 := by decide +kernel
set_option maxRecDepth 20000 in
set_option maxHeartbeats 4000000 in
theorem c_X2_setRing (l : Launch) (g : gE) (a_this a_sorts a_owners a_worths a_gave a_p2 : Nat) (v_generation : Int32) (v_toll : Int32) (f_sorts : (Nat → Int32)) (f_p2 : (Nat → Int32)) (x1 : Int32)  (K : (Nat → Int32) → Prop) (hw : wp_X2_setRing f_sorts f_p2 x1 K) : Cv l g yX2_setRing wsX2_setRing { frames := 1, cells := 0, slots := 0, locals := 60 } [.ref a_this, .int x1, .ref a_p2] [(a_this, .inr (2, [.ref a_sorts, .ref a_owners, .ref a_worths, .ref a_gave, .int v_generation, .int v_toll])), (a_sorts, gI g 120 f_sorts), (a_p2, gI g 24 f_p2)] (fun (u : (Nat → Int32)) => K u) (fun (u : (Nat → Int32)) => [(a_this, .inr (2, [.ref a_sorts, .ref a_owners, .ref a_worths, .ref a_gave, .int v_generation, .int v_toll])), (a_sorts, gI g 120 u), (a_p2, gI g 24 f_p2)]) 0 0 := by
  refine Cv_of (cc := cX2_setRing) (nL := 3) (ret := none) (own := RX2) (lv0 := [(0, .ref a_this), (1, .int x1), (2, .ref a_p2)]) (by decide +kernel) rfl rfl (Nat.le_of_ble_eq_true rfl) rfl (fun A x C R => ?_)
  refine j_aload_n C 2 dX2_setRing_0 rfl rfl ?_
  refine j_iconst C dX2_setRing_1 (v := (0 : Int32)) (by decide) ?_
  refine j_aload_n C 0 dX2_setRing_2 rfl rfl ?_
  refine j_get C 0 2 0 (T := TX2) (N := 6) hi_X2_setRing_X2 rfl (by decide) (List.mem_of_getElem? (i := 1) rfl) rfl rfl rfl dX2_setRing_3 ?_
  refine j_iload_n C 1 dX2_setRing_6 rfl rfl ?_
  refine j_bipush C dX2_setRing_7 (v := (24 : Int32)) (by decide) ?_
  refine j_imul C dX2_setRing_9 ?_
  refine j_bipush C dX2_setRing_10 (v := (24 : Int32)) (by decide) ?_
  obtain ⟨sk1, dk1, nk1, e1, e2, e3, e4, e5, hw⟩ := hw
  refine j_copy C 2 1 sk1 dk1 nk1 (List.mem_of_getElem? (i := 2) rfl) (List.mem_of_getElem? (i := 3) rfl) (List.mem_of_getElem? (i := 4) rfl) (List.mem_of_getElem? (i := 5) rfl) rfl rfl e1 e2 e3 e4 e5 (by decide) (by decide) (by decide) (Nat.le_of_ble_eq_true rfl) rfl dX2_setRing_12 ?_
  exact j_vret C R (va_cpy f_p2 f_sorts sk1 dk1 nk1) dX2_setRing_15 rfl hw
theorem hd_X2_sectorsOfSort : yX2_sectorsOfSort.cls = RX2 ∧ yX2_sectorsOfSort.cls ≠ "java/lang/invoke/MethodHandle" ∧ yX2_sectorsOfSort.cls ≠ "java/lang/invoke/VarHandle" ∧ (parseMethodDescriptor yX2_sectorsOfSort.desc).map (fun d => d.parameters.length) = some 2 := by decide +kernel
set_option maxRecDepth 20000 in
set_option maxHeartbeats 4000000 in
theorem c_X2_sectorsOfSort (l : Launch) (g : gE) (a_this a_sorts a_owners a_worths a_gave : Nat) (v_generation : Int32) (v_toll : Int32) (f_sorts : (Nat → Int32)) (x1 : Int32) (x2 : Int32)  (K : Int32 → Prop) (hw : wp_X2_sectorsOfSort f_sorts x1 x2 K) : Ci l g yX2_sectorsOfSort wsX2_sectorsOfSort { frames := 1, cells := 0, slots := 0, locals := 22 } [.ref a_this, .int x1, .int x2] [(a_this, .inr (2, [.ref a_sorts, .ref a_owners, .ref a_worths, .ref a_gave, .int v_generation, .int v_toll])), (a_sorts, gI g 120 f_sorts)] (fun (r : Int32) (_ : Unit) => K r) (fun (_ : Unit) => [(a_this, .inr (2, [.ref a_sorts, .ref a_owners, .ref a_worths, .ref a_gave, .int v_generation, .int v_toll])), (a_sorts, gI g 120 f_sorts)]) 0 0 := by
  refine Ci_of (cc := cX2_sectorsOfSort) (nL := 5) (ret := (some .int)) (own := RX2) (lv0 := [(0, .ref a_this), (1, .int x1), (2, .int x2)]) (by decide +kernel) rfl rfl (Nat.le_of_ble_eq_true rfl) rfl (fun A x C R => ?_)
  refine j_iconst C dX2_sectorsOfSort_0 (v := (0 : Int32)) (by decide) ?_
  refine j_istore_n C [1, 2, 3, 0] dX2_sectorsOfSort_1 rfl (by decide) rfl ?_
  refine j_iconst C dX2_sectorsOfSort_2 (v := (0 : Int32)) (by decide) ?_
  refine j_istore C [1, 2, 3, 4, 0] dX2_sectorsOfSort_3 (by decide) rfl ?_
  refine lpW2_ind (G := fun x3 x4 => J l g A x 5 0 0 5 [(0, .ref a_this), (1, .int x1), (2, .int x2), (3, .int x3), (4, .int x4)] [] [(a_this, .inr (2, [.ref a_sorts, .ref a_owners, .ref a_worths, .ref a_gave, .int v_generation, .int v_toll])), (a_sorts, gI g 120 f_sorts)]) (fun L5 x3 x4 hL5 hw => ?_) _ _ hw
  refine j_iload C 4 dX2_sectorsOfSort_5 rfl ?_
  refine j_bipush C dX2_sectorsOfSort_7 (v := (24 : Int32)) (by decide) ?_
  refine j_icmp_ge C 36 dX2_sectorsOfSort_9 rfl (fun c => ?_) (fun c => ?_)
  · have hw := hw.1 c
    refine j_iload_n C 3 dX2_sectorsOfSort_36 rfl rfl ?_
    exact j_iret C R () rfl dX2_sectorsOfSort_37 rfl hw
  · have hw := hw.2 c
    refine j_aload_n C 0 dX2_sectorsOfSort_12 rfl rfl ?_
    refine j_iload_n C 1 dX2_sectorsOfSort_13 rfl rfl ?_
    refine j_iload C 4 dX2_sectorsOfSort_14 rfl ?_
    refine j_ri C (jc_V C (c_X2_sortAt l g a_this a_sorts a_owners a_worths a_gave v_generation v_toll f_sorts x1 x4 _ hw) 2 gX2_sectorsOfSort_X2_sortAt rfl rfl rfl hd_X2_sortAt ⟨Nat.le_of_ble_eq_true rfl, Nat.le_of_ble_eq_true rfl⟩ (j_rec C 0 2 rfl rfl) [0, 1] rfl rfl (rest := []) rfl rfl (Nat.le_of_ble_eq_true rfl) dX2_sectorsOfSort_16 ⟨Nat.le_refl _, Nat.le_refl _⟩) [0, 1] rfl (fun _ => rfl) (fun r1 _ hw => ?_)
    try dsimp only at hw
    refine j_iload_n C 2 dX2_sectorsOfSort_19 rfl rfl ?_
    refine j_icmp_ne C 30 dX2_sectorsOfSort_20 rfl (fun c => ?_) (fun c => ?_)
    · have hw := hw.1 c
      obtain ⟨n2, en2⟩ : ∃ z : Int32, z = x4 + (1 : Int32) := ⟨_, rfl⟩
      have hw := hw n2 en2
      refine j_iinc C 4 [1, 2, 3, 4, 0] (v' := (1 : Int32)) dX2_sectorsOfSort_30 rfl (by decide) (by decide) rfl ?_
      rw [← en2]
      refine j_goto C 5 dX2_sectorsOfSort_33 rfl ?_
      exact hL5 _ _ hw
    · have hw := hw.2 c
      refine j_iload_n C 3 dX2_sectorsOfSort_23 rfl rfl ?_
      refine j_iconst C dX2_sectorsOfSort_24 (v := (1 : Int32)) (by decide) ?_
      refine j_iload C 4 dX2_sectorsOfSort_25 rfl ?_
      refine j_ishl C dX2_sectorsOfSort_27 ?_
      refine j_ior C dX2_sectorsOfSort_28 ?_
      refine j_top (fun n3 en3 => ?_)
      have hw := hw n3 en3
      refine j_istore_n C [1, 2, 3, 0, 4] dX2_sectorsOfSort_29 rfl (by decide) rfl ?_
      obtain ⟨n4, en4⟩ : ∃ z : Int32, z = x4 + (1 : Int32) := ⟨_, rfl⟩
      have hw := hw n4 en4
      refine j_iinc C 4 [1, 2, 3, 4, 0] (v' := (1 : Int32)) dX2_sectorsOfSort_30 rfl (by decide) (by decide) rfl ?_
      rw [← en4]
      refine j_goto C 5 dX2_sectorsOfSort_33 rfl ?_
      exact hL5 _ _ hw
theorem hi_X2_ownerBehind_X2 : ∀ w ∈ wsX20, w ∈ wsX2_ownerBehind := fun _ h => List.mem_cons_of_mem _ (List.mem_append_right _ h)
theorem hd_X2_ownerBehind : yX2_ownerBehind.cls = RX2 ∧ yX2_ownerBehind.cls ≠ "java/lang/invoke/MethodHandle" ∧ yX2_ownerBehind.cls ≠ "java/lang/invoke/VarHandle" ∧ (parseMethodDescriptor yX2_ownerBehind.desc).map (fun d => d.parameters.length) = some 2 := by decide +kernel
set_option maxRecDepth 20000 in
set_option maxHeartbeats 4000000 in
theorem c_X2_ownerBehind (l : Launch) (g : gE) (a_this a_sorts a_owners a_worths a_gave : Nat) (v_generation : Int32) (v_toll : Int32) (f_owners : (Nat → Int32)) (x1 : Int32) (x2 : Int32)  (K : Int32 → Prop) (hw : wp_X2_ownerBehind f_owners x1 x2 K) : Ci l g yX2_ownerBehind wsX2_ownerBehind { frames := 0, cells := 0, slots := 0, locals := 0 } [.ref a_this, .int x1, .int x2] [(a_this, .inr (2, [.ref a_sorts, .ref a_owners, .ref a_worths, .ref a_gave, .int v_generation, .int v_toll])), (a_owners, gI g 504 f_owners)] (fun (r : Int32) (_ : Unit) => K r) (fun (_ : Unit) => [(a_this, .inr (2, [.ref a_sorts, .ref a_owners, .ref a_worths, .ref a_gave, .int v_generation, .int v_toll])), (a_owners, gI g 504 f_owners)]) 0 0 := by
  refine Ci_of (cc := cX2_ownerBehind) (nL := 3) (ret := (some .int)) (own := RX2) (lv0 := [(0, .ref a_this), (1, .int x1), (2, .int x2)]) (by decide +kernel) rfl rfl (Nat.le_of_ble_eq_true rfl) rfl (fun A x C R => ?_)
  refine j_aload_n C 0 dX2_ownerBehind_0 rfl rfl ?_
  refine j_get C 0 2 1 (T := TX2) (N := 6) hi_X2_ownerBehind_X2 rfl (by decide) (List.mem_of_getElem? (i := 1) rfl) rfl rfl rfl dX2_ownerBehind_1 ?_
  refine j_iload_n C 1 dX2_ownerBehind_4 rfl rfl ?_
  refine j_bipush C dX2_ownerBehind_5 (v := (24 : Int32)) (by decide) ?_
  refine j_imul C dX2_ownerBehind_7 ?_
  refine j_iload_n C 2 dX2_ownerBehind_8 rfl rfl ?_
  refine j_iadd C dX2_ownerBehind_9 ?_
  obtain ⟨k1, ek1, hk1, hw⟩ := hw
  refine j_iald C 1 k1 rfl ek1 hk1 (by decide) dX2_ownerBehind_10 ?_
  exact j_iret C R () rfl dX2_ownerBehind_11 rfl hw
theorem hi_X2_ownerOf_X2 : ∀ w ∈ wsX20, w ∈ wsX2_ownerOf := fun _ h => List.mem_cons_of_mem _ (List.mem_append_right _ h)
theorem hd_X2_ownerOf : yX2_ownerOf.cls = RX2 ∧ yX2_ownerOf.cls ≠ "java/lang/invoke/MethodHandle" ∧ yX2_ownerOf.cls ≠ "java/lang/invoke/VarHandle" ∧ (parseMethodDescriptor yX2_ownerOf.desc).map (fun d => d.parameters.length) = some 1 := by decide +kernel
set_option maxRecDepth 20000 in
set_option maxHeartbeats 4000000 in
theorem c_X2_ownerOf (l : Launch) (g : gE) (a_this a_sorts a_owners a_worths a_gave : Nat) (v_generation : Int32) (v_toll : Int32) (f_owners : (Nat → Int32)) (x1 : Int32)  (K : Int32 → Prop) (hw : wp_X2_ownerOf v_generation f_owners x1 K) : Ci l g yX2_ownerOf wsX2_ownerOf { frames := 1, cells := 0, slots := 0, locals := 22 } [.ref a_this, .int x1] [(a_this, .inr (2, [.ref a_sorts, .ref a_owners, .ref a_worths, .ref a_gave, .int v_generation, .int v_toll])), (a_owners, gI g 504 f_owners)] (fun (r : Int32) (_ : Unit) => K r) (fun (_ : Unit) => [(a_this, .inr (2, [.ref a_sorts, .ref a_owners, .ref a_worths, .ref a_gave, .int v_generation, .int v_toll])), (a_owners, gI g 504 f_owners)]) 0 0 := by
  refine Ci_of (cc := cX2_ownerOf) (nL := 2) (ret := (some .int)) (own := RX2) (lv0 := [(0, .ref a_this), (1, .int x1)]) (by decide +kernel) rfl rfl (Nat.le_of_ble_eq_true rfl) rfl (fun A x C R => ?_)
  refine j_aload_n C 0 dX2_ownerOf_0 rfl rfl ?_
  refine j_aload_n C 0 dX2_ownerOf_1 rfl rfl ?_
  refine j_get C 0 2 4 (T := TX2) (N := 6) hi_X2_ownerOf_X2 rfl (by decide) (List.mem_of_getElem? (i := 1) rfl) rfl rfl rfl dX2_ownerOf_2 ?_
  refine j_iload_n C 1 dX2_ownerOf_5 rfl rfl ?_
  refine j_ri C (jc_V C (c_X2_ownerBehind l g a_this a_sorts a_owners a_worths a_gave v_generation v_toll f_owners v_generation x1 _ hw) 2 gX2_ownerOf_X2_ownerBehind rfl rfl rfl hd_X2_ownerBehind ⟨Nat.le_of_ble_eq_true rfl, Nat.le_of_ble_eq_true rfl⟩ (j_rec C 0 2 rfl rfl) [0, 1] rfl rfl (rest := []) rfl rfl (Nat.le_of_ble_eq_true rfl) dX2_ownerOf_6 ⟨Nat.le_refl _, Nat.le_refl _⟩) [0, 1] rfl (fun _ => rfl) (fun r1 _ hw => ?_)
  try dsimp only at hw
  exact j_iret C R () rfl dX2_ownerOf_9 rfl hw
theorem hd_X2_sectorsOf : yX2_sectorsOf.cls = RX2 ∧ yX2_sectorsOf.cls ≠ "java/lang/invoke/MethodHandle" ∧ yX2_sectorsOf.cls ≠ "java/lang/invoke/VarHandle" ∧ (parseMethodDescriptor yX2_sectorsOf.desc).map (fun d => d.parameters.length) = some 1 := by decide +kernel
set_option maxRecDepth 20000 in
set_option maxHeartbeats 4000000 in
theorem c_X2_sectorsOf (l : Launch) (g : gE) (a_this a_sorts a_owners a_worths a_gave : Nat) (v_generation : Int32) (v_toll : Int32) (f_owners : (Nat → Int32)) (x1 : Int32)  (K : Int32 → Prop) (hw : wp_X2_sectorsOf v_generation f_owners x1 K) : Ci l g yX2_sectorsOf wsX2_sectorsOf { frames := 2, cells := 0, slots := 0, locals := 43 } [.ref a_this, .int x1] [(a_this, .inr (2, [.ref a_sorts, .ref a_owners, .ref a_worths, .ref a_gave, .int v_generation, .int v_toll])), (a_owners, gI g 504 f_owners)] (fun (r : Int32) (_ : Unit) => K r) (fun (_ : Unit) => [(a_this, .inr (2, [.ref a_sorts, .ref a_owners, .ref a_worths, .ref a_gave, .int v_generation, .int v_toll])), (a_owners, gI g 504 f_owners)]) 0 0 := by
  refine Ci_of (cc := cX2_sectorsOf) (nL := 4) (ret := (some .int)) (own := RX2) (lv0 := [(0, .ref a_this), (1, .int x1)]) (by decide +kernel) rfl rfl (Nat.le_of_ble_eq_true rfl) rfl (fun A x C R => ?_)
  refine j_iconst C dX2_sectorsOf_0 (v := (0 : Int32)) (by decide) ?_
  refine j_istore_n C [1, 2, 0] dX2_sectorsOf_1 rfl (by decide) rfl ?_
  refine j_iconst C dX2_sectorsOf_2 (v := (0 : Int32)) (by decide) ?_
  refine j_istore_n C [1, 2, 3, 0] dX2_sectorsOf_3 rfl (by decide) rfl ?_
  refine lpW2_ind (G := fun x2 x3 => J l g A x 4 0 0 4 [(0, .ref a_this), (1, .int x1), (2, .int x2), (3, .int x3)] [] [(a_this, .inr (2, [.ref a_sorts, .ref a_owners, .ref a_worths, .ref a_gave, .int v_generation, .int v_toll])), (a_owners, gI g 504 f_owners)]) (fun L4 x2 x3 hL4 hw => ?_) _ _ hw
  refine j_iload_n C 3 dX2_sectorsOf_4 rfl rfl ?_
  refine j_bipush C dX2_sectorsOf_5 (v := (24 : Int32)) (by decide) ?_
  refine j_icmp_ge C 31 dX2_sectorsOf_7 rfl (fun c => ?_) (fun c => ?_)
  · have hw := hw.1 c
    refine j_iload_n C 2 dX2_sectorsOf_31 rfl rfl ?_
    exact j_iret C R () rfl dX2_sectorsOf_32 rfl hw
  · have hw := hw.2 c
    refine j_aload_n C 0 dX2_sectorsOf_10 rfl rfl ?_
    refine j_iload_n C 3 dX2_sectorsOf_11 rfl rfl ?_
    refine j_ri C (jc_V C (c_X2_ownerOf l g a_this a_sorts a_owners a_worths a_gave v_generation v_toll f_owners x3 _ hw) 1 gX2_sectorsOf_X2_ownerOf rfl rfl rfl hd_X2_ownerOf ⟨Nat.le_of_ble_eq_true rfl, Nat.le_of_ble_eq_true rfl⟩ (j_rec C 0 2 rfl rfl) [0, 1] rfl rfl (rest := []) rfl rfl (Nat.le_of_ble_eq_true rfl) dX2_sectorsOf_12 ⟨Nat.le_refl _, Nat.le_refl _⟩) [0, 1] rfl (fun _ => rfl) (fun r1 _ hw => ?_)
    try dsimp only at hw
    refine j_iload_n C 1 dX2_sectorsOf_15 rfl rfl ?_
    refine j_icmp_ne C 25 dX2_sectorsOf_16 rfl (fun c => ?_) (fun c => ?_)
    · have hw := hw.1 c
      obtain ⟨n2, en2⟩ : ∃ z : Int32, z = x3 + (1 : Int32) := ⟨_, rfl⟩
      have hw := hw n2 en2
      refine j_iinc C 3 [1, 2, 3, 0] (v' := (1 : Int32)) dX2_sectorsOf_25 rfl (by decide) (by decide) rfl ?_
      rw [← en2]
      refine j_goto C 4 dX2_sectorsOf_28 rfl ?_
      exact hL4 _ _ hw
    · have hw := hw.2 c
      refine j_iload_n C 2 dX2_sectorsOf_19 rfl rfl ?_
      refine j_iconst C dX2_sectorsOf_20 (v := (1 : Int32)) (by decide) ?_
      refine j_iload_n C 3 dX2_sectorsOf_21 rfl rfl ?_
      refine j_ishl C dX2_sectorsOf_22 ?_
      refine j_ior C dX2_sectorsOf_23 ?_
      refine j_top (fun n3 en3 => ?_)
      have hw := hw n3 en3
      refine j_istore_n C [1, 2, 0, 3] dX2_sectorsOf_24 rfl (by decide) rfl ?_
      obtain ⟨n4, en4⟩ : ∃ z : Int32, z = x3 + (1 : Int32) := ⟨_, rfl⟩
      have hw := hw n4 en4
      refine j_iinc C 3 [1, 2, 3, 0] (v' := (1 : Int32)) dX2_sectorsOf_25 rfl (by decide) (by decide) rfl ?_
      rw [← en4]
      refine j_goto C 4 dX2_sectorsOf_28 rfl ?_
      exact hL4 _ _ hw
theorem hd_X2_ownersOf : yX2_ownersOf.cls = RX2 ∧ yX2_ownersOf.cls ≠ "java/lang/invoke/MethodHandle" ∧ yX2_ownersOf.cls ≠ "java/lang/invoke/VarHandle" ∧ (parseMethodDescriptor yX2_ownersOf.desc).map (fun d => d.parameters.length) = some 1 := by decide +kernel
set_option maxRecDepth 20000 in
set_option maxHeartbeats 4000000 in
theorem c_X2_ownersOf (l : Launch) (g : gE) (a_this a_sorts a_owners a_worths a_gave : Nat) (v_generation : Int32) (v_toll : Int32) (f_owners : (Nat → Int32)) (x1 : Int32)  (K : Int32 → Prop) (hw : wp_X2_ownersOf v_generation f_owners x1 K) : Ci l g yX2_ownersOf wsX2_ownersOf { frames := 2, cells := 0, slots := 0, locals := 43 } [.ref a_this, .int x1] [(a_this, .inr (2, [.ref a_sorts, .ref a_owners, .ref a_worths, .ref a_gave, .int v_generation, .int v_toll])), (a_owners, gI g 504 f_owners)] (fun (r : Int32) (_ : Unit) => K r) (fun (_ : Unit) => [(a_this, .inr (2, [.ref a_sorts, .ref a_owners, .ref a_worths, .ref a_gave, .int v_generation, .int v_toll])), (a_owners, gI g 504 f_owners)]) 0 0 := by
  refine Ci_of (cc := cX2_ownersOf) (nL := 4) (ret := (some .int)) (own := RX2) (lv0 := [(0, .ref a_this), (1, .int x1)]) (by decide +kernel) rfl rfl (Nat.le_of_ble_eq_true rfl) rfl (fun A x C R => ?_)
  refine j_iconst C dX2_ownersOf_0 (v := (0 : Int32)) (by decide) ?_
  refine j_istore_n C [1, 2, 0] dX2_ownersOf_1 rfl (by decide) rfl ?_
  refine j_iconst C dX2_ownersOf_2 (v := (0 : Int32)) (by decide) ?_
  refine j_istore_n C [1, 2, 3, 0] dX2_ownersOf_3 rfl (by decide) rfl ?_
  refine lpW2_ind (G := fun x2 x3 => J l g A x 4 0 0 4 [(0, .ref a_this), (1, .int x1), (2, .int x2), (3, .int x3)] [] [(a_this, .inr (2, [.ref a_sorts, .ref a_owners, .ref a_worths, .ref a_gave, .int v_generation, .int v_toll])), (a_owners, gI g 504 f_owners)]) (fun L4 x2 x3 hL4 hw => ?_) _ _ hw
  refine j_iload_n C 3 dX2_ownersOf_4 rfl rfl ?_
  refine j_bipush C dX2_ownersOf_5 (v := (24 : Int32)) (by decide) ?_
  refine j_icmp_ge C 34 dX2_ownersOf_7 rfl (fun c => ?_) (fun c => ?_)
  · have hw := hw.1 c
    refine j_iload_n C 2 dX2_ownersOf_34 rfl rfl ?_
    exact j_iret C R () rfl dX2_ownersOf_35 rfl hw
  · have hw := hw.2 c
    refine j_iload_n C 1 dX2_ownersOf_10 rfl rfl ?_
    refine j_iload_n C 3 dX2_ownersOf_11 rfl rfl ?_
    refine j_ishr C dX2_ownersOf_12 ?_
    refine j_iconst C dX2_ownersOf_13 (v := (1 : Int32)) (by decide) ?_
    refine j_iand C dX2_ownersOf_14 ?_
    refine j_if_eq C 28 dX2_ownersOf_15 rfl (fun c => ?_) (fun c => ?_)
    · have hw := hw.1 c
      obtain ⟨n1, en1⟩ : ∃ z : Int32, z = x3 + (1 : Int32) := ⟨_, rfl⟩
      have hw := hw n1 en1
      refine j_iinc C 3 [1, 2, 3, 0] (v' := (1 : Int32)) dX2_ownersOf_28 rfl (by decide) (by decide) rfl ?_
      rw [← en1]
      refine j_goto C 4 dX2_ownersOf_31 rfl ?_
      exact hL4 _ _ hw
    · have hw := hw.2 c
      refine j_iload_n C 2 dX2_ownersOf_18 rfl rfl ?_
      refine j_iconst C dX2_ownersOf_19 (v := (1 : Int32)) (by decide) ?_
      refine j_aload_n C 0 dX2_ownersOf_20 rfl rfl ?_
      refine j_iload_n C 3 dX2_ownersOf_21 rfl rfl ?_
      refine j_ri C (jc_V C (c_X2_ownerOf l g a_this a_sorts a_owners a_worths a_gave v_generation v_toll f_owners x3 _ hw) 1 gX2_ownersOf_X2_ownerOf rfl rfl rfl hd_X2_ownerOf ⟨Nat.le_of_ble_eq_true rfl, Nat.le_of_ble_eq_true rfl⟩ (j_rec C 0 2 rfl rfl) [0, 1] rfl rfl (rest := [.int (1 : Int32), .int x2]) rfl rfl (Nat.le_of_ble_eq_true rfl) dX2_ownersOf_22 ⟨Nat.le_refl _, Nat.le_refl _⟩) [0, 1] rfl (fun _ => rfl) (fun r2 _ hw => ?_)
      try dsimp only at hw
      refine j_ishl C dX2_ownersOf_25 ?_
      refine j_ior C dX2_ownersOf_26 ?_
      refine j_top (fun n3 en3 => ?_)
      have hw := hw n3 en3
      refine j_istore_n C [1, 2, 0, 3] dX2_ownersOf_27 rfl (by decide) rfl ?_
      obtain ⟨n4, en4⟩ : ∃ z : Int32, z = x3 + (1 : Int32) := ⟨_, rfl⟩
      have hw := hw n4 en4
      refine j_iinc C 3 [1, 2, 3, 0] (v' := (1 : Int32)) dX2_ownersOf_28 rfl (by decide) (by decide) rfl ?_
      rw [← en4]
      refine j_goto C 4 dX2_ownersOf_31 rfl ?_
      exact hL4 _ _ hw
theorem hi_X2_setSlices_X2 : ∀ w ∈ wsX20, w ∈ wsX2_setSlices := fun _ h => List.mem_cons_of_mem _ (List.mem_append_right _ h)
theorem hd_X2_setSlices : yX2_setSlices.cls = RX2 ∧ yX2_setSlices.cls ≠ "java/lang/invoke/MethodHandle" ∧ yX2_setSlices.cls ≠ "java/lang/invoke/VarHandle" ∧ (parseMethodDescriptor yX2_setSlices.desc).map (fun d => d.parameters.length) = some 1 := by decide +kernel
set_option maxRecDepth 20000 in
set_option maxHeartbeats 4000000 in
theorem c_X2_setSlices (l : Launch) (g : gE) (a_this a_sorts a_owners a_worths a_gave a_p1 : Nat) (v_generation : Int32) (v_toll : Int32) (f_owners : (Nat → Int32)) (f_p1 : (Nat → Int32))   (K : Int32 → (Nat → Int32) → Prop) (hw : wp_X2_setSlices v_generation f_owners f_p1 K) : Cv l g yX2_setSlices wsX2_setSlices { frames := 1, cells := 0, slots := 0, locals := 60 } [.ref a_this, .ref a_p1] [(a_this, .inr (2, [.ref a_sorts, .ref a_owners, .ref a_worths, .ref a_gave, .int v_generation, .int v_toll])), (a_owners, gI g 504 f_owners), (a_p1, gI g 24 f_p1)] (fun (u : Int32 × (Nat → Int32)) => K u.1 u.2) (fun (u : Int32 × (Nat → Int32)) => [(a_this, .inr (2, [.ref a_sorts, .ref a_owners, .ref a_worths, .ref a_gave, .int (u.1), .int v_toll])), (a_owners, gI g 504 (u.2)), (a_p1, gI g 24 f_p1)]) 0 0 := by
  refine Cv_of (cc := cX2_setSlices) (nL := 2) (ret := none) (own := RX2) (lv0 := [(0, .ref a_this), (1, .ref a_p1)]) (by decide +kernel) rfl rfl (Nat.le_of_ble_eq_true rfl) rfl (fun A x C R => ?_)
  refine j_aload_n C 0 dX2_setSlices_0 rfl rfl ?_
  refine j_iconst C dX2_setSlices_1 (v := (0 : Int32)) (by decide) ?_
  refine j_put C 0 2 4 (T := TX2) (N := 6) (ty := .int) tyX2_ok nmX2 hi_X2_setSlices_X2 rfl (by decide) (List.mem_of_getElem? (i := 1) rfl) rfl rfl rfl rfl rfl rfl (Nat.le_of_ble_eq_true rfl) rfl dX2_setSlices_2 ?_
  refine j_aload_n C 1 dX2_setSlices_5 rfl rfl ?_
  refine j_iconst C dX2_setSlices_6 (v := (0 : Int32)) (by decide) ?_
  refine j_aload_n C 0 dX2_setSlices_7 rfl rfl ?_
  refine j_get C 0 2 1 (T := TX2) (N := 6) hi_X2_setSlices_X2 rfl (by decide) (List.mem_of_getElem? (i := 2) rfl) rfl rfl rfl dX2_setSlices_8 ?_
  refine j_iconst C dX2_setSlices_11 (v := (0 : Int32)) (by decide) ?_
  refine j_bipush C dX2_setSlices_12 (v := (24 : Int32)) (by decide) ?_
  obtain ⟨sk1, dk1, nk1, e1, e2, e3, e4, e5, hw⟩ := hw
  refine j_copy C 2 1 sk1 dk1 nk1 (List.mem_of_getElem? (i := 3) rfl) (List.mem_of_getElem? (i := 4) rfl) (List.mem_of_getElem? (i := 5) rfl) (List.mem_of_getElem? (i := 6) rfl) rfl rfl e1 e2 e3 e4 e5 (by decide) (by decide) (by decide) (Nat.le_of_ble_eq_true rfl) rfl dX2_setSlices_14 ?_
  exact j_vret C R ((0 : Int32), va_cpy f_p1 f_owners sk1 dk1 nk1) dX2_setSlices_17 rfl hw
theorem hi_X2_beginGeneration_X2 : ∀ w ∈ wsX20, w ∈ wsX2_beginGeneration := fun _ h => List.mem_cons_of_mem _ (List.mem_append_right _ h)
theorem hd_X2_beginGeneration : yX2_beginGeneration.cls = RX2 ∧ yX2_beginGeneration.cls ≠ "java/lang/invoke/MethodHandle" ∧ yX2_beginGeneration.cls ≠ "java/lang/invoke/VarHandle" ∧ (parseMethodDescriptor yX2_beginGeneration.desc).map (fun d => d.parameters.length) = some 0 := by decide +kernel
set_option maxRecDepth 20000 in
set_option maxHeartbeats 4000000 in
theorem c_X2_beginGeneration (l : Launch) (g : gE) (a_this a_sorts a_owners a_worths a_gave : Nat) (v_generation : Int32) (v_toll : Int32) (f_owners : (Nat → Int32))   (K : Int32 → (Nat → Int32) → Prop) (hw : wp_X2_beginGeneration v_generation f_owners K) : Cv l g yX2_beginGeneration wsX2_beginGeneration { frames := 1, cells := 0, slots := 0, locals := 60 } [.ref a_this] [(a_this, .inr (2, [.ref a_sorts, .ref a_owners, .ref a_worths, .ref a_gave, .int v_generation, .int v_toll])), (a_owners, gI g 504 f_owners)] (fun (u : Int32 × (Nat → Int32)) => K u.1 u.2) (fun (u : Int32 × (Nat → Int32)) => [(a_this, .inr (2, [.ref a_sorts, .ref a_owners, .ref a_worths, .ref a_gave, .int (u.1), .int v_toll])), (a_owners, gI g 504 (u.2))]) 0 0 := by
  refine Cv_of (cc := cX2_beginGeneration) (nL := 1) (ret := none) (own := RX2) (lv0 := [(0, .ref a_this)]) (by decide +kernel) rfl rfl (Nat.le_of_ble_eq_true rfl) rfl (fun A x C R => ?_)
  refine j_aload_n C 0 dX2_beginGeneration_0 rfl rfl ?_
  refine j_get C 0 2 1 (T := TX2) (N := 6) hi_X2_beginGeneration_X2 rfl (by decide) (List.mem_of_getElem? (i := 1) rfl) rfl rfl rfl dX2_beginGeneration_1 ?_
  refine j_aload_n C 0 dX2_beginGeneration_4 rfl rfl ?_
  refine j_get C 0 2 4 (T := TX2) (N := 6) hi_X2_beginGeneration_X2 rfl (by decide) (List.mem_of_getElem? (i := 2) rfl) rfl rfl rfl dX2_beginGeneration_5 ?_
  refine j_bipush C dX2_beginGeneration_8 (v := (24 : Int32)) (by decide) ?_
  refine j_imul C dX2_beginGeneration_10 ?_
  refine j_aload_n C 0 dX2_beginGeneration_11 rfl rfl ?_
  refine j_get C 0 2 1 (T := TX2) (N := 6) hi_X2_beginGeneration_X2 rfl (by decide) (List.mem_of_getElem? (i := 1) rfl) rfl rfl rfl dX2_beginGeneration_12 ?_
  refine j_aload_n C 0 dX2_beginGeneration_15 rfl rfl ?_
  refine j_get C 0 2 4 (T := TX2) (N := 6) hi_X2_beginGeneration_X2 rfl (by decide) (List.mem_of_getElem? (i := 2) rfl) rfl rfl rfl dX2_beginGeneration_16 ?_
  refine j_iconst C dX2_beginGeneration_19 (v := (1 : Int32)) (by decide) ?_
  refine j_iadd C dX2_beginGeneration_20 ?_
  refine j_bipush C dX2_beginGeneration_21 (v := (24 : Int32)) (by decide) ?_
  refine j_imul C dX2_beginGeneration_23 ?_
  refine j_bipush C dX2_beginGeneration_24 (v := (24 : Int32)) (by decide) ?_
  obtain ⟨sk1, dk1, nk1, e1, e2, e3, e4, e5, hw⟩ := hw
  refine j_copy C 1 1 sk1 dk1 nk1 (List.mem_of_getElem? (i := 3) rfl) (List.mem_of_getElem? (i := 4) rfl) (List.mem_of_getElem? (i := 5) rfl) (List.mem_of_getElem? (i := 6) rfl) rfl rfl e1 e2 e3 e4 e5 (by decide) (by decide) (by decide) (Nat.le_of_ble_eq_true rfl) rfl dX2_beginGeneration_26 ?_
  refine j_aload_n C 0 dX2_beginGeneration_29 rfl rfl ?_
  refine j_dup C dX2_beginGeneration_30 rfl ?_
  refine j_get C 0 2 4 (T := TX2) (N := 6) hi_X2_beginGeneration_X2 rfl (by decide) (List.mem_of_getElem? (i := 2) rfl) rfl rfl rfl dX2_beginGeneration_31 ?_
  refine j_iconst C dX2_beginGeneration_34 (v := (1 : Int32)) (by decide) ?_
  refine j_iadd C dX2_beginGeneration_35 ?_
  refine j_top (fun n2 en2 => ?_)
  have hw := hw n2 en2
  refine j_put C 0 2 4 (T := TX2) (N := 6) (ty := .int) tyX2_ok nmX2 hi_X2_beginGeneration_X2 rfl (by decide) (List.mem_of_getElem? (i := 2) rfl) rfl rfl rfl rfl rfl rfl (Nat.le_of_ble_eq_true rfl) rfl dX2_beginGeneration_36 ?_
  exact j_vret C R (n2, va_cpy f_owners f_owners sk1 dk1 nk1) dX2_beginGeneration_39 rfl hw
theorem hi_X2_give_X2 : ∀ w ∈ wsX20, w ∈ wsX2_give := fun _ h => List.mem_cons_of_mem _ (List.mem_append_right _ h)
theorem hd_X2_give : yX2_give.cls = RX2 ∧ yX2_give.cls ≠ "java/lang/invoke/MethodHandle" ∧ yX2_give.cls ≠ "java/lang/invoke/VarHandle" ∧ (parseMethodDescriptor yX2_give.desc).map (fun d => d.parameters.length) = some 2 := by decide +kernel
set_option maxRecDepth 20000 in
set_option maxHeartbeats 4000000 in
theorem c_X2_give (l : Launch) (g : gE) (a_this a_sorts a_owners a_worths a_gave : Nat) (v_generation : Int32) (v_toll : Int32) (f_owners : (Nat → Int32)) (x1 : Int32) (x2 : Int32)  (K : (Nat → Int32) → Prop) (hw : wp_X2_give v_generation f_owners x1 x2 K) : Cv l g yX2_give wsX2_give { frames := 0, cells := 0, slots := 0, locals := 0 } [.ref a_this, .int x1, .int x2] [(a_this, .inr (2, [.ref a_sorts, .ref a_owners, .ref a_worths, .ref a_gave, .int v_generation, .int v_toll])), (a_owners, gI g 504 f_owners)] (fun (u : (Nat → Int32)) => K u) (fun (u : (Nat → Int32)) => [(a_this, .inr (2, [.ref a_sorts, .ref a_owners, .ref a_worths, .ref a_gave, .int v_generation, .int v_toll])), (a_owners, gI g 504 u)]) 0 0 := by
  refine Cv_of (cc := cX2_give) (nL := 3) (ret := none) (own := RX2) (lv0 := [(0, .ref a_this), (1, .int x1), (2, .int x2)]) (by decide +kernel) rfl rfl (Nat.le_of_ble_eq_true rfl) rfl (fun A x C R => ?_)
  refine j_aload_n C 0 dX2_give_0 rfl rfl ?_
  refine j_get C 0 2 1 (T := TX2) (N := 6) hi_X2_give_X2 rfl (by decide) (List.mem_of_getElem? (i := 1) rfl) rfl rfl rfl dX2_give_1 ?_
  refine j_aload_n C 0 dX2_give_4 rfl rfl ?_
  refine j_get C 0 2 4 (T := TX2) (N := 6) hi_X2_give_X2 rfl (by decide) (List.mem_of_getElem? (i := 2) rfl) rfl rfl rfl dX2_give_5 ?_
  refine j_bipush C dX2_give_8 (v := (24 : Int32)) (by decide) ?_
  refine j_imul C dX2_give_10 ?_
  refine j_iload_n C 1 dX2_give_11 rfl rfl ?_
  refine j_iadd C dX2_give_12 ?_
  refine j_iload_n C 2 dX2_give_13 rfl rfl ?_
  obtain ⟨k1, ek1, hk1, hw⟩ := hw
  refine j_iast C 1 k1 rfl ek1 hk1 (by decide) rfl dX2_give_14 ?_
  exact j_vret C R (upd f_owners k1 x2) dX2_give_15 rfl hw
theorem hd_X2_giveAway : yX2_giveAway.cls = RX2 ∧ yX2_giveAway.cls ≠ "java/lang/invoke/MethodHandle" ∧ yX2_giveAway.cls ≠ "java/lang/invoke/VarHandle" ∧ (parseMethodDescriptor yX2_giveAway.desc).map (fun d => d.parameters.length) = some 2 := by decide +kernel
set_option maxRecDepth 20000 in
set_option maxHeartbeats 4000000 in
theorem c_X2_giveAway (l : Launch) (g : gE) (a_this a_sorts a_owners a_worths a_gave a_p2 : Nat) (v_generation : Int32) (v_toll : Int32) (f_owners : (Nat → Int32)) (f_p2 : (Nat → Int32)) (x1 : Int32)  (K : (Nat → Int32) → Prop) (hw : wp_X2_giveAway v_generation f_owners f_p2 x1 K) : Cv l g yX2_giveAway wsX2_giveAway { frames := 2, cells := 0, slots := 0, locals := 43 } [.ref a_this, .int x1, .ref a_p2] [(a_this, .inr (2, [.ref a_sorts, .ref a_owners, .ref a_worths, .ref a_gave, .int v_generation, .int v_toll])), (a_owners, gI g 504 f_owners), (a_p2, gI g 24 f_p2)] (fun (u : (Nat → Int32)) => K u) (fun (u : (Nat → Int32)) => [(a_this, .inr (2, [.ref a_sorts, .ref a_owners, .ref a_worths, .ref a_gave, .int v_generation, .int v_toll])), (a_owners, gI g 504 u), (a_p2, gI g 24 f_p2)]) 0 0 := by
  refine Cv_of (cc := cX2_giveAway) (nL := 5) (ret := none) (own := RX2) (lv0 := [(0, .ref a_this), (1, .int x1), (2, .ref a_p2)]) (by decide +kernel) rfl rfl (Nat.le_of_ble_eq_true rfl) rfl (fun A x C R => ?_)
  refine j_iconst C dX2_giveAway_0 (v := (0 : Int32)) (by decide) ?_
  refine j_istore_n C [1, 2, 3, 0] dX2_giveAway_1 rfl (by decide) rfl ?_
  refine j_iconst C dX2_giveAway_2 (v := (0 : Int32)) (by decide) ?_
  refine j_istore C [1, 2, 3, 4, 0] dX2_giveAway_3 (by decide) rfl ?_
  refine lpW3_ind (G := fun x3 x4 f_owners => J l g A x 5 0 0 5 [(0, .ref a_this), (1, .int x1), (2, .ref a_p2), (3, .int x3), (4, .int x4)] [] [(a_this, .inr (2, [.ref a_sorts, .ref a_owners, .ref a_worths, .ref a_gave, .int v_generation, .int v_toll])), (a_owners, gI g 504 f_owners), (a_p2, gI g 24 f_p2)]) (fun L5 x3 x4 f_owners hL5 hw => ?_) _ _ _ hw
  refine j_iload C 4 dX2_giveAway_5 rfl ?_
  refine j_bipush C dX2_giveAway_7 (v := (24 : Int32)) (by decide) ?_
  refine j_icmp_ge C 40 dX2_giveAway_9 rfl (fun c => ?_) (fun c => ?_)
  · have hw := hw.1 c
    exact j_vret C R (f_owners) dX2_giveAway_40 rfl hw
  · have hw := hw.2 c
    refine j_aload_n C 0 dX2_giveAway_12 rfl rfl ?_
    refine j_iload C 4 dX2_giveAway_13 rfl ?_
    refine j_ri C (jc_V C (c_X2_ownerOf l g a_this a_sorts a_owners a_worths a_gave v_generation v_toll f_owners x4 _ hw) 1 gX2_giveAway_X2_ownerOf rfl rfl rfl hd_X2_ownerOf ⟨Nat.le_of_ble_eq_true rfl, Nat.le_of_ble_eq_true rfl⟩ (j_rec C 0 2 rfl rfl) [0, 1] rfl rfl (rest := []) rfl rfl (Nat.le_of_ble_eq_true rfl) dX2_giveAway_15 ⟨Nat.le_refl _, Nat.le_refl _⟩) [0, 1] rfl (fun _ => rfl) (fun r1 _ hw => ?_)
    try dsimp only at hw
    refine j_iload_n C 1 dX2_giveAway_18 rfl rfl ?_
    refine j_icmp_ne C 34 dX2_giveAway_19 rfl (fun c => ?_) (fun c => ?_)
    · have hw := hw.1 c
      obtain ⟨n2, en2⟩ : ∃ z : Int32, z = x4 + (1 : Int32) := ⟨_, rfl⟩
      have hw := hw n2 en2
      refine j_iinc C 4 [1, 2, 3, 4, 0] (v' := (1 : Int32)) dX2_giveAway_34 rfl (by decide) (by decide) rfl ?_
      rw [← en2]
      refine j_goto C 5 dX2_giveAway_37 rfl ?_
      exact hL5 _ _ _ hw
    · have hw := hw.2 c
      refine j_aload_n C 0 dX2_giveAway_22 rfl rfl ?_
      refine j_iload C 4 dX2_giveAway_23 rfl ?_
      refine j_aload_n C 2 dX2_giveAway_25 rfl rfl ?_
      refine j_iload_n C 3 dX2_giveAway_26 rfl rfl ?_
      obtain ⟨k3, ek3, hk3, hw⟩ := hw
      refine j_iald C 2 k3 rfl ek3 hk3 (by decide) dX2_giveAway_27 ?_
      obtain ⟨n4, en4⟩ : ∃ z : Int32, z = f_p2 k3 := ⟨_, rfl⟩
      have hw := hw n4 en4
      rw [← en4]
      refine j_rwv C (jc_V C (c_X2_give l g a_this a_sorts a_owners a_worths a_gave v_generation v_toll f_owners x4 n4 _ hw) 2 gX2_giveAway_X2_give rfl rfl rfl hd_X2_give ⟨Nat.le_of_ble_eq_true rfl, Nat.le_of_ble_eq_true rfl⟩ (j_rec C 0 2 rfl rfl) [0, 1] rfl rfl (rest := []) rfl rfl (Nat.le_of_ble_eq_true rfl) dX2_giveAway_28 ⟨Nat.le_refl _, Nat.le_refl _⟩) [0, 1] [2] [1, 2, 0] (ws' := fun u => [(a_this, .inr (2, [.ref a_sorts, .ref a_owners, .ref a_worths, .ref a_gave, .int v_generation, .int v_toll])), (a_owners, gI g 504 u), (a_p2, gI g 24 f_p2)]) rfl rfl rfl (by decide) rfl (fun _ => rfl) (fun u hw => ?_)
      obtain ⟨u5, eu5⟩ : ∃ z, z = u := ⟨_, rfl⟩
      subst eu5
      try dsimp only at hw
      show J l g A x 5 0 0 31 [(0, .ref a_this), (1, .int x1), (2, .ref a_p2), (3, .int x3), (4, .int x4)] [] [(a_this, .inr (2, [.ref a_sorts, .ref a_owners, .ref a_worths, .ref a_gave, .int v_generation, .int v_toll])), (a_owners, gI g 504 u5), (a_p2, gI g 24 f_p2)]
      obtain ⟨n6, en6⟩ : ∃ z : Int32, z = x3 + (1 : Int32) := ⟨_, rfl⟩
      have hw := hw n6 en6
      refine j_iinc C 3 [1, 2, 3, 0, 4] (v' := (1 : Int32)) dX2_giveAway_31 rfl (by decide) (by decide) rfl ?_
      rw [← en6]
      obtain ⟨n7, en7⟩ : ∃ z : Int32, z = x4 + (1 : Int32) := ⟨_, rfl⟩
      have hw := hw n7 en7
      refine j_iinc C 4 [1, 2, 3, 4, 0] (v' := (1 : Int32)) dX2_giveAway_34 rfl (by decide) (by decide) rfl ?_
      rw [← en7]
      refine j_goto C 5 dX2_giveAway_37 rfl ?_
      exact hL5 _ _ _ hw
theorem hd_X2_join : yX2_join.cls = RX2 ∧ yX2_join.cls ≠ "java/lang/invoke/MethodHandle" ∧ yX2_join.cls ≠ "java/lang/invoke/VarHandle" ∧ (parseMethodDescriptor yX2_join.desc).map (fun d => d.parameters.length) = some 2 := by decide +kernel
set_option maxRecDepth 20000 in
set_option maxHeartbeats 4000000 in
theorem c_X2_join (l : Launch) (g : gE) (a_this a_sorts a_owners a_worths a_gave : Nat) (v_generation : Int32) (v_toll : Int32) (f_owners : (Nat → Int32)) (x1 : Int32) (x2 : Int32)  (K : (Nat → Int32) → Prop) (hw : wp_X2_join v_generation f_owners x1 x2 K) : Cv l g yX2_join wsX2_join { frames := 2, cells := 0, slots := 0, locals := 43 } [.ref a_this, .int x1, .int x2] [(a_this, .inr (2, [.ref a_sorts, .ref a_owners, .ref a_worths, .ref a_gave, .int v_generation, .int v_toll])), (a_owners, gI g 504 f_owners)] (fun (u : (Nat → Int32)) => K u) (fun (u : (Nat → Int32)) => [(a_this, .inr (2, [.ref a_sorts, .ref a_owners, .ref a_worths, .ref a_gave, .int v_generation, .int v_toll])), (a_owners, gI g 504 u)]) 0 0 := by
  refine Cv_of (cc := cX2_join) (nL := 4) (ret := none) (own := RX2) (lv0 := [(0, .ref a_this), (1, .int x1), (2, .int x2)]) (by decide +kernel) rfl rfl (Nat.le_of_ble_eq_true rfl) rfl (fun A x C R => ?_)
  refine j_iconst C dX2_join_0 (v := (0 : Int32)) (by decide) ?_
  refine j_istore_n C [1, 2, 3, 0] dX2_join_1 rfl (by decide) rfl ?_
  refine lpW2_ind (G := fun x3 f_owners => J l g A x 4 0 0 2 [(0, .ref a_this), (1, .int x1), (2, .int x2), (3, .int x3)] [] [(a_this, .inr (2, [.ref a_sorts, .ref a_owners, .ref a_worths, .ref a_gave, .int v_generation, .int v_toll])), (a_owners, gI g 504 f_owners)]) (fun L2 x3 f_owners hL2 hw => ?_) _ _ hw
  refine j_iload_n C 3 dX2_join_2 rfl rfl ?_
  refine j_bipush C dX2_join_3 (v := (24 : Int32)) (by decide) ?_
  refine j_icmp_ge C 29 dX2_join_5 rfl (fun c => ?_) (fun c => ?_)
  · have hw := hw.1 c
    exact j_vret C R (f_owners) dX2_join_29 rfl hw
  · have hw := hw.2 c
    refine j_aload_n C 0 dX2_join_8 rfl rfl ?_
    refine j_iload_n C 3 dX2_join_9 rfl rfl ?_
    refine j_ri C (jc_V C (c_X2_ownerOf l g a_this a_sorts a_owners a_worths a_gave v_generation v_toll f_owners x3 _ hw) 1 gX2_join_X2_ownerOf rfl rfl rfl hd_X2_ownerOf ⟨Nat.le_of_ble_eq_true rfl, Nat.le_of_ble_eq_true rfl⟩ (j_rec C 0 2 rfl rfl) [0, 1] rfl rfl (rest := []) rfl rfl (Nat.le_of_ble_eq_true rfl) dX2_join_10 ⟨Nat.le_refl _, Nat.le_refl _⟩) [0, 1] rfl (fun _ => rfl) (fun r1 _ hw => ?_)
    try dsimp only at hw
    refine j_iload_n C 2 dX2_join_13 rfl rfl ?_
    refine j_icmp_ne C 23 dX2_join_14 rfl (fun c => ?_) (fun c => ?_)
    · have hw := hw.1 c
      obtain ⟨n2, en2⟩ : ∃ z : Int32, z = x3 + (1 : Int32) := ⟨_, rfl⟩
      have hw := hw n2 en2
      refine j_iinc C 3 [1, 2, 3, 0] (v' := (1 : Int32)) dX2_join_23 rfl (by decide) (by decide) rfl ?_
      rw [← en2]
      refine j_goto C 2 dX2_join_26 rfl ?_
      exact hL2 _ _ hw
    · have hw := hw.2 c
      refine j_aload_n C 0 dX2_join_17 rfl rfl ?_
      refine j_iload_n C 3 dX2_join_18 rfl rfl ?_
      refine j_iload_n C 1 dX2_join_19 rfl rfl ?_
      refine j_rwv C (jc_V C (c_X2_give l g a_this a_sorts a_owners a_worths a_gave v_generation v_toll f_owners x3 x1 _ hw) 2 gX2_join_X2_give rfl rfl rfl hd_X2_give ⟨Nat.le_of_ble_eq_true rfl, Nat.le_of_ble_eq_true rfl⟩ (j_rec C 0 2 rfl rfl) [0, 1] rfl rfl (rest := []) rfl rfl (Nat.le_of_ble_eq_true rfl) dX2_join_20 ⟨Nat.le_refl _, Nat.le_refl _⟩) [0, 1] [] [0, 1] (ws' := fun u => [(a_this, .inr (2, [.ref a_sorts, .ref a_owners, .ref a_worths, .ref a_gave, .int v_generation, .int v_toll])), (a_owners, gI g 504 u)]) rfl rfl rfl (by decide) rfl (fun _ => rfl) (fun u hw => ?_)
      obtain ⟨u3, eu3⟩ : ∃ z, z = u := ⟨_, rfl⟩
      subst eu3
      try dsimp only at hw
      show J l g A x 4 0 0 23 [(0, .ref a_this), (1, .int x1), (2, .int x2), (3, .int x3)] [] [(a_this, .inr (2, [.ref a_sorts, .ref a_owners, .ref a_worths, .ref a_gave, .int v_generation, .int v_toll])), (a_owners, gI g 504 u3)]
      obtain ⟨n4, en4⟩ : ∃ z : Int32, z = x3 + (1 : Int32) := ⟨_, rfl⟩
      have hw := hw n4 en4
      refine j_iinc C 3 [1, 2, 3, 0] (v' := (1 : Int32)) dX2_join_23 rfl (by decide) (by decide) rfl ?_
      rw [← en4]
      refine j_goto C 2 dX2_join_26 rfl ?_
      exact hL2 _ _ hw
theorem hi_X2_setWorth_X2 : ∀ w ∈ wsX20, w ∈ wsX2_setWorth := fun _ h => List.mem_cons_of_mem _ (List.mem_append_right _ h)
theorem hd_X2_setWorth : yX2_setWorth.cls = RX2 ∧ yX2_setWorth.cls ≠ "java/lang/invoke/MethodHandle" ∧ yX2_setWorth.cls ≠ "java/lang/invoke/VarHandle" ∧ (parseMethodDescriptor yX2_setWorth.desc).map (fun d => d.parameters.length) = some 3 := by decide +kernel
set_option maxRecDepth 20000 in
set_option maxHeartbeats 4000000 in
theorem c_X2_setWorth (l : Launch) (g : gE) (a_this a_sorts a_owners a_worths a_gave : Nat) (v_generation : Int32) (v_toll : Int32) (f_worths : (Nat → Int32)) (x1 : Int32) (x2 : Int32) (x3 : Int32)  (K : Int32 → (Nat → Int32) → Prop) (hw : wp_X2_setWorth f_worths x1 x2 x3 K) : Ci l g yX2_setWorth wsX2_setWorth { frames := 0, cells := 0, slots := 0, locals := 0 } [.ref a_this, .int x1, .int x2, .int x3] [(a_this, .inr (2, [.ref a_sorts, .ref a_owners, .ref a_worths, .ref a_gave, .int v_generation, .int v_toll])), (a_worths, gI g 30 f_worths)] (fun (r : Int32) (u : (Nat → Int32)) => K r u) (fun (u : (Nat → Int32)) => [(a_this, .inr (2, [.ref a_sorts, .ref a_owners, .ref a_worths, .ref a_gave, .int v_generation, .int v_toll])), (a_worths, gI g 30 u)]) 0 0 := by
  refine Ci_of (cc := cX2_setWorth) (nL := 5) (ret := (some .int)) (own := RX2) (lv0 := [(0, .ref a_this), (1, .int x1), (2, .int x2), (3, .int x3)]) (by decide +kernel) rfl rfl (Nat.le_of_ble_eq_true rfl) rfl (fun A x C R => ?_)
  refine j_aload_n C 0 dX2_setWorth_0 rfl rfl ?_
  refine j_get C 0 2 2 (T := TX2) (N := 6) hi_X2_setWorth_X2 rfl (by decide) (List.mem_of_getElem? (i := 1) rfl) rfl rfl rfl dX2_setWorth_1 ?_
  refine j_iload_n C 1 dX2_setWorth_4 rfl rfl ?_
  refine j_iconst C dX2_setWorth_5 (v := (5 : Int32)) (by decide) ?_
  refine j_imul C dX2_setWorth_6 ?_
  refine j_iload_n C 2 dX2_setWorth_7 rfl rfl ?_
  refine j_iadd C dX2_setWorth_8 ?_
  obtain ⟨k1, ek1, hk1, hw⟩ := hw
  refine j_iald C 1 k1 rfl ek1 hk1 (by decide) dX2_setWorth_9 ?_
  refine j_top (fun n2 en2 => ?_)
  have hw := hw n2 en2
  refine j_istore C [1, 2, 3, 4, 0] dX2_setWorth_10 (by decide) rfl ?_
  refine j_aload_n C 0 dX2_setWorth_12 rfl rfl ?_
  refine j_get C 0 2 2 (T := TX2) (N := 6) hi_X2_setWorth_X2 rfl (by decide) (List.mem_of_getElem? (i := 1) rfl) rfl rfl rfl dX2_setWorth_13 ?_
  refine j_iload_n C 1 dX2_setWorth_16 rfl rfl ?_
  refine j_iconst C dX2_setWorth_17 (v := (5 : Int32)) (by decide) ?_
  refine j_imul C dX2_setWorth_18 ?_
  refine j_iload_n C 2 dX2_setWorth_19 rfl rfl ?_
  refine j_iadd C dX2_setWorth_20 ?_
  refine j_iload_n C 3 dX2_setWorth_21 rfl rfl ?_
  obtain ⟨k3, ek3, hk3, hw⟩ := hw
  refine j_iast C 1 k3 rfl ek3 hk3 (by decide) rfl dX2_setWorth_22 ?_
  refine j_iload C 4 dX2_setWorth_23 rfl ?_
  exact j_iret C R (upd f_worths k3 x3) rfl dX2_setWorth_25 rfl hw
theorem hi_X2_shareOfSector_X2 : ∀ w ∈ wsX20, w ∈ wsX2_shareOfSector := fun _ h => List.mem_cons_of_mem _ (List.mem_append_right _ h)
theorem hd_X2_shareOfSector : yX2_shareOfSector.cls = RX2 ∧ yX2_shareOfSector.cls ≠ "java/lang/invoke/MethodHandle" ∧ yX2_shareOfSector.cls ≠ "java/lang/invoke/VarHandle" ∧ (parseMethodDescriptor yX2_shareOfSector.desc).map (fun d => d.parameters.length) = some 2 := by decide +kernel
set_option maxRecDepth 20000 in
set_option maxHeartbeats 4000000 in
theorem c_X2_shareOfSector (l : Launch) (g : gE) (a_this a_sorts a_owners a_worths a_gave : Nat) (v_generation : Int32) (v_toll : Int32) (f_sorts : (Nat → Int32)) (f_worths : (Nat → Int32)) (x1 : Int32) (x2 : Int32)  (K : Int32 → Prop) (hw : wp_X2_shareOfSector f_sorts f_worths x1 x2 K) : Ci l g yX2_shareOfSector wsX2_shareOfSector { frames := 1, cells := 0, slots := 0, locals := 22 } [.ref a_this, .int x1, .int x2] [(a_this, .inr (2, [.ref a_sorts, .ref a_owners, .ref a_worths, .ref a_gave, .int v_generation, .int v_toll])), (a_sorts, gI g 120 f_sorts), (a_worths, gI g 30 f_worths)] (fun (r : Int32) (_ : Unit) => K r) (fun (_ : Unit) => [(a_this, .inr (2, [.ref a_sorts, .ref a_owners, .ref a_worths, .ref a_gave, .int v_generation, .int v_toll])), (a_sorts, gI g 120 f_sorts), (a_worths, gI g 30 f_worths)]) 0 0 := by
  refine Ci_of (cc := cX2_shareOfSector) (nL := 5) (ret := (some .int)) (own := RX2) (lv0 := [(0, .ref a_this), (1, .int x1), (2, .int x2)]) (by decide +kernel) rfl rfl (Nat.le_of_ble_eq_true rfl) rfl (fun A x C R => ?_)
  refine j_iconst C dX2_shareOfSector_0 (v := (0 : Int32)) (by decide) ?_
  refine j_istore_n C [1, 2, 3, 0] dX2_shareOfSector_1 rfl (by decide) rfl ?_
  refine j_iconst C dX2_shareOfSector_2 (v := (0 : Int32)) (by decide) ?_
  refine j_istore C [1, 2, 3, 4, 0] dX2_shareOfSector_3 (by decide) rfl ?_
  refine lpW2_ind (G := fun x3 x4 => J l g A x 5 0 0 5 [(0, .ref a_this), (1, .int x1), (2, .int x2), (3, .int x3), (4, .int x4)] [] [(a_this, .inr (2, [.ref a_sorts, .ref a_owners, .ref a_worths, .ref a_gave, .int v_generation, .int v_toll])), (a_sorts, gI g 120 f_sorts), (a_worths, gI g 30 f_worths)]) (fun L5 x3 x4 hL5 hw => ?_) _ _ hw
  refine j_iload C 4 dX2_shareOfSector_5 rfl ?_
  refine j_iconst C dX2_shareOfSector_7 (v := (5 : Int32)) (by decide) ?_
  refine j_icmp_ge C 36 dX2_shareOfSector_8 rfl (fun c => ?_) (fun c => ?_)
  · have hw := hw.1 c
    refine j_iload_n C 3 dX2_shareOfSector_36 rfl rfl ?_
    exact j_iret C R () rfl dX2_shareOfSector_37 rfl hw
  · have hw := hw.2 c
    refine j_iload_n C 3 dX2_shareOfSector_11 rfl rfl ?_
    refine j_aload_n C 0 dX2_shareOfSector_12 rfl rfl ?_
    refine j_get C 0 2 2 (T := TX2) (N := 6) hi_X2_shareOfSector_X2 rfl (by decide) (List.mem_of_getElem? (i := 1) rfl) rfl rfl rfl dX2_shareOfSector_13 ?_
    refine j_iload_n C 1 dX2_shareOfSector_16 rfl rfl ?_
    refine j_iconst C dX2_shareOfSector_17 (v := (5 : Int32)) (by decide) ?_
    refine j_imul C dX2_shareOfSector_18 ?_
    refine j_aload_n C 0 dX2_shareOfSector_19 rfl rfl ?_
    refine j_iload C 4 dX2_shareOfSector_20 rfl ?_
    refine j_iload_n C 2 dX2_shareOfSector_22 rfl rfl ?_
    refine j_ri C (jc_V C (c_X2_sortAt l g a_this a_sorts a_owners a_worths a_gave v_generation v_toll f_sorts x4 x2 _ hw) 2 gX2_shareOfSector_X2_sortAt rfl rfl rfl hd_X2_sortAt ⟨Nat.le_of_ble_eq_true rfl, Nat.le_of_ble_eq_true rfl⟩ (j_rec C 0 2 rfl rfl) [0, 1] rfl rfl (rest := [.int (x1 * (5 : Int32)), .ref a_worths, .int x3]) rfl rfl (Nat.le_of_ble_eq_true rfl) dX2_shareOfSector_23 ⟨Nat.le_refl _, Nat.le_refl _⟩) [0, 1] rfl (fun _ => rfl) (fun r1 _ hw => ?_)
    try dsimp only at hw
    refine j_iadd C dX2_shareOfSector_26 ?_
    obtain ⟨k2, ek2, hk2, hw⟩ := hw
    refine j_iald C 2 k2 rfl ek2 hk2 (by decide) dX2_shareOfSector_27 ?_
    refine j_iadd C dX2_shareOfSector_28 ?_
    refine j_top (fun n3 en3 => ?_)
    have hw := hw n3 en3
    refine j_istore_n C [1, 2, 3, 0, 4] dX2_shareOfSector_29 rfl (by decide) rfl ?_
    obtain ⟨n4, en4⟩ : ∃ z : Int32, z = x4 + (1 : Int32) := ⟨_, rfl⟩
    have hw := hw n4 en4
    refine j_iinc C 4 [1, 2, 3, 4, 0] (v' := (1 : Int32)) dX2_shareOfSector_30 rfl (by decide) (by decide) rfl ?_
    rw [← en4]
    refine j_goto C 5 dX2_shareOfSector_33 rfl ?_
    exact hL5 _ _ hw
theorem hd_X2_shareOf : yX2_shareOf.cls = RX2 ∧ yX2_shareOf.cls ≠ "java/lang/invoke/MethodHandle" ∧ yX2_shareOf.cls ≠ "java/lang/invoke/VarHandle" ∧ (parseMethodDescriptor yX2_shareOf.desc).map (fun d => d.parameters.length) = some 2 := by decide +kernel
set_option maxRecDepth 20000 in
set_option maxHeartbeats 4000000 in
theorem c_X2_shareOf (l : Launch) (g : gE) (a_this a_sorts a_owners a_worths a_gave : Nat) (v_generation : Int32) (v_toll : Int32) (f_sorts : (Nat → Int32)) (f_worths : (Nat → Int32)) (x1 : Int32) (x2 : Int32)  (K : Int32 → Prop) (hw : wp_X2_shareOf f_sorts f_worths x1 x2 K) : Ci l g yX2_shareOf wsX2_shareOf { frames := 2, cells := 0, slots := 0, locals := 46 } [.ref a_this, .int x1, .int x2] [(a_this, .inr (2, [.ref a_sorts, .ref a_owners, .ref a_worths, .ref a_gave, .int v_generation, .int v_toll])), (a_sorts, gI g 120 f_sorts), (a_worths, gI g 30 f_worths)] (fun (r : Int32) (_ : Unit) => K r) (fun (_ : Unit) => [(a_this, .inr (2, [.ref a_sorts, .ref a_owners, .ref a_worths, .ref a_gave, .int v_generation, .int v_toll])), (a_sorts, gI g 120 f_sorts), (a_worths, gI g 30 f_worths)]) 0 0 := by
  refine Ci_of (cc := cX2_shareOf) (nL := 5) (ret := (some .int)) (own := RX2) (lv0 := [(0, .ref a_this), (1, .int x1), (2, .int x2)]) (by decide +kernel) rfl rfl (Nat.le_of_ble_eq_true rfl) rfl (fun A x C R => ?_)
  refine j_iconst C dX2_shareOf_0 (v := (0 : Int32)) (by decide) ?_
  refine j_istore_n C [1, 2, 3, 0] dX2_shareOf_1 rfl (by decide) rfl ?_
  refine j_iconst C dX2_shareOf_2 (v := (0 : Int32)) (by decide) ?_
  refine j_istore C [1, 2, 3, 4, 0] dX2_shareOf_3 (by decide) rfl ?_
  refine lpW2_ind (G := fun x3 x4 => J l g A x 5 0 0 5 [(0, .ref a_this), (1, .int x1), (2, .int x2), (3, .int x3), (4, .int x4)] [] [(a_this, .inr (2, [.ref a_sorts, .ref a_owners, .ref a_worths, .ref a_gave, .int v_generation, .int v_toll])), (a_sorts, gI g 120 f_sorts), (a_worths, gI g 30 f_worths)]) (fun L5 x3 x4 hL5 hw => ?_) _ _ hw
  refine j_iload C 4 dX2_shareOf_5 rfl ?_
  refine j_bipush C dX2_shareOf_7 (v := (24 : Int32)) (by decide) ?_
  refine j_icmp_ge C 37 dX2_shareOf_9 rfl (fun c => ?_) (fun c => ?_)
  · have hw := hw.1 c
    refine j_iload_n C 3 dX2_shareOf_37 rfl rfl ?_
    exact j_iret C R () rfl dX2_shareOf_38 rfl hw
  · have hw := hw.2 c
    refine j_iload_n C 2 dX2_shareOf_12 rfl rfl ?_
    refine j_iload C 4 dX2_shareOf_13 rfl ?_
    refine j_ishr C dX2_shareOf_15 ?_
    refine j_iconst C dX2_shareOf_16 (v := (1 : Int32)) (by decide) ?_
    refine j_iand C dX2_shareOf_17 ?_
    refine j_if_eq C 31 dX2_shareOf_18 rfl (fun c => ?_) (fun c => ?_)
    · have hw := hw.1 c
      obtain ⟨n1, en1⟩ : ∃ z : Int32, z = x4 + (1 : Int32) := ⟨_, rfl⟩
      have hw := hw n1 en1
      refine j_iinc C 4 [1, 2, 3, 4, 0] (v' := (1 : Int32)) dX2_shareOf_31 rfl (by decide) (by decide) rfl ?_
      rw [← en1]
      refine j_goto C 5 dX2_shareOf_34 rfl ?_
      exact hL5 _ _ hw
    · have hw := hw.2 c
      refine j_iload_n C 3 dX2_shareOf_21 rfl rfl ?_
      refine j_aload_n C 0 dX2_shareOf_22 rfl rfl ?_
      refine j_iload_n C 1 dX2_shareOf_23 rfl rfl ?_
      refine j_iload C 4 dX2_shareOf_24 rfl ?_
      refine j_ri C (jc_V C (c_X2_shareOfSector l g a_this a_sorts a_owners a_worths a_gave v_generation v_toll f_sorts f_worths x1 x4 _ hw) 2 gX2_shareOf_X2_shareOfSector rfl rfl rfl hd_X2_shareOfSector ⟨Nat.le_of_ble_eq_true rfl, Nat.le_of_ble_eq_true rfl⟩ (j_rec C 0 2 rfl rfl) [0, 1, 2] rfl rfl (rest := [.int x3]) rfl rfl (Nat.le_of_ble_eq_true rfl) dX2_shareOf_26 ⟨Nat.le_refl _, Nat.le_refl _⟩) [0, 1, 2] rfl (fun _ => rfl) (fun r2 _ hw => ?_)
      try dsimp only at hw
      refine j_iadd C dX2_shareOf_29 ?_
      refine j_top (fun n3 en3 => ?_)
      have hw := hw n3 en3
      refine j_istore_n C [1, 2, 3, 0, 4] dX2_shareOf_30 rfl (by decide) rfl ?_
      obtain ⟨n4, en4⟩ : ∃ z : Int32, z = x4 + (1 : Int32) := ⟨_, rfl⟩
      have hw := hw n4 en4
      refine j_iinc C 4 [1, 2, 3, 4, 0] (v' := (1 : Int32)) dX2_shareOf_31 rfl (by decide) (by decide) rfl ?_
      rw [← en4]
      refine j_goto C 5 dX2_shareOf_34 rfl ?_
      exact hL5 _ _ hw
theorem hi_X2_hasRight_X2 : ∀ w ∈ wsX20, w ∈ wsX2_hasRight := fun _ h => List.mem_cons_of_mem _ (List.mem_append_right _ h)
theorem hd_X2_hasRight : yX2_hasRight.cls = RX2 ∧ yX2_hasRight.cls ≠ "java/lang/invoke/MethodHandle" ∧ yX2_hasRight.cls ≠ "java/lang/invoke/VarHandle" ∧ (parseMethodDescriptor yX2_hasRight.desc).map (fun d => d.parameters.length) = some 2 := by decide +kernel
set_option maxRecDepth 20000 in
set_option maxHeartbeats 4000000 in
theorem c_X2_hasRight (l : Launch) (g : gE) (a_this a_sorts a_owners a_worths a_gave : Nat) (v_generation : Int32) (v_toll : Int32) (f_gave : (Nat → Int32)) (x1 : Int32) (x2 : Int32)  (K : Int32 → Prop) (hw : wp_X2_hasRight f_gave x1 x2 K) : Ci l g yX2_hasRight wsX2_hasRight { frames := 0, cells := 0, slots := 0, locals := 0 } [.ref a_this, .int x1, .int x2] [(a_this, .inr (2, [.ref a_sorts, .ref a_owners, .ref a_worths, .ref a_gave, .int v_generation, .int v_toll])), (a_gave, gI g 6 f_gave)] (fun (r : Int32) (_ : Unit) => K r) (fun (_ : Unit) => [(a_this, .inr (2, [.ref a_sorts, .ref a_owners, .ref a_worths, .ref a_gave, .int v_generation, .int v_toll])), (a_gave, gI g 6 f_gave)]) 0 0 := by
  refine Ci_of (cc := cX2_hasRight) (nL := 3) (ret := (some .boolean)) (own := RX2) (lv0 := [(0, .ref a_this), (1, .int x1), (2, .int x2)]) (by decide +kernel) rfl rfl (Nat.le_of_ble_eq_true rfl) rfl (fun A x C R => ?_)
  refine j_aload_n C 0 dX2_hasRight_0 rfl rfl ?_
  refine j_get C 0 2 3 (T := TX2) (N := 6) hi_X2_hasRight_X2 rfl (by decide) (List.mem_of_getElem? (i := 1) rfl) rfl rfl rfl dX2_hasRight_1 ?_
  refine j_iload_n C 2 dX2_hasRight_4 rfl rfl ?_
  obtain ⟨k1, ek1, hk1, hw⟩ := hw
  refine j_iald C 1 k1 rfl ek1 hk1 (by decide) dX2_hasRight_5 ?_
  refine j_iload_n C 1 dX2_hasRight_6 rfl rfl ?_
  refine j_ishr C dX2_hasRight_7 ?_
  refine j_iconst C dX2_hasRight_8 (v := (1 : Int32)) (by decide) ?_
  refine j_iand C dX2_hasRight_9 ?_
  refine j_if_eq C 17 dX2_hasRight_10 rfl (fun c => ?_) (fun c => ?_)
  · have hw := hw.1 c
    refine j_iconst C dX2_hasRight_17 (v := (0 : Int32)) (by decide) ?_
    exact j_iret C R () rfl dX2_hasRight_18 rfl hw
  · have hw := hw.2 c
    refine j_iconst C dX2_hasRight_13 (v := (1 : Int32)) (by decide) ?_
    refine j_goto C 18 dX2_hasRight_14 rfl ?_
    exact j_iret C R () rfl dX2_hasRight_18 rfl hw
theorem hi_X2_setRight_X2 : ∀ w ∈ wsX20, w ∈ wsX2_setRight := fun _ h => List.mem_cons_of_mem _ (List.mem_append_right _ h)
theorem hd_X2_setRight : yX2_setRight.cls = RX2 ∧ yX2_setRight.cls ≠ "java/lang/invoke/MethodHandle" ∧ yX2_setRight.cls ≠ "java/lang/invoke/VarHandle" ∧ (parseMethodDescriptor yX2_setRight.desc).map (fun d => d.parameters.length) = some 3 := by decide +kernel
set_option maxRecDepth 20000 in
set_option maxHeartbeats 4000000 in
theorem c_X2_setRight (l : Launch) (g : gE) (a_this a_sorts a_owners a_worths a_gave : Nat) (v_generation : Int32) (v_toll : Int32) (f_gave : (Nat → Int32)) (x1 : Int32) (x2 : Int32) (x3 : Int32)  (K : Int32 → (Nat → Int32) → Prop) (hw : wp_X2_setRight f_gave x1 x2 x3 K) : Ci l g yX2_setRight wsX2_setRight { frames := 1, cells := 0, slots := 0, locals := 22 } [.ref a_this, .int x1, .int x2, .int x3] [(a_this, .inr (2, [.ref a_sorts, .ref a_owners, .ref a_worths, .ref a_gave, .int v_generation, .int v_toll])), (a_gave, gI g 6 f_gave)] (fun (r : Int32) (u : (Nat → Int32)) => K r u) (fun (u : (Nat → Int32)) => [(a_this, .inr (2, [.ref a_sorts, .ref a_owners, .ref a_worths, .ref a_gave, .int v_generation, .int v_toll])), (a_gave, gI g 6 u)]) 0 0 := by
  refine Ci_of (cc := cX2_setRight) (nL := 6) (ret := (some .boolean)) (own := RX2) (lv0 := [(0, .ref a_this), (1, .int x1), (2, .int x2), (3, .int x3)]) (by decide +kernel) rfl rfl (Nat.le_of_ble_eq_true rfl) rfl (fun A x C R => ?_)
  refine j_aload_n C 0 dX2_setRight_0 rfl rfl ?_
  refine j_iload_n C 2 dX2_setRight_1 rfl rfl ?_
  refine j_iload_n C 1 dX2_setRight_2 rfl rfl ?_
  refine j_ri C (jc_V C (c_X2_hasRight l g a_this a_sorts a_owners a_worths a_gave v_generation v_toll f_gave x2 x1 _ hw) 2 gX2_setRight_X2_hasRight rfl rfl rfl hd_X2_hasRight ⟨Nat.le_of_ble_eq_true rfl, Nat.le_of_ble_eq_true rfl⟩ (j_rec C 0 2 rfl rfl) [0, 1] rfl rfl (rest := []) rfl rfl (Nat.le_of_ble_eq_true rfl) dX2_setRight_3 ⟨Nat.le_refl _, Nat.le_refl _⟩) [0, 1] rfl (fun _ => rfl) (fun r1 _ hw => ?_)
  try dsimp only at hw
  refine j_istore C [1, 2, 3, 4, 0] dX2_setRight_6 (by decide) rfl ?_
  refine j_iconst C dX2_setRight_8 (v := (1 : Int32)) (by decide) ?_
  refine j_iload_n C 2 dX2_setRight_9 rfl rfl ?_
  refine j_ishl C dX2_setRight_10 ?_
  refine j_top (fun n2 en2 => ?_)
  have hw := hw n2 en2
  refine j_istore C [1, 2, 3, 4, 5, 0] dX2_setRight_11 (by decide) rfl ?_
  refine j_aload_n C 0 dX2_setRight_13 rfl rfl ?_
  refine j_get C 0 2 3 (T := TX2) (N := 6) hi_X2_setRight_X2 rfl (by decide) (List.mem_of_getElem? (i := 1) rfl) rfl rfl rfl dX2_setRight_14 ?_
  refine j_iload_n C 1 dX2_setRight_17 rfl rfl ?_
  refine j_iload_n C 3 dX2_setRight_18 rfl rfl ?_
  refine j_if_eq C 34 dX2_setRight_19 rfl (fun c => ?_) (fun c => ?_)
  · have hw := hw.1 c
    refine j_aload_n C 0 dX2_setRight_34 rfl rfl ?_
    refine j_get C 0 2 3 (T := TX2) (N := 6) hi_X2_setRight_X2 rfl (by decide) (List.mem_of_getElem? (i := 1) rfl) rfl rfl rfl dX2_setRight_35 ?_
    refine j_iload_n C 1 dX2_setRight_38 rfl rfl ?_
    obtain ⟨k3, ek3, hk3, hw⟩ := hw
    refine j_iald C 1 k3 rfl ek3 hk3 (by decide) dX2_setRight_39 ?_
    refine j_iload C 5 dX2_setRight_40 rfl ?_
    refine j_iconst C dX2_setRight_42 (v := (-1 : Int32)) (by decide) ?_
    refine j_ixor C dX2_setRight_43 ?_
    refine j_iand C dX2_setRight_44 ?_
    refine j_top (fun n4 en4 => ?_)
    have hw := hw n4 en4
    obtain ⟨k5, ek5, hk5, hw⟩ := hw
    refine j_iast C 1 k5 rfl ek5 hk5 (by decide) rfl dX2_setRight_45 ?_
    refine j_iload C 4 dX2_setRight_46 rfl ?_
    obtain ⟨hn, hw⟩ := hw
    exact j_iret C R (upd f_gave k5 n4) hn dX2_setRight_48 rfl hw
  · have hw := hw.2 c
    refine j_aload_n C 0 dX2_setRight_22 rfl rfl ?_
    refine j_get C 0 2 3 (T := TX2) (N := 6) hi_X2_setRight_X2 rfl (by decide) (List.mem_of_getElem? (i := 1) rfl) rfl rfl rfl dX2_setRight_23 ?_
    refine j_iload_n C 1 dX2_setRight_26 rfl rfl ?_
    obtain ⟨k6, ek6, hk6, hw⟩ := hw
    refine j_iald C 1 k6 rfl ek6 hk6 (by decide) dX2_setRight_27 ?_
    refine j_iload C 5 dX2_setRight_28 rfl ?_
    refine j_ior C dX2_setRight_30 ?_
    refine j_goto C 45 dX2_setRight_31 rfl ?_
    refine j_top (fun n7 en7 => ?_)
    have hw := hw n7 en7
    obtain ⟨k8, ek8, hk8, hw⟩ := hw
    refine j_iast C 1 k8 rfl ek8 hk8 (by decide) rfl dX2_setRight_45 ?_
    refine j_iload C 4 dX2_setRight_46 rfl ?_
    obtain ⟨hn, hw⟩ := hw
    exact j_iret C R (upd f_gave k8 n7) hn dX2_setRight_48 rfl hw
theorem hd_X2_isFreeFor : yX2_isFreeFor.cls = RX2 ∧ yX2_isFreeFor.cls ≠ "java/lang/invoke/MethodHandle" ∧ yX2_isFreeFor.cls ≠ "java/lang/invoke/VarHandle" ∧ (parseMethodDescriptor yX2_isFreeFor.desc).map (fun d => d.parameters.length) = some 2 := by decide +kernel
set_option maxRecDepth 20000 in
set_option maxHeartbeats 4000000 in
theorem c_X2_isFreeFor (l : Launch) (g : gE) (a_this a_sorts a_owners a_worths a_gave : Nat) (v_generation : Int32) (v_toll : Int32) (f_owners : (Nat → Int32)) (f_gave : (Nat → Int32)) (x1 : Int32) (x2 : Int32)  (K : Int32 → Prop) (hw : wp_X2_isFreeFor v_generation f_owners f_gave x1 x2 K) : Ci l g yX2_isFreeFor wsX2_isFreeFor { frames := 2, cells := 0, slots := 0, locals := 43 } [.ref a_this, .int x1, .int x2] [(a_this, .inr (2, [.ref a_sorts, .ref a_owners, .ref a_worths, .ref a_gave, .int v_generation, .int v_toll])), (a_owners, gI g 504 f_owners), (a_gave, gI g 6 f_gave)] (fun (r : Int32) (_ : Unit) => K r) (fun (_ : Unit) => [(a_this, .inr (2, [.ref a_sorts, .ref a_owners, .ref a_worths, .ref a_gave, .int v_generation, .int v_toll])), (a_owners, gI g 504 f_owners), (a_gave, gI g 6 f_gave)]) 0 0 := by
  refine Ci_of (cc := cX2_isFreeFor) (nL := 4) (ret := (some .boolean)) (own := RX2) (lv0 := [(0, .ref a_this), (1, .int x1), (2, .int x2)]) (by decide +kernel) rfl rfl (Nat.le_of_ble_eq_true rfl) rfl (fun A x C R => ?_)
  refine j_aload_n C 0 dX2_isFreeFor_0 rfl rfl ?_
  refine j_iload_n C 2 dX2_isFreeFor_1 rfl rfl ?_
  refine j_ri C (jc_V C (c_X2_ownerOf l g a_this a_sorts a_owners a_worths a_gave v_generation v_toll f_owners x2 _ hw) 1 gX2_isFreeFor_X2_ownerOf rfl rfl rfl hd_X2_ownerOf ⟨Nat.le_of_ble_eq_true rfl, Nat.le_of_ble_eq_true rfl⟩ (j_rec C 0 2 rfl rfl) [0, 1] rfl rfl (rest := []) rfl rfl (Nat.le_of_ble_eq_true rfl) dX2_isFreeFor_2 ⟨Nat.le_refl _, Nat.le_refl _⟩) [0, 1] rfl (fun _ => rfl) (fun r1 _ hw => ?_)
  try dsimp only at hw
  refine j_istore_n C [1, 2, 3, 0] dX2_isFreeFor_5 rfl (by decide) rfl ?_
  refine j_iload_n C 3 dX2_isFreeFor_6 rfl rfl ?_
  refine j_iload_n C 1 dX2_isFreeFor_7 rfl rfl ?_
  refine j_icmp_eq C 20 dX2_isFreeFor_8 rfl (fun c => ?_) (fun c => ?_)
  · have hw := hw.1 c
    refine j_iconst C dX2_isFreeFor_20 (v := (1 : Int32)) (by decide) ?_
    refine j_goto C 25 dX2_isFreeFor_21 rfl ?_
    exact j_iret C R () rfl dX2_isFreeFor_25 rfl hw
  · have hw := hw.2 c
    refine j_aload_n C 0 dX2_isFreeFor_11 rfl rfl ?_
    refine j_iload_n C 1 dX2_isFreeFor_12 rfl rfl ?_
    refine j_iload_n C 3 dX2_isFreeFor_13 rfl rfl ?_
    refine j_ri C (jc_V C (c_X2_hasRight l g a_this a_sorts a_owners a_worths a_gave v_generation v_toll f_gave x1 r1 _ hw) 2 gX2_isFreeFor_X2_hasRight rfl rfl rfl hd_X2_hasRight ⟨Nat.le_of_ble_eq_true rfl, Nat.le_of_ble_eq_true rfl⟩ (j_rec C 0 2 rfl rfl) [0, 2] rfl rfl (rest := []) rfl rfl (Nat.le_of_ble_eq_true rfl) dX2_isFreeFor_14 ⟨Nat.le_refl _, Nat.le_refl _⟩) [0, 2] rfl (fun _ => rfl) (fun r2 _ hw => ?_)
    try dsimp only at hw
    refine j_if_eq C 24 dX2_isFreeFor_17 rfl (fun c => ?_) (fun c => ?_)
    · have hw := hw.1 c
      refine j_iconst C dX2_isFreeFor_24 (v := (0 : Int32)) (by decide) ?_
      exact j_iret C R () rfl dX2_isFreeFor_25 rfl hw
    · have hw := hw.2 c
      refine j_iconst C dX2_isFreeFor_20 (v := (1 : Int32)) (by decide) ?_
      refine j_goto C 25 dX2_isFreeFor_21 rfl ?_
      exact j_iret C R () rfl dX2_isFreeFor_25 rfl hw
end
