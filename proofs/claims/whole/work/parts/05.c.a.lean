/-! printed by wip/whole/gen: contracts over the machine -/
theorem hd_X0_forget : yX0_forget.cls = RX0 ∧ yX0_forget.cls ≠ "java/lang/invoke/MethodHandle" ∧ yX0_forget.cls ≠ "java/lang/invoke/VarHandle" ∧ (parseMethodDescriptor yX0_forget.desc).map (fun d => d.parameters.length) = some 0 := by decide +kernel
theorem hd_X0_isFound : yX0_isFound.cls = RX0 ∧ yX0_isFound.cls ≠ "java/lang/invoke/MethodHandle" ∧ yX0_isFound.cls ≠ "java/lang/invoke/VarHandle" ∧ (parseMethodDescriptor yX0_isFound.desc).map (fun d => d.parameters.length) = some 0 := by decide +kernel
theorem hd_X0_answer : yX0_answer.cls = RX0 ∧ yX0_answer.cls ≠ "java/lang/invoke/MethodHandle" ∧ yX0_answer.cls ≠ "java/lang/invoke/VarHandle" ∧ (parseMethodDescriptor yX0_answer.desc).map (fun d => d.parameters.length) = some 1 := by decide +kernel
theorem hd_X0_keep : yX0_keep.cls = RX0 ∧ yX0_keep.cls ≠ "java/lang/invoke/MethodHandle" ∧ yX0_keep.cls ≠ "java/lang/invoke/VarHandle" ∧ (parseMethodDescriptor yX0_keep.desc).map (fun d => d.parameters.length) = some 1 := by decide +kernel
theorem hd_X0_chooseBehind : yX0_chooseBehind.cls = RX0 ∧ yX0_chooseBehind.cls ≠ "java/lang/invoke/MethodHandle" ∧ yX0_chooseBehind.cls ≠ "java/lang/invoke/VarHandle" ∧ (parseMethodDescriptor yX0_chooseBehind.desc).map (fun d => d.parameters.length) = some 3 := by decide +kernel
theorem hd_X0_isEnvious : yX0_isEnvious.cls = RX0 ∧ yX0_isEnvious.cls ≠ "java/lang/invoke/MethodHandle" ∧ yX0_isEnvious.cls ≠ "java/lang/invoke/VarHandle" ∧ (parseMethodDescriptor yX0_isEnvious.desc).map (fun d => d.parameters.length) = some 2 := by decide +kernel
theorem hd_X0_isSettled : yX0_isSettled.cls = RX0 ∧ yX0_isSettled.cls ≠ "java/lang/invoke/MethodHandle" ∧ yX0_isSettled.cls ≠ "java/lang/invoke/VarHandle" ∧ (parseMethodDescriptor yX0_isSettled.desc).map (fun d => d.parameters.length) = some 0 := by decide +kernel
theorem hd_X0_chooseHeirs : yX0_chooseHeirs.cls = RX0 ∧ yX0_chooseHeirs.cls ≠ "java/lang/invoke/MethodHandle" ∧ yX0_chooseHeirs.cls ≠ "java/lang/invoke/VarHandle" ∧ (parseMethodDescriptor yX0_chooseHeirs.desc).map (fun d => d.parameters.length) = some 3 := by decide +kernel
theorem hd_X0_isEnough : yX0_isEnough.cls = RX0 ∧ yX0_isEnough.cls ≠ "java/lang/invoke/MethodHandle" ∧ yX0_isEnough.cls ≠ "java/lang/invoke/VarHandle" ∧ (parseMethodDescriptor yX0_isEnough.desc).map (fun d => d.parameters.length) = some 2 := by decide +kernel
theorem hd_X0_noteShares : yX0_noteShares.cls = RX0 ∧ yX0_noteShares.cls ≠ "java/lang/invoke/MethodHandle" ∧ yX0_noteShares.cls ≠ "java/lang/invoke/VarHandle" ∧ (parseMethodDescriptor yX0_noteShares.desc).map (fun d => d.parameters.length) = some 1 := by decide +kernel
theorem hd_X0_firstArcOfNoUse : yX0_firstArcOfNoUse.cls = RX0 ∧ yX0_firstArcOfNoUse.cls ≠ "java/lang/invoke/MethodHandle" ∧ yX0_firstArcOfNoUse.cls ≠ "java/lang/invoke/VarHandle" ∧ (parseMethodDescriptor yX0_firstArcOfNoUse.desc).map (fun d => d.parameters.length) = some 0 := by decide +kernel
theorem hd_X0_stepBounds : yX0_stepBounds.cls = RX0 ∧ yX0_stepBounds.cls ≠ "java/lang/invoke/MethodHandle" ∧ yX0_stepBounds.cls ≠ "java/lang/invoke/VarHandle" ∧ (parseMethodDescriptor yX0_stepBounds.desc).map (fun d => d.parameters.length) = some 1 := by decide +kernel
theorem hd_X2_sortAt : yX2_sortAt.cls = RX2 ∧ yX2_sortAt.cls ≠ "java/lang/invoke/MethodHandle" ∧ yX2_sortAt.cls ≠ "java/lang/invoke/VarHandle" ∧ (parseMethodDescriptor yX2_sortAt.desc).map (fun d => d.parameters.length) = some 2 := by decide +kernel
theorem hd_X2_shareOfSector : yX2_shareOfSector.cls = RX2 ∧ yX2_shareOfSector.cls ≠ "java/lang/invoke/MethodHandle" ∧ yX2_shareOfSector.cls ≠ "java/lang/invoke/VarHandle" ∧ (parseMethodDescriptor yX2_shareOfSector.desc).map (fun d => d.parameters.length) = some 2 := by decide +kernel
theorem hd_X0_sumUp : yX0_sumUp.cls = RX0 ∧ yX0_sumUp.cls ≠ "java/lang/invoke/MethodHandle" ∧ yX0_sumUp.cls ≠ "java/lang/invoke/VarHandle" ∧ (parseMethodDescriptor yX0_sumUp.desc).map (fun d => d.parameters.length) = some 2 := by decide +kernel
theorem hd_X0_searchAmong : yX0_searchAmong.cls = RX0 ∧ yX0_searchAmong.cls ≠ "java/lang/invoke/MethodHandle" ∧ yX0_searchAmong.cls ≠ "java/lang/invoke/VarHandle" ∧ (parseMethodDescriptor yX0_searchAmong.desc).map (fun d => d.parameters.length) = some 2 := by decide +kernel
theorem hd_X1_openSides : yX1_openSides.cls = RX1 ∧ yX1_openSides.cls ≠ "java/lang/invoke/MethodHandle" ∧ yX1_openSides.cls ≠ "java/lang/invoke/VarHandle" ∧ (parseMethodDescriptor yX1_openSides.desc).map (fun d => d.parameters.length) = some 2 := by decide +kernel
theorem hd_X1_beside : yX1_beside.cls ≠ "java/lang/invoke/MethodHandle" ∧ yX1_beside.cls ≠ "java/lang/invoke/VarHandle" ∧ (parseMethodDescriptor yX1_beside.desc).map (fun d => d.parameters.length) = some 2 := by decide +kernel
theorem hd_X1_reach : yX1_reach.cls = RX1 ∧ yX1_reach.cls ≠ "java/lang/invoke/MethodHandle" ∧ yX1_reach.cls ≠ "java/lang/invoke/VarHandle" ∧ (parseMethodDescriptor yX1_reach.desc).map (fun d => d.parameters.length) = some 2 := by decide +kernel
theorem hd_X2_ownerBehind : yX2_ownerBehind.cls = RX2 ∧ yX2_ownerBehind.cls ≠ "java/lang/invoke/MethodHandle" ∧ yX2_ownerBehind.cls ≠ "java/lang/invoke/VarHandle" ∧ (parseMethodDescriptor yX2_ownerBehind.desc).map (fun d => d.parameters.length) = some 2 := by decide +kernel
theorem hd_X2_ownerOf : yX2_ownerOf.cls = RX2 ∧ yX2_ownerOf.cls ≠ "java/lang/invoke/MethodHandle" ∧ yX2_ownerOf.cls ≠ "java/lang/invoke/VarHandle" ∧ (parseMethodDescriptor yX2_ownerOf.desc).map (fun d => d.parameters.length) = some 1 := by decide +kernel
theorem hd_X1_seekGoal : yX1_seekGoal.cls = RX1 ∧ yX1_seekGoal.cls ≠ "java/lang/invoke/MethodHandle" ∧ yX1_seekGoal.cls ≠ "java/lang/invoke/VarHandle" ∧ (parseMethodDescriptor yX1_seekGoal.desc).map (fun d => d.parameters.length) = some 2 := by decide +kernel
theorem hd_X1_opposite : yX1_opposite.cls ≠ "java/lang/invoke/MethodHandle" ∧ yX1_opposite.cls ≠ "java/lang/invoke/VarHandle" ∧ (parseMethodDescriptor yX1_opposite.desc).map (fun d => d.parameters.length) = some 1 := by decide +kernel
theorem hd_X1_streamTo : yX1_streamTo.cls = RX1 ∧ yX1_streamTo.cls ≠ "java/lang/invoke/MethodHandle" ∧ yX1_streamTo.cls ≠ "java/lang/invoke/VarHandle" ∧ (parseMethodDescriptor yX1_streamTo.desc).map (fun d => d.parameters.length) = some 1 := by decide +kernel
theorem hd_X1_lengthFor : yX1_lengthFor.cls = RX1 ∧ yX1_lengthFor.cls ≠ "java/lang/invoke/MethodHandle" ∧ yX1_lengthFor.cls ≠ "java/lang/invoke/VarHandle" ∧ (parseMethodDescriptor yX1_lengthFor.desc).map (fun d => d.parameters.length) = some 2 := by decide +kernel
theorem hd_X2_copyFrom : yX2_copyFrom.cls = RX2 ∧ yX2_copyFrom.cls ≠ "java/lang/invoke/MethodHandle" ∧ yX2_copyFrom.cls ≠ "java/lang/invoke/VarHandle" ∧ (parseMethodDescriptor yX2_copyFrom.desc).map (fun d => d.parameters.length) = some 1 := by decide +kernel
theorem hd_X2_setRing : yX2_setRing.cls = RX2 ∧ yX2_setRing.cls ≠ "java/lang/invoke/MethodHandle" ∧ yX2_setRing.cls ≠ "java/lang/invoke/VarHandle" ∧ (parseMethodDescriptor yX2_setRing.desc).map (fun d => d.parameters.length) = some 2 := by decide +kernel
theorem hd_X2_sectorsOfSort : yX2_sectorsOfSort.cls = RX2 ∧ yX2_sectorsOfSort.cls ≠ "java/lang/invoke/MethodHandle" ∧ yX2_sectorsOfSort.cls ≠ "java/lang/invoke/VarHandle" ∧ (parseMethodDescriptor yX2_sectorsOfSort.desc).map (fun d => d.parameters.length) = some 2 := by decide +kernel
theorem hd_X2_sectorsOf : yX2_sectorsOf.cls = RX2 ∧ yX2_sectorsOf.cls ≠ "java/lang/invoke/MethodHandle" ∧ yX2_sectorsOf.cls ≠ "java/lang/invoke/VarHandle" ∧ (parseMethodDescriptor yX2_sectorsOf.desc).map (fun d => d.parameters.length) = some 1 := by decide +kernel
theorem hd_X2_ownersOf : yX2_ownersOf.cls = RX2 ∧ yX2_ownersOf.cls ≠ "java/lang/invoke/MethodHandle" ∧ yX2_ownersOf.cls ≠ "java/lang/invoke/VarHandle" ∧ (parseMethodDescriptor yX2_ownersOf.desc).map (fun d => d.parameters.length) = some 1 := by decide +kernel
theorem hd_X2_setSlices : yX2_setSlices.cls = RX2 ∧ yX2_setSlices.cls ≠ "java/lang/invoke/MethodHandle" ∧ yX2_setSlices.cls ≠ "java/lang/invoke/VarHandle" ∧ (parseMethodDescriptor yX2_setSlices.desc).map (fun d => d.parameters.length) = some 1 := by decide +kernel
theorem hd_X2_beginGeneration : yX2_beginGeneration.cls = RX2 ∧ yX2_beginGeneration.cls ≠ "java/lang/invoke/MethodHandle" ∧ yX2_beginGeneration.cls ≠ "java/lang/invoke/VarHandle" ∧ (parseMethodDescriptor yX2_beginGeneration.desc).map (fun d => d.parameters.length) = some 0 := by decide +kernel
theorem hd_X2_give : yX2_give.cls = RX2 ∧ yX2_give.cls ≠ "java/lang/invoke/MethodHandle" ∧ yX2_give.cls ≠ "java/lang/invoke/VarHandle" ∧ (parseMethodDescriptor yX2_give.desc).map (fun d => d.parameters.length) = some 2 := by decide +kernel
theorem hd_X2_giveAway : yX2_giveAway.cls = RX2 ∧ yX2_giveAway.cls ≠ "java/lang/invoke/MethodHandle" ∧ yX2_giveAway.cls ≠ "java/lang/invoke/VarHandle" ∧ (parseMethodDescriptor yX2_giveAway.desc).map (fun d => d.parameters.length) = some 2 := by decide +kernel
theorem hd_X2_join : yX2_join.cls = RX2 ∧ yX2_join.cls ≠ "java/lang/invoke/MethodHandle" ∧ yX2_join.cls ≠ "java/lang/invoke/VarHandle" ∧ (parseMethodDescriptor yX2_join.desc).map (fun d => d.parameters.length) = some 2 := by decide +kernel
theorem hd_X2_setWorth : yX2_setWorth.cls = RX2 ∧ yX2_setWorth.cls ≠ "java/lang/invoke/MethodHandle" ∧ yX2_setWorth.cls ≠ "java/lang/invoke/VarHandle" ∧ (parseMethodDescriptor yX2_setWorth.desc).map (fun d => d.parameters.length) = some 3 := by decide +kernel
theorem hd_X2_shareOf : yX2_shareOf.cls = RX2 ∧ yX2_shareOf.cls ≠ "java/lang/invoke/MethodHandle" ∧ yX2_shareOf.cls ≠ "java/lang/invoke/VarHandle" ∧ (parseMethodDescriptor yX2_shareOf.desc).map (fun d => d.parameters.length) = some 2 := by decide +kernel
theorem hd_X2_hasRight : yX2_hasRight.cls = RX2 ∧ yX2_hasRight.cls ≠ "java/lang/invoke/MethodHandle" ∧ yX2_hasRight.cls ≠ "java/lang/invoke/VarHandle" ∧ (parseMethodDescriptor yX2_hasRight.desc).map (fun d => d.parameters.length) = some 2 := by decide +kernel
theorem hd_X2_setRight : yX2_setRight.cls = RX2 ∧ yX2_setRight.cls ≠ "java/lang/invoke/MethodHandle" ∧ yX2_setRight.cls ≠ "java/lang/invoke/VarHandle" ∧ (parseMethodDescriptor yX2_setRight.desc).map (fun d => d.parameters.length) = some 3 := by decide +kernel
theorem hd_X2_isFreeFor : yX2_isFreeFor.cls = RX2 ∧ yX2_isFreeFor.cls ≠ "java/lang/invoke/MethodHandle" ∧ yX2_isFreeFor.cls ≠ "java/lang/invoke/VarHandle" ∧ (parseMethodDescriptor yX2_isFreeFor.desc).map (fun d => d.parameters.length) = some 2 := by decide +kernel
theorem hd_X3_add : yX3_add.cls = RX3 ∧ yX3_add.cls ≠ "java/lang/invoke/MethodHandle" ∧ yX3_add.cls ≠ "java/lang/invoke/VarHandle" ∧ (parseMethodDescriptor yX3_add.desc).map (fun d => d.parameters.length) = some 1 := by decide +kernel
theorem hd_X3_empty : yX3_empty.cls = RX3 ∧ yX3_empty.cls ≠ "java/lang/invoke/MethodHandle" ∧ yX3_empty.cls ≠ "java/lang/invoke/VarHandle" ∧ (parseMethodDescriptor yX3_empty.desc).map (fun d => d.parameters.length) = some 0 := by decide +kernel
theorem hd_X3_hasAt : yX3_hasAt.cls = RX3 ∧ yX3_hasAt.cls ≠ "java/lang/invoke/MethodHandle" ∧ yX3_hasAt.cls ≠ "java/lang/invoke/VarHandle" ∧ (parseMethodDescriptor yX3_hasAt.desc).map (fun d => d.parameters.length) = some 2 := by decide +kernel
theorem hd_J0_isLatin1_aae02 : yJ0_isLatin1_aae02.cls = RJ0 ∧ yJ0_isLatin1_aae02.cls ≠ "java/lang/invoke/MethodHandle" ∧ yJ0_isLatin1_aae02.cls ≠ "java/lang/invoke/VarHandle" ∧ (parseMethodDescriptor yJ0_isLatin1_aae02.desc).map (fun d => d.parameters.length) = some 0 := by decide +kernel
theorem hd_J0_coder_7d493 : yJ0_coder_7d493.cls = RJ0 ∧ yJ0_coder_7d493.cls ≠ "java/lang/invoke/MethodHandle" ∧ yJ0_coder_7d493.cls ≠ "java/lang/invoke/VarHandle" ∧ (parseMethodDescriptor yJ0_coder_7d493.desc).map (fun d => d.parameters.length) = some 0 := by decide +kernel
theorem hd_J0_length_8abf5 : yJ0_length_8abf5.cls = RJ0 ∧ yJ0_length_8abf5.cls ≠ "java/lang/invoke/MethodHandle" ∧ yJ0_length_8abf5.cls ≠ "java/lang/invoke/VarHandle" ∧ (parseMethodDescriptor yJ0_length_8abf5.desc).map (fun d => d.parameters.length) = some 0 := by decide +kernel
theorem hd_J1_canEncode_9a6ad : yJ1_canEncode_9a6ad.cls ≠ "java/lang/invoke/MethodHandle" ∧ yJ1_canEncode_9a6ad.cls ≠ "java/lang/invoke/VarHandle" ∧ (parseMethodDescriptor yJ1_canEncode_9a6ad.desc).map (fun d => d.parameters.length) = some 1 := by decide +kernel
theorem hd_J1_indexOfChar_4cfef : yJ1_indexOfChar_4cfef.cls ≠ "java/lang/invoke/MethodHandle" ∧ yJ1_indexOfChar_4cfef.cls ≠ "java/lang/invoke/VarHandle" ∧ (parseMethodDescriptor yJ1_indexOfChar_4cfef.desc).map (fun d => d.parameters.length) = some 4 := by decide +kernel
theorem hd_J1_indexOf_4cfef : yJ1_indexOf_4cfef.cls ≠ "java/lang/invoke/MethodHandle" ∧ yJ1_indexOf_4cfef.cls ≠ "java/lang/invoke/VarHandle" ∧ (parseMethodDescriptor yJ1_indexOf_4cfef.desc).map (fun d => d.parameters.length) = some 4 := by decide +kernel
theorem hd_J0_indexOf_7cf53 : yJ0_indexOf_7cf53.cls = RJ0 ∧ yJ0_indexOf_7cf53.cls ≠ "java/lang/invoke/MethodHandle" ∧ yJ0_indexOf_7cf53.cls ≠ "java/lang/invoke/VarHandle" ∧ (parseMethodDescriptor yJ0_indexOf_7cf53.desc).map (fun d => d.parameters.length) = some 2 := by decide +kernel
theorem hd_J0_indexOf_0f7a4 : yJ0_indexOf_0f7a4.cls = RJ0 ∧ yJ0_indexOf_0f7a4.cls ≠ "java/lang/invoke/MethodHandle" ∧ yJ0_indexOf_0f7a4.cls ≠ "java/lang/invoke/VarHandle" ∧ (parseMethodDescriptor yJ0_indexOf_0f7a4.desc).map (fun d => d.parameters.length) = some 1 := by decide +kernel
theorem hd_X3_letterAt : yX3_letterAt.cls = RX3 ∧ yX3_letterAt.cls ≠ "java/lang/invoke/MethodHandle" ∧ yX3_letterAt.cls ≠ "java/lang/invoke/VarHandle" ∧ (parseMethodDescriptor yX3_letterAt.desc).map (fun d => d.parameters.length) = some 2 := by decide +kernel
theorem hd_X3_digitAt : yX3_digitAt.cls = RX3 ∧ yX3_digitAt.cls ≠ "java/lang/invoke/MethodHandle" ∧ yX3_digitAt.cls ≠ "java/lang/invoke/VarHandle" ∧ (parseMethodDescriptor yX3_digitAt.desc).map (fun d => d.parameters.length) = some 1 := by decide +kernel
theorem hd_X3_faultOfRuns : yX3_faultOfRuns.cls = RX3 ∧ yX3_faultOfRuns.cls ≠ "java/lang/invoke/MethodHandle" ∧ yX3_faultOfRuns.cls ≠ "java/lang/invoke/VarHandle" ∧ (parseMethodDescriptor yX3_faultOfRuns.desc).map (fun d => d.parameters.length) = some 3 := by decide +kernel
theorem hd_X3_readRuns : yX3_readRuns.cls = RX3 ∧ yX3_readRuns.cls ≠ "java/lang/invoke/MethodHandle" ∧ yX3_readRuns.cls ≠ "java/lang/invoke/VarHandle" ∧ (parseMethodDescriptor yX3_readRuns.desc).map (fun d => d.parameters.length) = some 2 := by decide +kernel
theorem hd_X4_say : yX4_say.cls = RX4 ∧ yX4_say.cls ≠ "java/lang/invoke/MethodHandle" ∧ yX4_say.cls ≠ "java/lang/invoke/VarHandle" ∧ (parseMethodDescriptor yX4_say.desc).map (fun d => d.parameters.length) = some 1 := by decide +kernel
theorem hd_X4_wipe : yX4_wipe.cls = RX4 ∧ yX4_wipe.cls ≠ "java/lang/invoke/MethodHandle" ∧ yX4_wipe.cls ≠ "java/lang/invoke/VarHandle" ∧ (parseMethodDescriptor yX4_wipe.desc).map (fun d => d.parameters.length) = some 0 := by decide +kernel
theorem hd_J6_bitCount_0f7a4 : yJ6_bitCount_0f7a4.cls ≠ "java/lang/invoke/MethodHandle" ∧ yJ6_bitCount_0f7a4.cls ≠ "java/lang/invoke/VarHandle" ∧ (parseMethodDescriptor yJ6_bitCount_0f7a4.desc).map (fun d => d.parameters.length) = some 1 := by decide +kernel
theorem hd_X4_faultAs : yX4_faultAs.cls = RX4 ∧ yX4_faultAs.cls ≠ "java/lang/invoke/MethodHandle" ∧ yX4_faultAs.cls ≠ "java/lang/invoke/VarHandle" ∧ (parseMethodDescriptor yX4_faultAs.desc).map (fun d => d.parameters.length) = some 1 := by decide +kernel
theorem hd_X4_fault : yX4_fault.cls = RX4 ∧ yX4_fault.cls ≠ "java/lang/invoke/MethodHandle" ∧ yX4_fault.cls ≠ "java/lang/invoke/VarHandle" ∧ (parseMethodDescriptor yX4_fault.desc).map (fun d => d.parameters.length) = some 1 := by decide +kernel
theorem hd_X4_forgetCuts : yX4_forgetCuts.cls = RX4 ∧ yX4_forgetCuts.cls ≠ "java/lang/invoke/MethodHandle" ∧ yX4_forgetCuts.cls ≠ "java/lang/invoke/VarHandle" ∧ (parseMethodDescriptor yX4_forgetCuts.desc).map (fun d => d.parameters.length) = some 0 := by decide +kernel
theorem hd_X4_isRing : yX4_isRing.cls ≠ "java/lang/invoke/MethodHandle" ∧ yX4_isRing.cls ≠ "java/lang/invoke/VarHandle" ∧ (parseMethodDescriptor yX4_isRing.desc).map (fun d => d.parameters.length) = some 1 := by decide +kernel
theorem hd_X4_ring : yX4_ring.cls = RX4 ∧ yX4_ring.cls ≠ "java/lang/invoke/MethodHandle" ∧ yX4_ring.cls ≠ "java/lang/invoke/VarHandle" ∧ (parseMethodDescriptor yX4_ring.desc).map (fun d => d.parameters.length) = some 1 := by decide +kernel
theorem hd_X4_slices : yX4_slices.cls = RX4 ∧ yX4_slices.cls ≠ "java/lang/invoke/MethodHandle" ∧ yX4_slices.cls ≠ "java/lang/invoke/VarHandle" ∧ (parseMethodDescriptor yX4_slices.desc).map (fun d => d.parameters.length) = some 0 := by decide +kernel
theorem hd_X4_will : yX4_will.cls = RX4 ∧ yX4_will.cls ≠ "java/lang/invoke/MethodHandle" ∧ yX4_will.cls ≠ "java/lang/invoke/VarHandle" ∧ (parseMethodDescriptor yX4_will.desc).map (fun d => d.parameters.length) = some 0 := by decide +kernel
theorem hd_X4_isHeir : yX4_isHeir.cls ≠ "java/lang/invoke/MethodHandle" ∧ yX4_isHeir.cls ≠ "java/lang/invoke/VarHandle" ∧ (parseMethodDescriptor yX4_isHeir.desc).map (fun d => d.parameters.length) = some 1 := by decide +kernel
theorem hd_X4_areTwoHeirs : yX4_areTwoHeirs.cls ≠ "java/lang/invoke/MethodHandle" ∧ yX4_areTwoHeirs.cls ≠ "java/lang/invoke/VarHandle" ∧ (parseMethodDescriptor yX4_areTwoHeirs.desc).map (fun d => d.parameters.length) = some 2 := by decide +kernel
theorem hd_X4_wedding : yX4_wedding.cls = RX4 ∧ yX4_wedding.cls ≠ "java/lang/invoke/MethodHandle" ∧ yX4_wedding.cls ≠ "java/lang/invoke/VarHandle" ∧ (parseMethodDescriptor yX4_wedding.desc).map (fun d => d.parameters.length) = some 2 := by decide +kernel
theorem hd_J3_checkIndex_8e157 : yJ3_checkIndex_8e157.cls ≠ "java/lang/invoke/MethodHandle" ∧ yJ3_checkIndex_8e157.cls ≠ "java/lang/invoke/VarHandle" ∧ (parseMethodDescriptor yJ3_checkIndex_8e157.desc).map (fun d => d.parameters.length) = some 3 := by decide +kernel
theorem hd_J0_checkIndex_df160 : yJ0_checkIndex_df160.cls ≠ "java/lang/invoke/MethodHandle" ∧ yJ0_checkIndex_df160.cls ≠ "java/lang/invoke/VarHandle" ∧ (parseMethodDescriptor yJ0_checkIndex_df160.desc).map (fun d => d.parameters.length) = some 2 := by decide +kernel
theorem hd_J1_charAt_3b067 : yJ1_charAt_3b067.cls ≠ "java/lang/invoke/MethodHandle" ∧ yJ1_charAt_3b067.cls ≠ "java/lang/invoke/VarHandle" ∧ (parseMethodDescriptor yJ1_charAt_3b067.desc).map (fun d => d.parameters.length) = some 2 := by decide +kernel
theorem hd_J0_charAt_5068e : yJ0_charAt_5068e.cls = RJ0 ∧ yJ0_charAt_5068e.cls ≠ "java/lang/invoke/MethodHandle" ∧ yJ0_charAt_5068e.cls ≠ "java/lang/invoke/VarHandle" ∧ (parseMethodDescriptor yJ0_charAt_5068e.desc).map (fun d => d.parameters.length) = some 1 := by decide +kernel
theorem hd_X4_isSector : yX4_isSector.cls ≠ "java/lang/invoke/MethodHandle" ∧ yX4_isSector.cls ≠ "java/lang/invoke/VarHandle" ∧ (parseMethodDescriptor yX4_isSector.desc).map (fun d => d.parameters.length) = some 1 := by decide +kernel
theorem hd_X4_cell : yX4_cell.cls = RX4 ∧ yX4_cell.cls ≠ "java/lang/invoke/MethodHandle" ∧ yX4_cell.cls ≠ "java/lang/invoke/VarHandle" ∧ (parseMethodDescriptor yX4_cell.desc).map (fun d => d.parameters.length) = some 2 := by decide +kernel
theorem hd_X4_was : yX4_was.cls = RX4 ∧ yX4_was.cls ≠ "java/lang/invoke/MethodHandle" ∧ yX4_was.cls ≠ "java/lang/invoke/VarHandle" ∧ (parseMethodDescriptor yX4_was.desc).map (fun d => d.parameters.length) = some 2 := by decide +kernel
theorem hd_X4_has : yX4_has.cls = RX4 ∧ yX4_has.cls ≠ "java/lang/invoke/MethodHandle" ∧ yX4_has.cls ≠ "java/lang/invoke/VarHandle" ∧ (parseMethodDescriptor yX4_has.desc).map (fun d => d.parameters.length) = some 1 := by decide +kernel
theorem hd_X4_sortOfCode : yX4_sortOfCode.cls ≠ "java/lang/invoke/MethodHandle" ∧ yX4_sortOfCode.cls ≠ "java/lang/invoke/VarHandle" ∧ (parseMethodDescriptor yX4_sortOfCode.desc).map (fun d => d.parameters.length) = some 1 := by decide +kernel
theorem hd_X4_worth : yX4_worth.cls = RX4 ∧ yX4_worth.cls ≠ "java/lang/invoke/MethodHandle" ∧ yX4_worth.cls ≠ "java/lang/invoke/VarHandle" ∧ (parseMethodDescriptor yX4_worth.desc).map (fun d => d.parameters.length) = some 3 := by decide +kernel
theorem hd_X4_share : yX4_share.cls = RX4 ∧ yX4_share.cls ≠ "java/lang/invoke/MethodHandle" ∧ yX4_share.cls ≠ "java/lang/invoke/VarHandle" ∧ (parseMethodDescriptor yX4_share.desc).map (fun d => d.parameters.length) = some 2 := by decide +kernel
theorem hd_X4_envies : yX4_envies.cls = RX4 ∧ yX4_envies.cls ≠ "java/lang/invoke/MethodHandle" ∧ yX4_envies.cls ≠ "java/lang/invoke/VarHandle" ∧ (parseMethodDescriptor yX4_envies.desc).map (fun d => d.parameters.length) = some 1 := by decide +kernel
theorem hd_X4_answerOfCut : yX4_answerOfCut.cls = RX4 ∧ yX4_answerOfCut.cls ≠ "java/lang/invoke/MethodHandle" ∧ yX4_answerOfCut.cls ≠ "java/lang/invoke/VarHandle" ∧ (parseMethodDescriptor yX4_answerOfCut.desc).map (fun d => d.parameters.length) = some 3 := by decide +kernel
theorem hd_X4_fair : yX4_fair.cls = RX4 ∧ yX4_fair.cls ≠ "java/lang/invoke/MethodHandle" ∧ yX4_fair.cls ≠ "java/lang/invoke/VarHandle" ∧ (parseMethodDescriptor yX4_fair.desc).map (fun d => d.parameters.length) = some 2 := by decide +kernel
theorem hd_X4_best : yX4_best.cls = RX4 ∧ yX4_best.cls ≠ "java/lang/invoke/MethodHandle" ∧ yX4_best.cls ≠ "java/lang/invoke/VarHandle" ∧ (parseMethodDescriptor yX4_best.desc).map (fun d => d.parameters.length) = some 2 := by decide +kernel
theorem hd_X4_toll : yX4_toll.cls = RX4 ∧ yX4_toll.cls ≠ "java/lang/invoke/MethodHandle" ∧ yX4_toll.cls ≠ "java/lang/invoke/VarHandle" ∧ (parseMethodDescriptor yX4_toll.desc).map (fun d => d.parameters.length) = some 1 := by decide +kernel
theorem hd_X4_right : yX4_right.cls = RX4 ∧ yX4_right.cls ≠ "java/lang/invoke/MethodHandle" ∧ yX4_right.cls ≠ "java/lang/invoke/VarHandle" ∧ (parseMethodDescriptor yX4_right.desc).map (fun d => d.parameters.length) = some 3 := by decide +kernel
theorem hd_X4_costOfClimb : yX4_costOfClimb.cls ≠ "java/lang/invoke/MethodHandle" ∧ yX4_costOfClimb.cls ≠ "java/lang/invoke/VarHandle" ∧ (parseMethodDescriptor yX4_costOfClimb.desc).map (fun d => d.parameters.length) = some 1 := by decide +kernel
theorem hd_X4_costOfRound : yX4_costOfRound.cls = RX4 ∧ yX4_costOfRound.cls ≠ "java/lang/invoke/MethodHandle" ∧ yX4_costOfRound.cls ≠ "java/lang/invoke/VarHandle" ∧ (parseMethodDescriptor yX4_costOfRound.desc).map (fun d => d.parameters.length) = some 4 := by decide +kernel
theorem hd_X4_costOfWay : yX4_costOfWay.cls = RX4 ∧ yX4_costOfWay.cls ≠ "java/lang/invoke/MethodHandle" ∧ yX4_costOfWay.cls ≠ "java/lang/invoke/VarHandle" ∧ (parseMethodDescriptor yX4_costOfWay.desc).map (fun d => d.parameters.length) = some 4 := by decide +kernel
theorem hd_X4_costOfWayBack : yX4_costOfWayBack.cls = RX4 ∧ yX4_costOfWayBack.cls ≠ "java/lang/invoke/MethodHandle" ∧ yX4_costOfWayBack.cls ≠ "java/lang/invoke/VarHandle" ∧ (parseMethodDescriptor yX4_costOfWayBack.desc).map (fun d => d.parameters.length) = some 4 := by decide +kernel
theorem hd_X4_bestWay : yX4_bestWay.cls = RX4 ∧ yX4_bestWay.cls ≠ "java/lang/invoke/MethodHandle" ∧ yX4_bestWay.cls ≠ "java/lang/invoke/VarHandle" ∧ (parseMethodDescriptor yX4_bestWay.desc).map (fun d => d.parameters.length) = some 4 := by decide +kernel
theorem hd_X4_way : yX4_way.cls = RX4 ∧ yX4_way.cls ≠ "java/lang/invoke/MethodHandle" ∧ yX4_way.cls ≠ "java/lang/invoke/VarHandle" ∧ (parseMethodDescriptor yX4_way.desc).map (fun d => d.parameters.length) = some 4 := by decide +kernel
theorem hd_X4_sectorBelow : yX4_sectorBelow.cls = RX4 ∧ yX4_sectorBelow.cls ≠ "java/lang/invoke/MethodHandle" ∧ yX4_sectorBelow.cls ≠ "java/lang/invoke/VarHandle" ∧ (parseMethodDescriptor yX4_sectorBelow.desc).map (fun d => d.parameters.length) = some 2 := by decide +kernel
theorem hd_X4_endOfStone : yX4_endOfStone.cls = RX4 ∧ yX4_endOfStone.cls ≠ "java/lang/invoke/MethodHandle" ∧ yX4_endOfStone.cls ≠ "java/lang/invoke/VarHandle" ∧ (parseMethodDescriptor yX4_endOfStone.desc).map (fun d => d.parameters.length) = some 2 := by decide +kernel
theorem hd_X4_hitByStone : yX4_hitByStone.cls = RX4 ∧ yX4_hitByStone.cls ≠ "java/lang/invoke/MethodHandle" ∧ yX4_hitByStone.cls ≠ "java/lang/invoke/VarHandle" ∧ (parseMethodDescriptor yX4_hitByStone.desc).map (fun d => d.parameters.length) = some 2 := by decide +kernel
theorem hd_X4_stone : yX4_stone.cls = RX4 ∧ yX4_stone.cls ≠ "java/lang/invoke/MethodHandle" ∧ yX4_stone.cls ≠ "java/lang/invoke/VarHandle" ∧ (parseMethodDescriptor yX4_stone.desc).map (fun d => d.parameters.length) = some 3 := by decide +kernel
theorem hd_X4_withThoseBeside : yX4_withThoseBeside.cls ≠ "java/lang/invoke/MethodHandle" ∧ yX4_withThoseBeside.cls ≠ "java/lang/invoke/VarHandle" ∧ (parseMethodDescriptor yX4_withThoseBeside.desc).map (fun d => d.parameters.length) = some 1 := by decide +kernel
theorem hd_X4_runOfAvalanche : yX4_runOfAvalanche.cls = RX4 ∧ yX4_runOfAvalanche.cls ≠ "java/lang/invoke/MethodHandle" ∧ yX4_runOfAvalanche.cls ≠ "java/lang/invoke/VarHandle" ∧ (parseMethodDescriptor yX4_runOfAvalanche.desc).map (fun d => d.parameters.length) = some 3 := by decide +kernel
theorem hd_X4_avalanche : yX4_avalanche.cls = RX4 ∧ yX4_avalanche.cls ≠ "java/lang/invoke/MethodHandle" ∧ yX4_avalanche.cls ≠ "java/lang/invoke/VarHandle" ∧ (parseMethodDescriptor yX4_avalanche.desc).map (fun d => d.parameters.length) = some 3 := by decide +kernel
theorem hd_X4_rolls : yX4_rolls.cls = RX4 ∧ yX4_rolls.cls ≠ "java/lang/invoke/MethodHandle" ∧ yX4_rolls.cls ≠ "java/lang/invoke/VarHandle" ∧ (parseMethodDescriptor yX4_rolls.desc).map (fun d => d.parameters.length) = some 1 := by decide +kernel
theorem hd_X4_fence : yX4_fence.cls = RX4 ∧ yX4_fence.cls ≠ "java/lang/invoke/MethodHandle" ∧ yX4_fence.cls ≠ "java/lang/invoke/VarHandle" ∧ (parseMethodDescriptor yX4_fence.desc).map (fun d => d.parameters.length) = some 1 := by decide +kernel
theorem hd_X4_firstYearOfSpring : yX4_firstYearOfSpring.cls = RX4 ∧ yX4_firstYearOfSpring.cls ≠ "java/lang/invoke/MethodHandle" ∧ yX4_firstYearOfSpring.cls ≠ "java/lang/invoke/VarHandle" ∧ (parseMethodDescriptor yX4_firstYearOfSpring.desc).map (fun d => d.parameters.length) = some 4 := by decide +kernel
theorem hd_X4_yearsOfSpring : yX4_yearsOfSpring.cls = RX4 ∧ yX4_yearsOfSpring.cls ≠ "java/lang/invoke/MethodHandle" ∧ yX4_yearsOfSpring.cls ≠ "java/lang/invoke/VarHandle" ∧ (parseMethodDescriptor yX4_yearsOfSpring.desc).map (fun d => d.parameters.length) = some 4 := by decide +kernel
theorem hd_X4_spring : yX4_spring.cls = RX4 ∧ yX4_spring.cls ≠ "java/lang/invoke/MethodHandle" ∧ yX4_spring.cls ≠ "java/lang/invoke/VarHandle" ∧ (parseMethodDescriptor yX4_spring.desc).map (fun d => d.parameters.length) = some 4 := by decide +kernel
theorem hd_X4_asOne : yX4_asOne.cls ≠ "java/lang/invoke/MethodHandle" ∧ yX4_asOne.cls ≠ "java/lang/invoke/VarHandle" ∧ (parseMethodDescriptor yX4_asOne.desc).map (fun d => d.parameters.length) = some 3 := by decide +kernel
theorem hd_X4_boundsAsOne : yX4_boundsAsOne.cls = RX4 ∧ yX4_boundsAsOne.cls ≠ "java/lang/invoke/MethodHandle" ∧ yX4_boundsAsOne.cls ≠ "java/lang/invoke/VarHandle" ∧ (parseMethodDescriptor yX4_boundsAsOne.desc).map (fun d => d.parameters.length) = some 2 := by decide +kernel
theorem hd_X4_bestWedding : yX4_bestWedding.cls = RX4 ∧ yX4_bestWedding.cls ≠ "java/lang/invoke/MethodHandle" ∧ yX4_bestWedding.cls ≠ "java/lang/invoke/VarHandle" ∧ (parseMethodDescriptor yX4_bestWedding.desc).map (fun d => d.parameters.length) = some 0 := by decide +kernel
theorem hd_X4_pieceBehind : yX4_pieceBehind.cls = RX4 ∧ yX4_pieceBehind.cls ≠ "java/lang/invoke/MethodHandle" ∧ yX4_pieceBehind.cls ≠ "java/lang/invoke/VarHandle" ∧ (parseMethodDescriptor yX4_pieceBehind.desc).map (fun d => d.parameters.length) = some 1 := by decide +kernel
theorem hd_X4_narrowestPiece : yX4_narrowestPiece.cls = RX4 ∧ yX4_narrowestPiece.cls ≠ "java/lang/invoke/MethodHandle" ∧ yX4_narrowestPiece.cls ≠ "java/lang/invoke/VarHandle" ∧ (parseMethodDescriptor yX4_narrowestPiece.desc).map (fun d => d.parameters.length) = some 0 := by decide +kernel
theorem hd_X4_bounds : yX4_bounds.cls = RX4 ∧ yX4_bounds.cls ≠ "java/lang/invoke/MethodHandle" ∧ yX4_bounds.cls ≠ "java/lang/invoke/VarHandle" ∧ (parseMethodDescriptor yX4_bounds.desc).map (fun d => d.parameters.length) = some 1 := by decide +kernel
theorem hd_X4_told : yX4_told.cls = RX4 ∧ yX4_told.cls ≠ "java/lang/invoke/MethodHandle" ∧ yX4_told.cls ≠ "java/lang/invoke/VarHandle" ∧ (parseMethodDescriptor yX4_told.desc).map (fun d => d.parameters.length) = some 1 := by decide +kernel
theorem hd_X4_isImage : yX4_isImage.cls ≠ "java/lang/invoke/MethodHandle" ∧ yX4_isImage.cls ≠ "java/lang/invoke/VarHandle" ∧ (parseMethodDescriptor yX4_isImage.desc).map (fun d => d.parameters.length) = some 1 := by decide +kernel
theorem hd_X5_in : yX5_in.cls ≠ "java/lang/invoke/MethodHandle" ∧ yX5_in.cls ≠ "java/lang/invoke/VarHandle" ∧ (parseMethodDescriptor yX5_in.desc).map (fun d => d.parameters.length) = some 3 := by decide +kernel
theorem hd_X5_isHeir : yX5_isHeir.cls ≠ "java/lang/invoke/MethodHandle" ∧ yX5_isHeir.cls ≠ "java/lang/invoke/VarHandle" ∧ (parseMethodDescriptor yX5_isHeir.desc).map (fun d => d.parameters.length) = some 1 := by decide +kernel
theorem hd_X5_isSector : yX5_isSector.cls ≠ "java/lang/invoke/MethodHandle" ∧ yX5_isSector.cls ≠ "java/lang/invoke/VarHandle" ∧ (parseMethodDescriptor yX5_isSector.desc).map (fun d => d.parameters.length) = some 1 := by decide +kernel
theorem hd_X5_isRing : yX5_isRing.cls ≠ "java/lang/invoke/MethodHandle" ∧ yX5_isRing.cls ≠ "java/lang/invoke/VarHandle" ∧ (parseMethodDescriptor yX5_isRing.desc).map (fun d => d.parameters.length) = some 1 := by decide +kernel
theorem hd_X5_hasBit : yX5_hasBit.cls ≠ "java/lang/invoke/MethodHandle" ∧ yX5_hasBit.cls ≠ "java/lang/invoke/VarHandle" ∧ (parseMethodDescriptor yX5_hasBit.desc).map (fun d => d.parameters.length) = some 2 := by decide +kernel
theorem hd_X5_next : yX5_next.cls ≠ "java/lang/invoke/MethodHandle" ∧ yX5_next.cls ≠ "java/lang/invoke/VarHandle" ∧ (parseMethodDescriptor yX5_next.desc).map (fun d => d.parameters.length) = some 1 := by decide +kernel
theorem hd_X5_before : yX5_before.cls ≠ "java/lang/invoke/MethodHandle" ∧ yX5_before.cls ≠ "java/lang/invoke/VarHandle" ∧ (parseMethodDescriptor yX5_before.desc).map (fun d => d.parameters.length) = some 1 := by decide +kernel
theorem hd_X5_say : yX5_say.cls = RX5 ∧ yX5_say.cls ≠ "java/lang/invoke/MethodHandle" ∧ yX5_say.cls ≠ "java/lang/invoke/VarHandle" ∧ (parseMethodDescriptor yX5_say.desc).map (fun d => d.parameters.length) = some 1 := by decide +kernel
theorem hd_X5_wipe : yX5_wipe.cls = RX5 ∧ yX5_wipe.cls ≠ "java/lang/invoke/MethodHandle" ∧ yX5_wipe.cls ≠ "java/lang/invoke/VarHandle" ∧ (parseMethodDescriptor yX5_wipe.desc).map (fun d => d.parameters.length) = some 0 := by decide +kernel
theorem hd_X5_sortOf : yX5_sortOf.cls ≠ "java/lang/invoke/MethodHandle" ∧ yX5_sortOf.cls ≠ "java/lang/invoke/VarHandle" ∧ (parseMethodDescriptor yX5_sortOf.desc).map (fun d => d.parameters.length) = some 1 := by decide +kernel
theorem hd_X5_sectorsOf : yX5_sectorsOf.cls = RX5 ∧ yX5_sectorsOf.cls ≠ "java/lang/invoke/MethodHandle" ∧ yX5_sectorsOf.cls ≠ "java/lang/invoke/VarHandle" ∧ (parseMethodDescriptor yX5_sectorsOf.desc).map (fun d => d.parameters.length) = some 1 := by decide +kernel
theorem hd_X5_isLetter : yX5_isLetter.cls ≠ "java/lang/invoke/MethodHandle" ∧ yX5_isLetter.cls ≠ "java/lang/invoke/VarHandle" ∧ (parseMethodDescriptor yX5_isLetter.desc).map (fun d => d.parameters.length) = some 2 := by decide +kernel
theorem hd_X5_faultOf : yX5_faultOf.cls = RX5 ∧ yX5_faultOf.cls ≠ "java/lang/invoke/MethodHandle" ∧ yX5_faultOf.cls ≠ "java/lang/invoke/VarHandle" ∧ (parseMethodDescriptor yX5_faultOf.desc).map (fun d => d.parameters.length) = some 1 := by decide +kernel
theorem hd_X5_fault : yX5_fault.cls = RX5 ∧ yX5_fault.cls ≠ "java/lang/invoke/MethodHandle" ∧ yX5_fault.cls ≠ "java/lang/invoke/VarHandle" ∧ (parseMethodDescriptor yX5_fault.desc).map (fun d => d.parameters.length) = some 1 := by decide +kernel
theorem hd_X5_ring : yX5_ring.cls = RX5 ∧ yX5_ring.cls ≠ "java/lang/invoke/MethodHandle" ∧ yX5_ring.cls ≠ "java/lang/invoke/VarHandle" ∧ (parseMethodDescriptor yX5_ring.desc).map (fun d => d.parameters.length) = some 1 := by decide +kernel
theorem hd_X5_keepGeneration : yX5_keepGeneration.cls = RX5 ∧ yX5_keepGeneration.cls ≠ "java/lang/invoke/MethodHandle" ∧ yX5_keepGeneration.cls ≠ "java/lang/invoke/VarHandle" ∧ (parseMethodDescriptor yX5_keepGeneration.desc).map (fun d => d.parameters.length) = some 0 := by decide +kernel
theorem hd_X5_slices : yX5_slices.cls = RX5 ∧ yX5_slices.cls ≠ "java/lang/invoke/MethodHandle" ∧ yX5_slices.cls ≠ "java/lang/invoke/VarHandle" ∧ (parseMethodDescriptor yX5_slices.desc).map (fun d => d.parameters.length) = some 0 := by decide +kernel
theorem hd_X5_will : yX5_will.cls = RX5 ∧ yX5_will.cls ≠ "java/lang/invoke/MethodHandle" ∧ yX5_will.cls ≠ "java/lang/invoke/VarHandle" ∧ (parseMethodDescriptor yX5_will.desc).map (fun d => d.parameters.length) = some 0 := by decide +kernel
theorem hd_X5_wedding : yX5_wedding.cls = RX5 ∧ yX5_wedding.cls ≠ "java/lang/invoke/MethodHandle" ∧ yX5_wedding.cls ≠ "java/lang/invoke/VarHandle" ∧ (parseMethodDescriptor yX5_wedding.desc).map (fun d => d.parameters.length) = some 2 := by decide +kernel
theorem hd_X5_cell : yX5_cell.cls = RX5 ∧ yX5_cell.cls ≠ "java/lang/invoke/MethodHandle" ∧ yX5_cell.cls ≠ "java/lang/invoke/VarHandle" ∧ (parseMethodDescriptor yX5_cell.desc).map (fun d => d.parameters.length) = some 2 := by decide +kernel
theorem hd_X5_was : yX5_was.cls = RX5 ∧ yX5_was.cls ≠ "java/lang/invoke/MethodHandle" ∧ yX5_was.cls ≠ "java/lang/invoke/VarHandle" ∧ (parseMethodDescriptor yX5_was.desc).map (fun d => d.parameters.length) = some 2 := by decide +kernel
theorem hd_X5_sectors : yX5_sectors.cls = RX5 ∧ yX5_sectors.cls ≠ "java/lang/invoke/MethodHandle" ∧ yX5_sectors.cls ≠ "java/lang/invoke/VarHandle" ∧ (parseMethodDescriptor yX5_sectors.desc).map (fun d => d.parameters.length) = some 1 := by decide +kernel
theorem hd_X5_has : yX5_has.cls = RX5 ∧ yX5_has.cls ≠ "java/lang/invoke/MethodHandle" ∧ yX5_has.cls ≠ "java/lang/invoke/VarHandle" ∧ (parseMethodDescriptor yX5_has.desc).map (fun d => d.parameters.length) = some 1 := by decide +kernel
theorem hd_X5_worth : yX5_worth.cls = RX5 ∧ yX5_worth.cls ≠ "java/lang/invoke/MethodHandle" ∧ yX5_worth.cls ≠ "java/lang/invoke/VarHandle" ∧ (parseMethodDescriptor yX5_worth.desc).map (fun d => d.parameters.length) = some 3 := by decide +kernel
theorem hd_X5_sectorWorth : yX5_sectorWorth.cls = RX5 ∧ yX5_sectorWorth.cls ≠ "java/lang/invoke/MethodHandle" ∧ yX5_sectorWorth.cls ≠ "java/lang/invoke/VarHandle" ∧ (parseMethodDescriptor yX5_sectorWorth.desc).map (fun d => d.parameters.length) = some 2 := by decide +kernel
theorem hd_X5_shareOf : yX5_shareOf.cls = RX5 ∧ yX5_shareOf.cls ≠ "java/lang/invoke/MethodHandle" ∧ yX5_shareOf.cls ≠ "java/lang/invoke/VarHandle" ∧ (parseMethodDescriptor yX5_shareOf.desc).map (fun d => d.parameters.length) = some 2 := by decide +kernel
theorem hd_X5_share : yX5_share.cls = RX5 ∧ yX5_share.cls ≠ "java/lang/invoke/MethodHandle" ∧ yX5_share.cls ≠ "java/lang/invoke/VarHandle" ∧ (parseMethodDescriptor yX5_share.desc).map (fun d => d.parameters.length) = some 2 := by decide +kernel
theorem hd_X5_envies : yX5_envies.cls = RX5 ∧ yX5_envies.cls ≠ "java/lang/invoke/MethodHandle" ∧ yX5_envies.cls ≠ "java/lang/invoke/VarHandle" ∧ (parseMethodDescriptor yX5_envies.desc).map (fun d => d.parameters.length) = some 1 := by decide +kernel
theorem hd_X5_layAhead : yX5_layAhead.cls = RX5 ∧ yX5_layAhead.cls ≠ "java/lang/invoke/MethodHandle" ∧ yX5_layAhead.cls ≠ "java/lang/invoke/VarHandle" ∧ (parseMethodDescriptor yX5_layAhead.desc).map (fun d => d.parameters.length) = some 0 := by decide +kernel
theorem hd_X5_arcWorth : yX5_arcWorth.cls = RX5 ∧ yX5_arcWorth.cls ≠ "java/lang/invoke/MethodHandle" ∧ yX5_arcWorth.cls ≠ "java/lang/invoke/VarHandle" ∧ (parseMethodDescriptor yX5_arcWorth.desc).map (fun d => d.parameters.length) = some 3 := by decide +kernel
theorem hd_X5_isFair : yX5_isFair.cls = RX5 ∧ yX5_isFair.cls ≠ "java/lang/invoke/MethodHandle" ∧ yX5_isFair.cls ≠ "java/lang/invoke/VarHandle" ∧ (parseMethodDescriptor yX5_isFair.desc).map (fun d => d.parameters.length) = some 1 := by decide +kernel
theorem hd_X5_leastShare : yX5_leastShare.cls = RX5 ∧ yX5_leastShare.cls ≠ "java/lang/invoke/MethodHandle" ∧ yX5_leastShare.cls ≠ "java/lang/invoke/VarHandle" ∧ (parseMethodDescriptor yX5_leastShare.desc).map (fun d => d.parameters.length) = some 1 := by decide +kernel
theorem hd_X5_nextBounds : yX5_nextBounds.cls = RX5 ∧ yX5_nextBounds.cls ≠ "java/lang/invoke/MethodHandle" ∧ yX5_nextBounds.cls ≠ "java/lang/invoke/VarHandle" ∧ (parseMethodDescriptor yX5_nextBounds.desc).map (fun d => d.parameters.length) = some 1 := by decide +kernel
theorem hd_X5_layOwners : yX5_layOwners.cls = RX5 ∧ yX5_layOwners.cls ≠ "java/lang/invoke/MethodHandle" ∧ yX5_layOwners.cls ≠ "java/lang/invoke/VarHandle" ∧ (parseMethodDescriptor yX5_layOwners.desc).map (fun d => d.parameters.length) = some 2 := by decide +kernel
theorem hd_X5_keepCut : yX5_keepCut.cls = RX5 ∧ yX5_keepCut.cls ≠ "java/lang/invoke/MethodHandle" ∧ yX5_keepCut.cls ≠ "java/lang/invoke/VarHandle" ∧ (parseMethodDescriptor yX5_keepCut.desc).map (fun d => d.parameters.length) = some 1 := by decide +kernel
theorem hd_X5_layCut : yX5_layCut.cls = RX5 ∧ yX5_layCut.cls ≠ "java/lang/invoke/MethodHandle" ∧ yX5_layCut.cls ≠ "java/lang/invoke/VarHandle" ∧ (parseMethodDescriptor yX5_layCut.desc).map (fun d => d.parameters.length) = some 2 := by decide +kernel
theorem hd_X5_toldCut : yX5_toldCut.cls = RX5 ∧ yX5_toldCut.cls ≠ "java/lang/invoke/MethodHandle" ∧ yX5_toldCut.cls ≠ "java/lang/invoke/VarHandle" ∧ (parseMethodDescriptor yX5_toldCut.desc).map (fun d => d.parameters.length) = some 4 := by decide +kernel
theorem hd_X5_fair : yX5_fair.cls = RX5 ∧ yX5_fair.cls ≠ "java/lang/invoke/MethodHandle" ∧ yX5_fair.cls ≠ "java/lang/invoke/VarHandle" ∧ (parseMethodDescriptor yX5_fair.desc).map (fun d => d.parameters.length) = some 2 := by decide +kernel
theorem hd_X5_best : yX5_best.cls = RX5 ∧ yX5_best.cls ≠ "java/lang/invoke/MethodHandle" ∧ yX5_best.cls ≠ "java/lang/invoke/VarHandle" ∧ (parseMethodDescriptor yX5_best.desc).map (fun d => d.parameters.length) = some 2 := by decide +kernel
theorem hd_X5_toll : yX5_toll.cls = RX5 ∧ yX5_toll.cls ≠ "java/lang/invoke/MethodHandle" ∧ yX5_toll.cls ≠ "java/lang/invoke/VarHandle" ∧ (parseMethodDescriptor yX5_toll.desc).map (fun d => d.parameters.length) = some 1 := by decide +kernel
theorem hd_X5_right : yX5_right.cls = RX5 ∧ yX5_right.cls ≠ "java/lang/invoke/MethodHandle" ∧ yX5_right.cls ≠ "java/lang/invoke/VarHandle" ∧ (parseMethodDescriptor yX5_right.desc).map (fun d => d.parameters.length) = some 3 := by decide +kernel
theorem hd_X5_wayCost : yX5_wayCost.cls = RX5 ∧ yX5_wayCost.cls ≠ "java/lang/invoke/MethodHandle" ∧ yX5_wayCost.cls ≠ "java/lang/invoke/VarHandle" ∧ (parseMethodDescriptor yX5_wayCost.desc).map (fun d => d.parameters.length) = some 5 := by decide +kernel
theorem hd_X5_way : yX5_way.cls = RX5 ∧ yX5_way.cls ≠ "java/lang/invoke/MethodHandle" ∧ yX5_way.cls ≠ "java/lang/invoke/VarHandle" ∧ (parseMethodDescriptor yX5_way.desc).map (fun d => d.parameters.length) = some 4 := by decide +kernel
theorem hd_X5_hitBy : yX5_hitBy.cls = RX5 ∧ yX5_hitBy.cls ≠ "java/lang/invoke/MethodHandle" ∧ yX5_hitBy.cls ≠ "java/lang/invoke/VarHandle" ∧ (parseMethodDescriptor yX5_hitBy.desc).map (fun d => d.parameters.length) = some 2 := by decide +kernel
theorem hd_X5_stone : yX5_stone.cls = RX5 ∧ yX5_stone.cls ≠ "java/lang/invoke/MethodHandle" ∧ yX5_stone.cls ≠ "java/lang/invoke/VarHandle" ∧ (parseMethodDescriptor yX5_stone.desc).map (fun d => d.parameters.length) = some 3 := by decide +kernel
theorem hd_X5_avalanche : yX5_avalanche.cls = RX5 ∧ yX5_avalanche.cls ≠ "java/lang/invoke/MethodHandle" ∧ yX5_avalanche.cls ≠ "java/lang/invoke/VarHandle" ∧ (parseMethodDescriptor yX5_avalanche.desc).map (fun d => d.parameters.length) = some 3 := by decide +kernel
theorem hd_X5_rolls : yX5_rolls.cls = RX5 ∧ yX5_rolls.cls ≠ "java/lang/invoke/MethodHandle" ∧ yX5_rolls.cls ≠ "java/lang/invoke/VarHandle" ∧ (parseMethodDescriptor yX5_rolls.desc).map (fun d => d.parameters.length) = some 1 := by decide +kernel
theorem hd_X5_begins : yX5_begins.cls = RX5 ∧ yX5_begins.cls ≠ "java/lang/invoke/MethodHandle" ∧ yX5_begins.cls ≠ "java/lang/invoke/VarHandle" ∧ (parseMethodDescriptor yX5_begins.desc).map (fun d => d.parameters.length) = some 2 := by decide +kernel
theorem hd_X5_ends : yX5_ends.cls = RX5 ∧ yX5_ends.cls ≠ "java/lang/invoke/MethodHandle" ∧ yX5_ends.cls ≠ "java/lang/invoke/VarHandle" ∧ (parseMethodDescriptor yX5_ends.desc).map (fun d => d.parameters.length) = some 2 := by decide +kernel
theorem hd_X5_goes : yX5_goes.cls = RX5 ∧ yX5_goes.cls ≠ "java/lang/invoke/MethodHandle" ∧ yX5_goes.cls ≠ "java/lang/invoke/VarHandle" ∧ (parseMethodDescriptor yX5_goes.desc).map (fun d => d.parameters.length) = some 2 := by decide +kernel
theorem hd_X5_go : yX5_go.cls = RX5 ∧ yX5_go.cls ≠ "java/lang/invoke/MethodHandle" ∧ yX5_go.cls ≠ "java/lang/invoke/VarHandle" ∧ (parseMethodDescriptor yX5_go.desc).map (fun d => d.parameters.length) = some 3 := by decide +kernel
theorem hd_X5_goOne : yX5_goOne.cls = RX5 ∧ yX5_goOne.cls ≠ "java/lang/invoke/MethodHandle" ∧ yX5_goOne.cls ≠ "java/lang/invoke/VarHandle" ∧ (parseMethodDescriptor yX5_goOne.desc).map (fun d => d.parameters.length) = some 1 := by decide +kernel
theorem hd_X5_fence : yX5_fence.cls = RX5 ∧ yX5_fence.cls ≠ "java/lang/invoke/MethodHandle" ∧ yX5_fence.cls ≠ "java/lang/invoke/VarHandle" ∧ (parseMethodDescriptor yX5_fence.desc).map (fun d => d.parameters.length) = some 1 := by decide +kernel
theorem hd_X5_spring : yX5_spring.cls = RX5 ∧ yX5_spring.cls ≠ "java/lang/invoke/MethodHandle" ∧ yX5_spring.cls ≠ "java/lang/invoke/VarHandle" ∧ (parseMethodDescriptor yX5_spring.desc).map (fun d => d.parameters.length) = some 4 := by decide +kernel
theorem hd_X5_boundsBy : yX5_boundsBy.cls = RX5 ∧ yX5_boundsBy.cls ≠ "java/lang/invoke/MethodHandle" ∧ yX5_boundsBy.cls ≠ "java/lang/invoke/VarHandle" ∧ (parseMethodDescriptor yX5_boundsBy.desc).map (fun d => d.parameters.length) = some 2 := by decide +kernel
theorem hd_X5_bestWedding : yX5_bestWedding.cls = RX5 ∧ yX5_bestWedding.cls ≠ "java/lang/invoke/MethodHandle" ∧ yX5_bestWedding.cls ≠ "java/lang/invoke/VarHandle" ∧ (parseMethodDescriptor yX5_bestWedding.desc).map (fun d => d.parameters.length) = some 0 := by decide +kernel
theorem hd_X5_narrowest : yX5_narrowest.cls = RX5 ∧ yX5_narrowest.cls ≠ "java/lang/invoke/MethodHandle" ∧ yX5_narrowest.cls ≠ "java/lang/invoke/VarHandle" ∧ (parseMethodDescriptor yX5_narrowest.desc).map (fun d => d.parameters.length) = some 0 := by decide +kernel
theorem hd_X5_bounds : yX5_bounds.cls = RX5 ∧ yX5_bounds.cls ≠ "java/lang/invoke/MethodHandle" ∧ yX5_bounds.cls ≠ "java/lang/invoke/VarHandle" ∧ (parseMethodDescriptor yX5_bounds.desc).map (fun d => d.parameters.length) = some 1 := by decide +kernel
theorem hd_X5_image : yX5_image.cls = RX5 ∧ yX5_image.cls ≠ "java/lang/invoke/MethodHandle" ∧ yX5_image.cls ≠ "java/lang/invoke/VarHandle" ∧ (parseMethodDescriptor yX5_image.desc).map (fun d => d.parameters.length) = some 1 := by decide +kernel
theorem hd_X5_restore : yX5_restore.cls = RX5 ∧ yX5_restore.cls ≠ "java/lang/invoke/MethodHandle" ∧ yX5_restore.cls ≠ "java/lang/invoke/VarHandle" ∧ (parseMethodDescriptor yX5_restore.desc).map (fun d => d.parameters.length) = some 1 := by decide +kernel
theorem hd_X5_told : yX5_told.cls = RX5 ∧ yX5_told.cls ≠ "java/lang/invoke/MethodHandle" ∧ yX5_told.cls ≠ "java/lang/invoke/VarHandle" ∧ (parseMethodDescriptor yX5_told.desc).map (fun d => d.parameters.length) = some 1 := by decide +kernel
set_option maxRecDepth 20000 in
set_option maxHeartbeats 4000000 in
theorem c_J0_isLatin1_aae02 (l : Launch) (g : gE)  (x0 : Nat) (hx0 : x0 < 2) (K : Int32 → Prop) (hw : wp_J0_isLatin1_aae02 x0 K) : Ci l g yJ0_isLatin1_aae02 wsJ0_isLatin1_aae02 { frames := 0, cells := 0, slots := 0, locals := 0 } [.ref (g.2.2 x0)] [] (fun (r : Int32) (_ : Unit) => K r) (fun (_ : Unit) => []) 0 0 := by
  refine Ci_of (cc := cJ0_isLatin1_aae02) (nL := 1) (ret := (some .boolean)) (own := RJ0) (lv0 := [(0, .ref (g.2.2 x0))]) (by decide +kernel) rfl rfl (Nat.le_of_ble_eq_true rfl) rfl (fun A x C R => ?_)
  refine j_compact C 3 rfl (List.mem_of_getElem? (i := 1) rfl) dJ0_isLatin1_aae02_0 ?_
  refine j_if_eq C 6 rfl 17 dJ0_isLatin1_aae02_3 rfl (fun c => absurd c (by decide)) (fun c => ?_)
  refine j_aload_n C 7 rfl 0 dJ0_isLatin1_aae02_6 rfl rfl ?_
  refine j_coder C 10 rfl x0 (hx0) (List.mem_of_getElem? (i := 2) rfl) dJ0_isLatin1_aae02_7 ?_
  refine j_if_ne C 13 rfl 17 dJ0_isLatin1_aae02_10 rfl (fun c => absurd c (by decide)) (fun c => ?_)
  refine j_iconst C 14 rfl dJ0_isLatin1_aae02_13 (v := (1 : Int32)) (by decide) ?_
  refine j_goto C 18 dJ0_isLatin1_aae02_14 rfl ?_
  exact j_iret C R () rfl dJ0_isLatin1_aae02_18 rfl hw
set_option maxRecDepth 20000 in
set_option maxHeartbeats 4000000 in
theorem c_J0_coder_7d493 (l : Launch) (g : gE)  (x0 : Nat) (hx0 : x0 < 2) (K : Int32 → Prop) (hw : wp_J0_coder_7d493 x0 K) : Ci l g yJ0_coder_7d493 wsJ0_coder_7d493 { frames := 0, cells := 0, slots := 0, locals := 0 } [.ref (g.2.2 x0)] [] (fun (r : Int32) (_ : Unit) => K r) (fun (_ : Unit) => []) 0 0 := by
  refine Ci_of (cc := cJ0_coder_7d493) (nL := 1) (ret := (some .byte)) (own := RJ0) (lv0 := [(0, .ref (g.2.2 x0))]) (by decide +kernel) rfl rfl (Nat.le_of_ble_eq_true rfl) rfl (fun A x C R => ?_)
  refine j_compact C 3 rfl (List.mem_of_getElem? (i := 1) rfl) dJ0_coder_7d493_0 ?_
  refine j_if_eq C 6 rfl 13 dJ0_coder_7d493_3 rfl (fun c => absurd c (by decide)) (fun c => ?_)
  refine j_aload_n C 7 rfl 0 dJ0_coder_7d493_6 rfl rfl ?_
  refine j_coder C 10 rfl x0 (hx0) (List.mem_of_getElem? (i := 2) rfl) dJ0_coder_7d493_7 ?_
  refine j_goto C 14 dJ0_coder_7d493_10 rfl ?_
  exact j_iret C R () rfl dJ0_coder_7d493_14 rfl hw
set_option maxRecDepth 20000 in
set_option maxHeartbeats 4000000 in
theorem c_J0_length_8abf5 (l : Launch) (g : gE)  (x0 : Nat) (hx0 : x0 < 2) (K : Int32 → Prop) (hw : wp_J0_length_8abf5 x0 K) : Ci l g yJ0_length_8abf5 wsJ0_length_8abf5 { frames := 1, cells := 0, slots := 0, locals := 20 } [.ref (g.2.2 x0)] [] (fun (r : Int32) (_ : Unit) => K r) (fun (_ : Unit) => []) 0 0 := by
  refine Ci_of (cc := cJ0_length_8abf5) (nL := 1) (ret := (some .int)) (own := RJ0) (lv0 := [(0, .ref (g.2.2 x0))]) (by decide +kernel) rfl rfl (Nat.le_of_ble_eq_true rfl) rfl (fun A x C R => ?_)
  refine j_aload_n C 1 rfl 0 dJ0_length_8abf5_0 rfl rfl ?_
  refine j_value C 4 rfl x0 (hx0) (List.mem_of_getElem? (i := 1) rfl) dJ0_length_8abf5_1 ?_
  refine j_blen C 5 rfl x0 (hx0) dJ0_length_8abf5_4 ?_
  refine j_aload_n C 6 rfl 0 dJ0_length_8abf5_5 rfl rfl ?_
  refine j_ri C 9 rfl (jc_V C (c_J0_coder_7d493 l g x0 hx0 _ hw) 0 gJ0_length_8abf5_J0_coder_7d493 rfl rfl rfl hd_J0_coder_7d493 ⟨Nat.le_of_ble_eq_true rfl, Nat.le_of_ble_eq_true rfl⟩ (j_recK C x0 hx0) [] rfl rfl (rest := [.int (nI (gLen.getD x0 0))]) rfl rfl (Nat.le_of_ble_eq_true rfl) dJ0_length_8abf5_6 ⟨Nat.le_refl _, Nat.le_refl _⟩) [] rfl (fun _ => rfl) (fun r1 _ hw => ?_)
  try dsimp only at hw
  refine j_ishr C 10 rfl dJ0_length_8abf5_9 ?_
  exact j_iret C R () rfl dJ0_length_8abf5_10 rfl hw
set_option maxRecDepth 20000 in
set_option maxHeartbeats 4000000 in
theorem c_J1_canEncode_9a6ad (l : Launch) (g : gE)  (x0 : Int32)  (K : Int32 → Prop) (hw : wp_J1_canEncode_9a6ad x0 K) : Ci l g yJ1_canEncode_9a6ad wsJ1_canEncode_9a6ad { frames := 0, cells := 0, slots := 0, locals := 0 } [.int x0] [] (fun (r : Int32) (_ : Unit) => K r) (fun (_ : Unit) => []) 0 0 := by
  refine Ci_of (cc := cJ1_canEncode_9a6ad) (nL := 1) (ret := (some .boolean)) (own := RJ1) (lv0 := [(0, .int x0)]) (by decide +kernel) rfl rfl (Nat.le_of_ble_eq_true rfl) rfl (fun A x C R => ?_)
  refine j_iload_n C 1 rfl 0 dJ1_canEncode_9a6ad_0 rfl rfl ?_
  refine j_if_lt C 4 rfl 15 dJ1_canEncode_9a6ad_1 rfl (fun c => ?_) (fun c => ?_)
  · have hw := hw.1 c
    refine j_iconst C 16 rfl dJ1_canEncode_9a6ad_15 (v := (0 : Int32)) (by decide) ?_
    exact j_iret C R () rfl dJ1_canEncode_9a6ad_16 rfl hw
  · have hw := hw.2 c
    refine j_iload_n C 5 rfl 0 dJ1_canEncode_9a6ad_4 rfl rfl ?_
    refine j_sipush C 8 rfl dJ1_canEncode_9a6ad_5 (v := (255 : Int32)) (by decide) ?_
    refine j_icmp_gt C 11 rfl 15 dJ1_canEncode_9a6ad_8 rfl (fun c => ?_) (fun c => ?_)
    · have hw := hw.1 c
      refine j_iconst C 16 rfl dJ1_canEncode_9a6ad_15 (v := (0 : Int32)) (by decide) ?_
      exact j_iret C R () rfl dJ1_canEncode_9a6ad_16 rfl hw
    · have hw := hw.2 c
      refine j_iconst C 12 rfl dJ1_canEncode_9a6ad_11 (v := (1 : Int32)) (by decide) ?_
      refine j_goto C 16 dJ1_canEncode_9a6ad_12 rfl ?_
      exact j_iret C R () rfl dJ1_canEncode_9a6ad_16 rfl hw
set_option maxRecDepth 20000 in
set_option maxHeartbeats 4000000 in
theorem c_J1_indexOfChar_4cfef (l : Launch) (g : gE)  (x0 : Nat) (x1 : Int32) (x2 : Int32) (x3 : Int32) (hx0 : x0 < 2) (K : Int32 → Prop) (hw : wp_J1_indexOfChar_4cfef x0 x1 x2 x3 K) : Ci l g yJ1_indexOfChar_4cfef wsJ1_indexOfChar_4cfef { frames := 0, cells := 0, slots := 0, locals := 0 } [.ref (g.2.2 (x0 + 10)), .int x1, .int x2, .int x3] [] (fun (r : Int32) (_ : Unit) => K r) (fun (_ : Unit) => []) 0 0 := by
  refine Ci_of (cc := cJ1_indexOfChar_4cfef) (nL := 6) (ret := (some .int)) (own := RJ1) (lv0 := [(0, .ref (g.2.2 (x0 + 10))), (1, .int x1), (2, .int x2), (3, .int x3)]) (by decide +kernel) rfl rfl (Nat.le_of_ble_eq_true rfl) rfl (fun A x C R => ?_)
  refine j_iload_n C 1 rfl 1 dJ1_indexOfChar_4cfef_0 rfl rfl ?_
  refine j_i2b C 2 rfl dJ1_indexOfChar_4cfef_1 ?_
  refine j_top (fun n1 en1 => ?_)
  have hw := hw n1 en1
  refine j_istore C 4 rfl [1, 2, 3, 4, 0] (lv' := [(0, .ref (g.2.2 (x0 + 10))), (1, .int x1), (2, .int x2), (3, .int x3), (4, .int n1)]) dJ1_indexOfChar_4cfef_2 (by decide) rfl ?_
  refine j_iload_n C 5 rfl 2 dJ1_indexOfChar_4cfef_4 rfl rfl ?_
  refine j_istore C 7 rfl [1, 2, 3, 4, 5, 0] (lv' := [(0, .ref (g.2.2 (x0 + 10))), (1, .int x1), (2, .int x2), (3, .int x3), (4, .int n1), (5, .int x2)]) dJ1_indexOfChar_4cfef_5 (by decide) rfl ?_
  refine j_lv [0, 3, 4, 5] (lv' := [(0, .ref (g.2.2 (x0 + 10))), (3, .int x3), (4, .int n1), (5, .int x2)]) rfl ?_
  refine lpW1_ind (G := fun x5 => J l g A x 6 0 0 7 [(0, .ref (g.2.2 (x0 + 10))), (3, .int x3), (4, .int n1), (5, .int x5)] [] []) (fun L7 x5 hL7 hw => ?_) _ hw
  refine j_iload C 9 rfl 3 dJ1_indexOfChar_4cfef_7 rfl ?_
  refine j_iload_n C 10 rfl 1 dJ1_indexOfChar_4cfef_9 rfl rfl ?_
  refine j_icmp_ge C 13 rfl 31 dJ1_indexOfChar_4cfef_10 rfl (fun c => ?_) (fun c => ?_)
  · have hw := hw.1 c
    refine j_iconst C 32 rfl dJ1_indexOfChar_4cfef_31 (v := (-1 : Int32)) (by decide) ?_
    exact j_iret C R () rfl dJ1_indexOfChar_4cfef_32 rfl hw
  · have hw := hw.2 c
    refine j_aload_n C 14 rfl 0 dJ1_indexOfChar_4cfef_13 rfl rfl ?_
    refine j_iload C 16 rfl 3 dJ1_indexOfChar_4cfef_14 rfl ?_
    obtain ⟨k2, ek2, hk2, hw⟩ := hw
    refine j_bald C 17 rfl x0 k2 (hx0) ek2 hk2 dJ1_indexOfChar_4cfef_16 ?_
    refine j_iload C 19 rfl 2 dJ1_indexOfChar_4cfef_17 rfl ?_
    refine j_icmp_ne C 22 rfl 25 dJ1_indexOfChar_4cfef_19 rfl (fun c => ?_) (fun c => ?_)
    · have hw := hw.1 c
      refine j_iinc C 28 rfl 3 [1, 2, 3, 0] (v' := (1 : Int32)) (lv' := fun z => [(0, .ref (g.2.2 (x0 + 10))), (3, .int x3), (4, .int n1), (5, .int z)]) dJ1_indexOfChar_4cfef_25 rfl (by decide) (by decide) (fun _ => rfl) (fun n3 en3 => ?_)
      have hw := hw n3 en3
      refine j_goto C 7 dJ1_indexOfChar_4cfef_28 rfl ?_
      exact hL7 _ hw
    · have hw := hw.2 c
      refine j_iload C 24 rfl 3 dJ1_indexOfChar_4cfef_22 rfl ?_
      exact j_iret C R () rfl dJ1_indexOfChar_4cfef_24 rfl hw
set_option maxRecDepth 20000 in
set_option maxHeartbeats 4000000 in
theorem c_J1_indexOf_4cfef (l : Launch) (g : gE)  (x0 : Nat) (x1 : Int32) (x2 : Int32) (x3 : Int32) (hx0 : x0 < 2) (K : Int32 → Prop) (hw : wp_J1_indexOf_4cfef x0 x1 x2 x3 K) : Ci l g yJ1_indexOf_4cfef wsJ1_indexOf_4cfef { frames := 1, cells := 0, slots := 0, locals := 40 } [.ref (g.2.2 (x0 + 10)), .int x1, .int x2, .int x3] [] (fun (r : Int32) (_ : Unit) => K r) (fun (_ : Unit) => []) 0 0 := by
  refine Ci_of (cc := cJ1_indexOf_4cfef) (nL := 4) (ret := (some .int)) (own := RJ1) (lv0 := [(0, .ref (g.2.2 (x0 + 10))), (1, .int x1), (2, .int x2), (3, .int x3)]) (by decide +kernel) rfl rfl (Nat.le_of_ble_eq_true rfl) rfl (fun A x C R => ?_)
  refine j_iload_n C 1 rfl 1 dJ1_indexOf_4cfef_0 rfl rfl ?_
  refine j_ri C 4 rfl (jc_S C (c_J1_canEncode_9a6ad l g x1 _ hw) 1 gJ1_indexOf_4cfef_J1_canEncode_9a6ad rfl rfl rfl hd_J1_canEncode_9a6ad ⟨Nat.le_of_ble_eq_true rfl, Nat.le_of_ble_eq_true rfl⟩ [] rfl rfl (rest := []) rfl rfl (Nat.le_of_ble_eq_true rfl) dJ1_indexOf_4cfef_1 ⟨Nat.le_refl _, Nat.le_refl _⟩) [] rfl (fun _ => rfl) (fun r1 _ hw => ?_)
  try dsimp only at hw
  refine j_if_ne C 7 rfl 9 dJ1_indexOf_4cfef_4 rfl (fun c => ?_) (fun c => ?_)
  · have hw := hw.1 c
    refine j_iload_n C 10 rfl 2 dJ1_indexOf_4cfef_9 rfl rfl ?_
    refine j_iconst C 11 rfl dJ1_indexOf_4cfef_10 (v := (0 : Int32)) (by decide) ?_
    refine j_max C 14 rfl (List.mem_of_getElem? (i := 1) rfl) (List.mem_of_getElem? (i := 2) rfl) (List.mem_of_getElem? (i := 3) rfl) (List.mem_of_getElem? (i := 4) rfl) (by decide) (Nat.le_of_ble_eq_true rfl) (by decide) (by decide) dJ1_indexOf_4cfef_11 ?_
    refine j_top (fun n2 en2 => ?_)
    have hw := hw n2 en2
    refine j_istore_n C 15 rfl [1, 2, 0, 3] (lv' := [(0, .ref (g.2.2 (x0 + 10))), (1, .int x1), (2, .int n2), (3, .int x3)]) dJ1_indexOf_4cfef_14 rfl (by decide) rfl ?_
    refine j_iload_n C 16 rfl 3 dJ1_indexOf_4cfef_15 rfl rfl ?_
    refine j_aload_n C 17 rfl 0 dJ1_indexOf_4cfef_16 rfl rfl ?_
    refine j_blen C 18 rfl x0 (hx0) dJ1_indexOf_4cfef_17 ?_
    refine j_min C 21 rfl (List.mem_of_getElem? (i := 5) rfl) (List.mem_of_getElem? (i := 6) rfl) (List.mem_of_getElem? (i := 3) rfl) (List.mem_of_getElem? (i := 7) rfl) (by decide) (Nat.le_of_ble_eq_true rfl) (by decide) (by decide) dJ1_indexOf_4cfef_18 ?_
    refine j_top (fun n3 en3 => ?_)
    have hw := hw n3 en3
    refine j_istore_n C 22 rfl [1, 2, 3, 0] (lv' := [(0, .ref (g.2.2 (x0 + 10))), (1, .int x1), (2, .int n2), (3, .int n3)]) dJ1_indexOf_4cfef_21 rfl (by decide) rfl ?_
    refine j_iload_n C 23 rfl 2 dJ1_indexOf_4cfef_22 rfl rfl ?_
    refine j_iload_n C 24 rfl 3 dJ1_indexOf_4cfef_23 rfl rfl ?_
    refine j_icmp_lt C 27 rfl 29 dJ1_indexOf_4cfef_24 rfl (fun c => ?_) (fun c => ?_)
    · have hw := hw.1 c
      refine j_aload_n C 30 rfl 0 dJ1_indexOf_4cfef_29 rfl rfl ?_
      refine j_iload_n C 31 rfl 1 dJ1_indexOf_4cfef_30 rfl rfl ?_
      refine j_iload_n C 32 rfl 2 dJ1_indexOf_4cfef_31 rfl rfl ?_
      refine j_iload_n C 33 rfl 3 dJ1_indexOf_4cfef_32 rfl rfl ?_
      refine j_ri C 36 rfl (jc_S C (c_J1_indexOfChar_4cfef l g x0 x1 n2 n3 hx0 _ hw) 4 gJ1_indexOf_4cfef_J1_indexOfChar_4cfef rfl rfl rfl hd_J1_indexOfChar_4cfef ⟨Nat.le_of_ble_eq_true rfl, Nat.le_of_ble_eq_true rfl⟩ [] rfl rfl (rest := []) rfl rfl (Nat.le_of_ble_eq_true rfl) dJ1_indexOf_4cfef_33 ⟨Nat.le_refl _, Nat.le_refl _⟩) [] rfl (fun _ => rfl) (fun r4 _ hw => ?_)
      try dsimp only at hw
      exact j_iret C R () rfl dJ1_indexOf_4cfef_36 rfl hw
    · have hw := hw.2 c
      refine j_iconst C 28 rfl dJ1_indexOf_4cfef_27 (v := (-1 : Int32)) (by decide) ?_
      exact j_iret C R () rfl dJ1_indexOf_4cfef_28 rfl hw
  · have hw := hw.2 c
    refine j_iconst C 8 rfl dJ1_indexOf_4cfef_7 (v := (-1 : Int32)) (by decide) ?_
    exact j_iret C R () rfl dJ1_indexOf_4cfef_8 rfl hw
set_option maxRecDepth 20000 in
set_option maxHeartbeats 4000000 in
theorem c_J0_indexOf_7cf53 (l : Launch) (g : gE)  (x0 : Nat) (x1 : Int32) (x2 : Int32) (hx0 : x0 < 2) (K : Int32 → Prop) (hw : wp_J0_indexOf_7cf53 x0 x1 x2 K) : Ci l g yJ0_indexOf_7cf53 wsJ0_indexOf_7cf53 { frames := 2, cells := 0, slots := 0, locals := 63 } [.ref (g.2.2 x0), .int x1, .int x2] [] (fun (r : Int32) (_ : Unit) => K r) (fun (_ : Unit) => []) 0 0 := by
  refine Ci_of (cc := cJ0_indexOf_7cf53) (nL := 3) (ret := (some .int)) (own := RJ0) (lv0 := [(0, .ref (g.2.2 x0)), (1, .int x1), (2, .int x2)]) (by decide +kernel) rfl rfl (Nat.le_of_ble_eq_true rfl) rfl (fun A x C R => ?_)
  refine j_aload_n C 1 rfl 0 dJ0_indexOf_7cf53_0 rfl rfl ?_
  refine j_ri C 4 rfl (jc_V C (c_J0_isLatin1_aae02 l g x0 hx0 _ hw) 0 gJ0_indexOf_7cf53_J0_isLatin1_aae02 rfl rfl rfl hd_J0_isLatin1_aae02 ⟨Nat.le_of_ble_eq_true rfl, Nat.le_of_ble_eq_true rfl⟩ (j_recK C x0 hx0) [] rfl rfl (rest := []) rfl rfl (Nat.le_of_ble_eq_true rfl) dJ0_indexOf_7cf53_1 ⟨Nat.le_refl _, Nat.le_refl _⟩) [] rfl (fun _ => rfl) (fun r1 _ hw => ?_)
  try dsimp only at hw
  refine j_if_eq C 7 rfl 23 dJ0_indexOf_7cf53_4 rfl (fun c => ?_) (fun c => ?_)
  · have hw := hw.1 c
    refine j_aload_n C 24 rfl 0 dJ0_indexOf_7cf53_23 rfl rfl ?_
    refine j_value C 27 rfl x0 (hx0) (List.mem_of_getElem? (i := 1) rfl) dJ0_indexOf_7cf53_24 ?_
    refine j_iload_n C 28 rfl 1 dJ0_indexOf_7cf53_27 rfl rfl ?_
    refine j_iload_n C 29 rfl 2 dJ0_indexOf_7cf53_28 rfl rfl ?_
    refine j_aload_n C 30 rfl 0 dJ0_indexOf_7cf53_29 rfl rfl ?_
    refine j_ri C 33 rfl (jc_V C (c_J0_length_8abf5 l g x0 hx0 _ hw) 0 gJ0_indexOf_7cf53_J0_length_8abf5 rfl rfl rfl hd_J0_length_8abf5 ⟨Nat.le_of_ble_eq_true rfl, Nat.le_of_ble_eq_true rfl⟩ (j_recK C x0 hx0) [] rfl rfl (rest := [.int x2, .int x1, .ref (g.2.2 (x0 + 10))]) rfl rfl (Nat.le_of_ble_eq_true rfl) dJ0_indexOf_7cf53_30 ⟨Nat.le_refl _, Nat.le_refl _⟩) [] rfl (fun _ => rfl) (fun r2 _ hw => ?_)
    try dsimp only at hw
    all_goals exact hw.elim
  · have hw := hw.2 c
    refine j_aload_n C 8 rfl 0 dJ0_indexOf_7cf53_7 rfl rfl ?_
    refine j_value C 11 rfl x0 (hx0) (List.mem_of_getElem? (i := 1) rfl) dJ0_indexOf_7cf53_8 ?_
    refine j_iload_n C 12 rfl 1 dJ0_indexOf_7cf53_11 rfl rfl ?_
    refine j_iload_n C 13 rfl 2 dJ0_indexOf_7cf53_12 rfl rfl ?_
    refine j_aload_n C 14 rfl 0 dJ0_indexOf_7cf53_13 rfl rfl ?_
    refine j_ri C 17 rfl (jc_V C (c_J0_length_8abf5 l g x0 hx0 _ hw) 0 gJ0_indexOf_7cf53_J0_length_8abf5 rfl rfl rfl hd_J0_length_8abf5 ⟨Nat.le_of_ble_eq_true rfl, Nat.le_of_ble_eq_true rfl⟩ (j_recK C x0 hx0) [] rfl rfl (rest := [.int x2, .int x1, .ref (g.2.2 (x0 + 10))]) rfl rfl (Nat.le_of_ble_eq_true rfl) dJ0_indexOf_7cf53_14 ⟨Nat.le_refl _, Nat.le_refl _⟩) [] rfl (fun _ => rfl) (fun r3 _ hw => ?_)
    try dsimp only at hw
    refine j_ri C 20 rfl (jc_S C (c_J1_indexOf_4cfef l g x0 x1 x2 r3 hx0 _ hw) 4 gJ0_indexOf_7cf53_J1_indexOf_4cfef rfl rfl rfl hd_J1_indexOf_4cfef ⟨Nat.le_of_ble_eq_true rfl, Nat.le_of_ble_eq_true rfl⟩ [] rfl rfl (rest := []) rfl rfl (Nat.le_of_ble_eq_true rfl) dJ0_indexOf_7cf53_17 ⟨Nat.le_refl _, Nat.le_refl _⟩) [] rfl (fun _ => rfl) (fun r4 _ hw => ?_)
    try dsimp only at hw
    refine j_goto C 36 dJ0_indexOf_7cf53_20 rfl ?_
    exact j_iret C R () rfl dJ0_indexOf_7cf53_36 rfl hw
set_option maxRecDepth 20000 in
set_option maxHeartbeats 4000000 in
theorem c_J0_indexOf_0f7a4 (l : Launch) (g : gE)  (x0 : Nat) (x1 : Int32) (hx0 : x0 < 2) (K : Int32 → Prop) (hw : wp_J0_indexOf_0f7a4 x0 x1 K) : Ci l g yJ0_indexOf_0f7a4 wsJ0_indexOf_0f7a4 { frames := 3, cells := 0, slots := 0, locals := 85 } [.ref (g.2.2 x0), .int x1] [] (fun (r : Int32) (_ : Unit) => K r) (fun (_ : Unit) => []) 0 0 := by
  refine Ci_of (cc := cJ0_indexOf_0f7a4) (nL := 2) (ret := (some .int)) (own := RJ0) (lv0 := [(0, .ref (g.2.2 x0)), (1, .int x1)]) (by decide +kernel) rfl rfl (Nat.le_of_ble_eq_true rfl) rfl (fun A x C R => ?_)
  refine j_aload_n C 1 rfl 0 dJ0_indexOf_0f7a4_0 rfl rfl ?_
  refine j_iload_n C 2 rfl 1 dJ0_indexOf_0f7a4_1 rfl rfl ?_
  refine j_iconst C 3 rfl dJ0_indexOf_0f7a4_2 (v := (0 : Int32)) (by decide) ?_
  refine j_ri C 6 rfl (jc_V C (c_J0_indexOf_7cf53 l g x0 x1 (0 : Int32) hx0 _ hw) 2 gJ0_indexOf_0f7a4_J0_indexOf_7cf53 rfl rfl rfl hd_J0_indexOf_7cf53 ⟨Nat.le_of_ble_eq_true rfl, Nat.le_of_ble_eq_true rfl⟩ (j_recK C x0 hx0) [] rfl rfl (rest := []) rfl rfl (Nat.le_of_ble_eq_true rfl) dJ0_indexOf_0f7a4_3 ⟨Nat.le_refl _, Nat.le_refl _⟩) [] rfl (fun _ => rfl) (fun r1 _ hw => ?_)
  try dsimp only at hw
  exact j_iret C R () rfl dJ0_indexOf_0f7a4_6 rfl hw
set_option maxRecDepth 20000 in
set_option maxHeartbeats 4000000 in
theorem c_J6_bitCount_0f7a4 (l : Launch) (g : gE)  (x0 : Int32)  (K : Int32 → Prop) (hw : wp_J6_bitCount_0f7a4 x0 K) : Ci l g yJ6_bitCount_0f7a4 wsJ6_bitCount_0f7a4 { frames := 0, cells := 0, slots := 0, locals := 0 } [.int x0] [] (fun (r : Int32) (_ : Unit) => K r) (fun (_ : Unit) => []) 0 0 := by
  refine Ci_of (cc := cJ6_bitCount_0f7a4) (nL := 1) (ret := (some .int)) (own := RJ6) (lv0 := [(0, .int x0)]) (by decide +kernel) rfl rfl (Nat.le_of_ble_eq_true rfl) rfl (fun A x C R => ?_)
  refine j_iload_n C 1 rfl 0 dJ6_bitCount_0f7a4_0 rfl rfl ?_
  refine j_iload_n C 2 rfl 0 dJ6_bitCount_0f7a4_1 rfl rfl ?_
  refine j_iconst C 3 rfl dJ6_bitCount_0f7a4_2 (v := (1 : Int32)) (by decide) ?_
  refine j_iushr C 4 rfl dJ6_bitCount_0f7a4_3 ?_
  refine j_ldc_w C 7 rfl (v := (1431655765 : Int32)) (List.mem_of_getElem? (i := 1) rfl) dJ6_bitCount_0f7a4_4 ?_
  refine j_iand C 8 rfl dJ6_bitCount_0f7a4_7 ?_
  refine j_isub C 9 rfl dJ6_bitCount_0f7a4_8 ?_
  refine j_top (fun n1 en1 => ?_)
  have hw := hw n1 en1
  refine j_istore_n C 10 rfl [0] (lv' := [(0, .int n1)]) dJ6_bitCount_0f7a4_9 rfl (by decide) rfl ?_
  refine j_iload_n C 11 rfl 0 dJ6_bitCount_0f7a4_10 rfl rfl ?_
  refine j_ldc_w C 14 rfl (v := (858993459 : Int32)) (List.mem_of_getElem? (i := 2) rfl) dJ6_bitCount_0f7a4_11 ?_
  refine j_iand C 15 rfl dJ6_bitCount_0f7a4_14 ?_
  refine j_iload_n C 16 rfl 0 dJ6_bitCount_0f7a4_15 rfl rfl ?_
  refine j_iconst C 17 rfl dJ6_bitCount_0f7a4_16 (v := (2 : Int32)) (by decide) ?_
  refine j_iushr C 18 rfl dJ6_bitCount_0f7a4_17 ?_
  refine j_ldc_w C 21 rfl (v := (858993459 : Int32)) (List.mem_of_getElem? (i := 2) rfl) dJ6_bitCount_0f7a4_18 ?_
  refine j_iand C 22 rfl dJ6_bitCount_0f7a4_21 ?_
  refine j_iadd C 23 rfl dJ6_bitCount_0f7a4_22 ?_
  refine j_top (fun n2 en2 => ?_)
  have hw := hw n2 en2
  refine j_istore_n C 24 rfl [0] (lv' := [(0, .int n2)]) dJ6_bitCount_0f7a4_23 rfl (by decide) rfl ?_
  refine j_iload_n C 25 rfl 0 dJ6_bitCount_0f7a4_24 rfl rfl ?_
  refine j_iload_n C 26 rfl 0 dJ6_bitCount_0f7a4_25 rfl rfl ?_
  refine j_iconst C 27 rfl dJ6_bitCount_0f7a4_26 (v := (4 : Int32)) (by decide) ?_
  refine j_iushr C 28 rfl dJ6_bitCount_0f7a4_27 ?_
  refine j_iadd C 29 rfl dJ6_bitCount_0f7a4_28 ?_
  refine j_ldc_w C 32 rfl (v := (252645135 : Int32)) (List.mem_of_getElem? (i := 3) rfl) dJ6_bitCount_0f7a4_29 ?_
  refine j_iand C 33 rfl dJ6_bitCount_0f7a4_32 ?_
  refine j_top (fun n3 en3 => ?_)
  have hw := hw n3 en3
  refine j_istore_n C 34 rfl [0] (lv' := [(0, .int n3)]) dJ6_bitCount_0f7a4_33 rfl (by decide) rfl ?_
  refine j_iload_n C 35 rfl 0 dJ6_bitCount_0f7a4_34 rfl rfl ?_
  refine j_iload_n C 36 rfl 0 dJ6_bitCount_0f7a4_35 rfl rfl ?_
  refine j_bipush C 38 rfl dJ6_bitCount_0f7a4_36 (v := (8 : Int32)) (by decide) ?_
  refine j_iushr C 39 rfl dJ6_bitCount_0f7a4_38 ?_
  refine j_iadd C 40 rfl dJ6_bitCount_0f7a4_39 ?_
  refine j_top (fun n4 en4 => ?_)
  have hw := hw n4 en4
  refine j_istore_n C 41 rfl [0] (lv' := [(0, .int n4)]) dJ6_bitCount_0f7a4_40 rfl (by decide) rfl ?_
  refine j_iload_n C 42 rfl 0 dJ6_bitCount_0f7a4_41 rfl rfl ?_
  refine j_iload_n C 43 rfl 0 dJ6_bitCount_0f7a4_42 rfl rfl ?_
  refine j_bipush C 45 rfl dJ6_bitCount_0f7a4_43 (v := (16 : Int32)) (by decide) ?_
  refine j_iushr C 46 rfl dJ6_bitCount_0f7a4_45 ?_
  refine j_iadd C 47 rfl dJ6_bitCount_0f7a4_46 ?_
  refine j_top (fun n5 en5 => ?_)
  have hw := hw n5 en5
  refine j_istore_n C 48 rfl [0] (lv' := [(0, .int n5)]) dJ6_bitCount_0f7a4_47 rfl (by decide) rfl ?_
  refine j_iload_n C 49 rfl 0 dJ6_bitCount_0f7a4_48 rfl rfl ?_
  refine j_bipush C 51 rfl dJ6_bitCount_0f7a4_49 (v := (63 : Int32)) (by decide) ?_
  refine j_iand C 52 rfl dJ6_bitCount_0f7a4_51 ?_
  exact j_iret C R () rfl dJ6_bitCount_0f7a4_52 rfl hw
set_option maxRecDepth 20000 in
set_option maxHeartbeats 4000000 in
theorem c_J3_checkIndex_8e157 (l : Launch) (g : gE)  (x0 : Int32) (x1 : Int32) (x2 : Value) (hx2 : x2 = .null ∨ ∃ t, x2 = .ref t) (K : Int32 → Prop) (hw : wp_J3_checkIndex_8e157 x0 x1 K) : Ci l g yJ3_checkIndex_8e157 wsJ3_checkIndex_8e157 { frames := 0, cells := 0, slots := 0, locals := 0 } [.int x0, .int x1, x2] [] (fun (r : Int32) (_ : Unit) => K r) (fun (_ : Unit) => []) 0 0 := by
  rcases hx2 with rfl | ⟨t, rfl⟩
  · refine Ci_of (cc := cJ3_checkIndex_8e157) (nL := 3) (ret := (some .int)) (own := RJ3) (lv0 := [(0, .int x0), (1, .int x1), (2, .null)]) (by decide +kernel) rfl rfl (Nat.le_of_ble_eq_true rfl) rfl (fun A x C R => ?_)
    refine j_iload_n C 1 rfl 0 dJ3_checkIndex_8e157_0 rfl rfl ?_
    refine j_if_lt C 4 rfl 9 dJ3_checkIndex_8e157_1 rfl (fun c => ?_) (fun c => ?_)
    · have hw := hw.1 c
      all_goals exact hw.elim
    · have hw := hw.2 c
      refine j_iload_n C 5 rfl 0 dJ3_checkIndex_8e157_4 rfl rfl ?_
      refine j_iload_n C 6 rfl 1 dJ3_checkIndex_8e157_5 rfl rfl ?_
      refine j_icmp_lt C 9 rfl 16 dJ3_checkIndex_8e157_6 rfl (fun c => ?_) (fun c => ?_)
      · have hw := hw.1 c
        refine j_iload_n C 17 rfl 0 dJ3_checkIndex_8e157_16 rfl rfl ?_
        exact j_iret C R () rfl dJ3_checkIndex_8e157_17 rfl hw
      · have hw := hw.2 c
        all_goals exact hw.elim
  · refine Ci_of (cc := cJ3_checkIndex_8e157) (nL := 3) (ret := (some .int)) (own := RJ3) (lv0 := [(0, .int x0), (1, .int x1), (2, .ref t)]) (by decide +kernel) rfl rfl (Nat.le_of_ble_eq_true rfl) rfl (fun A x C R => ?_)
    refine j_iload_n C 1 rfl 0 dJ3_checkIndex_8e157_0 rfl rfl ?_
    refine j_if_lt C 4 rfl 9 dJ3_checkIndex_8e157_1 rfl (fun c => ?_) (fun c => ?_)
    · have hw := hw.1 c
      all_goals exact hw.elim
    · have hw := hw.2 c
      refine j_iload_n C 5 rfl 0 dJ3_checkIndex_8e157_4 rfl rfl ?_
      refine j_iload_n C 6 rfl 1 dJ3_checkIndex_8e157_5 rfl rfl ?_
      refine j_icmp_lt C 9 rfl 16 dJ3_checkIndex_8e157_6 rfl (fun c => ?_) (fun c => ?_)
      · have hw := hw.1 c
        refine j_iload_n C 17 rfl 0 dJ3_checkIndex_8e157_16 rfl rfl ?_
        exact j_iret C R () rfl dJ3_checkIndex_8e157_17 rfl hw
      · have hw := hw.2 c
        all_goals exact hw.elim
set_option maxRecDepth 20000 in
set_option maxHeartbeats 4000000 in
theorem c_J0_checkIndex_df160 (l : Launch) (g : gE)  (x0 : Int32) (x1 : Int32)  (K : Prop) (hw : wp_J0_checkIndex_df160 x0 x1 K) : Cv l g yJ0_checkIndex_df160 wsJ0_checkIndex_df160 { frames := 1, cells := 0, slots := 0, locals := 22 } [.int x0, .int x1] [] (fun (_ : Unit) => K) (fun (_ : Unit) => []) 0 0 := by
  refine Cv_of (cc := cJ0_checkIndex_df160) (nL := 2) (ret := none) (own := RJ0) (lv0 := [(0, .int x0), (1, .int x1)]) (by decide +kernel) rfl rfl (Nat.le_of_ble_eq_true rfl) rfl (fun A x C R => ?_)
  refine j_iload_n C 1 rfl 0 dJ0_checkIndex_df160_0 rfl rfl ?_
  refine j_iload_n C 2 rfl 1 dJ0_checkIndex_df160_1 rfl rfl ?_
  refine j_sioobe C 5 rfl (List.mem_of_getElem? (i := 1) rfl) dJ0_checkIndex_df160_2 (fun q1 hq1 => ?_)
  refine j_ri C 8 rfl (jc_S C (c_J3_checkIndex_8e157 l g x0 x1 q1 hq1 _ hw) 3 gJ0_checkIndex_df160_J3_checkIndex_8e157 rfl rfl rfl hd_J3_checkIndex_8e157 ⟨Nat.le_of_ble_eq_true rfl, Nat.le_of_ble_eq_true rfl⟩ [] rfl rfl (rest := []) rfl rfl (Nat.le_of_ble_eq_true rfl) dJ0_checkIndex_df160_5 ⟨Nat.le_refl _, Nat.le_refl _⟩) [] rfl (fun _ => rfl) (fun r2 _ hw => ?_)
  try dsimp only at hw
  refine j_pop C 9 rfl dJ0_checkIndex_df160_8 rfl ?_
  exact j_vret C R () dJ0_checkIndex_df160_9 rfl hw
set_option maxRecDepth 20000 in
set_option maxHeartbeats 4000000 in
theorem c_J1_charAt_3b067 (l : Launch) (g : gE)  (x0 : Nat) (x1 : Int32) (hx0 : x0 < 2) (K : Int32 → Prop) (hw : wp_J1_charAt_3b067 x0 x1 K) : Ci l g yJ1_charAt_3b067 wsJ1_charAt_3b067 { frames := 2, cells := 0, slots := 0, locals := 43 } [.ref (g.2.2 (x0 + 10)), .int x1] [] (fun (r : Int32) (_ : Unit) => K r) (fun (_ : Unit) => []) 0 0 := by
  refine Ci_of (cc := cJ1_charAt_3b067) (nL := 2) (ret := (some .char)) (own := RJ1) (lv0 := [(0, .ref (g.2.2 (x0 + 10))), (1, .int x1)]) (by decide +kernel) rfl rfl (Nat.le_of_ble_eq_true rfl) rfl (fun A x C R => ?_)
  refine j_iload_n C 1 rfl 1 dJ1_charAt_3b067_0 rfl rfl ?_
  refine j_aload_n C 2 rfl 0 dJ1_charAt_3b067_1 rfl rfl ?_
  refine j_blen C 3 rfl x0 (hx0) dJ1_charAt_3b067_2 ?_
  refine j_top (fun n1 en1 => ?_)
  have hw := hw n1 en1
  refine j_rv C 6 rfl (jc_S C (c_J0_checkIndex_df160 l g x1 n1 _ hw) 2 gJ1_charAt_3b067_J0_checkIndex_df160 rfl rfl rfl hd_J0_checkIndex_df160 ⟨Nat.le_of_ble_eq_true rfl, Nat.le_of_ble_eq_true rfl⟩ [] rfl rfl (rest := []) rfl rfl (Nat.le_of_ble_eq_true rfl) dJ1_charAt_3b067_3 ⟨Nat.le_refl _, Nat.le_refl _⟩) [] rfl (fun _ => rfl) (fun _ hw => ?_)
  try dsimp only at hw
  refine j_aload_n C 7 rfl 0 dJ1_charAt_3b067_6 rfl rfl ?_
  refine j_iload_n C 8 rfl 1 dJ1_charAt_3b067_7 rfl rfl ?_
  obtain ⟨k2, ek2, hk2, hw⟩ := hw
  refine j_bald C 9 rfl x0 k2 (hx0) ek2 hk2 dJ1_charAt_3b067_8 ?_
  refine j_sipush C 12 rfl dJ1_charAt_3b067_9 (v := (255 : Int32)) (by decide) ?_
  refine j_iand C 13 rfl dJ1_charAt_3b067_12 ?_
  refine j_i2c C 14 rfl dJ1_charAt_3b067_13 ?_
  obtain ⟨hn, hw⟩ := hw
  exact j_iret C R () hn dJ1_charAt_3b067_14 rfl hw
set_option maxRecDepth 20000 in
set_option maxHeartbeats 4000000 in
theorem c_J0_charAt_5068e (l : Launch) (g : gE)  (x0 : Nat) (x1 : Int32) (hx0 : x0 < 2) (K : Int32 → Prop) (hw : wp_J0_charAt_5068e x0 x1 K) : Ci l g yJ0_charAt_5068e wsJ0_charAt_5068e { frames := 3, cells := 0, slots := 0, locals := 64 } [.ref (g.2.2 x0), .int x1] [] (fun (r : Int32) (_ : Unit) => K r) (fun (_ : Unit) => []) 0 0 := by
  refine Ci_of (cc := cJ0_charAt_5068e) (nL := 2) (ret := (some .char)) (own := RJ0) (lv0 := [(0, .ref (g.2.2 x0)), (1, .int x1)]) (by decide +kernel) rfl rfl (Nat.le_of_ble_eq_true rfl) rfl (fun A x C R => ?_)
  refine j_aload_n C 1 rfl 0 dJ0_charAt_5068e_0 rfl rfl ?_
  refine j_ri C 4 rfl (jc_V C (c_J0_isLatin1_aae02 l g x0 hx0 _ hw) 0 gJ0_charAt_5068e_J0_isLatin1_aae02 rfl rfl rfl hd_J0_isLatin1_aae02 ⟨Nat.le_of_ble_eq_true rfl, Nat.le_of_ble_eq_true rfl⟩ (j_recK C x0 hx0) [] rfl rfl (rest := []) rfl rfl (Nat.le_of_ble_eq_true rfl) dJ0_charAt_5068e_1 ⟨Nat.le_refl _, Nat.le_refl _⟩) [] rfl (fun _ => rfl) (fun r1 _ hw => ?_)
  try dsimp only at hw
  refine j_if_eq C 7 rfl 16 dJ0_charAt_5068e_4 rfl (fun c => ?_) (fun c => ?_)
  · have hw := hw.1 c
    refine j_aload_n C 17 rfl 0 dJ0_charAt_5068e_16 rfl rfl ?_
    refine j_value C 20 rfl x0 (hx0) (List.mem_of_getElem? (i := 1) rfl) dJ0_charAt_5068e_17 ?_
    refine j_iload_n C 21 rfl 1 dJ0_charAt_5068e_20 rfl rfl ?_
    all_goals exact hw.elim
  · have hw := hw.2 c
    refine j_aload_n C 8 rfl 0 dJ0_charAt_5068e_7 rfl rfl ?_
    refine j_value C 11 rfl x0 (hx0) (List.mem_of_getElem? (i := 1) rfl) dJ0_charAt_5068e_8 ?_
    refine j_iload_n C 12 rfl 1 dJ0_charAt_5068e_11 rfl rfl ?_
    refine j_ri C 15 rfl (jc_S C (c_J1_charAt_3b067 l g x0 x1 hx0 _ hw) 2 gJ0_charAt_5068e_J1_charAt_3b067 rfl rfl rfl hd_J1_charAt_3b067 ⟨Nat.le_of_ble_eq_true rfl, Nat.le_of_ble_eq_true rfl⟩ [] rfl rfl (rest := []) rfl rfl (Nat.le_of_ble_eq_true rfl) dJ0_charAt_5068e_12 ⟨Nat.le_refl _, Nat.le_refl _⟩) [] rfl (fun _ => rfl) (fun r2 _ hw => ?_)
    try dsimp only at hw
    obtain ⟨hn, hw⟩ := hw
    exact j_iret C R () hn dJ0_charAt_5068e_15 rfl hw
