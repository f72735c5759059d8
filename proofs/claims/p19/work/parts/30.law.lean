theorem wt_0 : Cond.initialized "StepCourtLaw" ∈ wz := wz_c tq_0_in 0 rfl rfl
theorem wt_19 : Cond.classLink "StepCourtLaw" 8 "StepCourt" ∈ wz := wz_c tq_0_in 19 rfl rfl
theorem wt_20 : Cond.instantiable "StepCourt" 13 ∈ wz := wz_c tq_0_in 20 rfl rfl
theorem wt_21 : Cond.methodLink "StepCourtLaw" 47 ⟨"StepCourt", "<init>", "()V"⟩ ∈ wz := wz_c tq_0_in 21 rfl rfl
theorem wt_22 : Cond.instanceMethod ⟨"StepCourt", "<init>", "()V"⟩ ∈ wz := wz_c tq_0_in 22 rfl rfl
theorem wt_23 : Cond.code ⟨"StepCourt", "<init>", "()V"⟩ prog_1_method_1_code 2 none ∈ wz := wz_c tq_0_in 23 rfl rfl
theorem wt_294 : Cond.methodLink "StepCourtLaw" 51 ⟨"StepCourt", "code", "(III)Z"⟩ ∈ wz := wz_c tq_12_in 6 rfl rfl
theorem wt_295 : Cond.instanceMethod ⟨"StepCourt", "code", "(III)Z"⟩ ∈ wz := wz_c tq_12_in 7 rfl rfl
theorem wt_296 : Cond.selects "StepCourt" ⟨"StepCourt", "code", "(III)Z"⟩ ⟨"StepCourt", "code", "(III)Z"⟩ ∈ wz := wz_c tq_12_in 8 rfl rfl
theorem wt_297 : Cond.code ⟨"StepCourt", "code", "(III)Z"⟩ prog_1_method_2_code 4 (some .boolean) ∈ wz := wz_c tq_12_in 9 rfl rfl
theorem wt_298 : Cond.methodLink "StepCourtLaw" 86 ⟨"StepCourt", "block", "()I"⟩ ∈ wz := wz_c tq_12_in 10 rfl rfl
theorem wt_299 : Cond.instanceMethod ⟨"StepCourt", "block", "()I"⟩ ∈ wz := wz_c tq_12_in 11 rfl rfl
theorem wt_300 : Cond.selects "StepCourt" ⟨"StepCourt", "block", "()I"⟩ ⟨"StepCourt", "block", "()I"⟩ ∈ wz := wz_c tq_12_in 12 rfl rfl
theorem wt_301 : Cond.code ⟨"StepCourt", "block", "()I"⟩ prog_1_method_10_code 1 (some .int) ∈ wz := wz_c tq_12_in 13 rfl rfl
theorem wt_374 : Cond.methodLink "StepCourtLaw" 94 ⟨"StepCourt", "balance", "(I)I"⟩ ∈ wz := wz_c tq_15_in 14 rfl rfl
theorem wt_375 : Cond.instanceMethod ⟨"StepCourt", "balance", "(I)I"⟩ ∈ wz := wz_c tq_15_in 15 rfl rfl
theorem wt_376 : Cond.selects "StepCourt" ⟨"StepCourt", "balance", "(I)I"⟩ ⟨"StepCourt", "balance", "(I)I"⟩ ∈ wz := wz_c tq_15_in 16 rfl rfl
theorem wt_377 : Cond.code ⟨"StepCourt", "balance", "(I)I"⟩ prog_1_method_12_code 2 (some .int) ∈ wz := wz_c tq_15_in 17 rfl rfl
theorem wt_378 : Cond.methodLink "StepCourtLaw" 98 ⟨"StepCourt", "pot", "()I"⟩ ∈ wz := wz_c tq_15_in 18 rfl rfl
theorem wt_379 : Cond.instanceMethod ⟨"StepCourt", "pot", "()I"⟩ ∈ wz := wz_c tq_15_in 19 rfl rfl
theorem wt_380 : Cond.selects "StepCourt" ⟨"StepCourt", "pot", "()I"⟩ ⟨"StepCourt", "pot", "()I"⟩ ∈ wz := wz_c tq_15_in 20 rfl rfl
theorem wt_381 : Cond.code ⟨"StepCourt", "pot", "()I"⟩ prog_1_method_13_code 1 (some .int) ∈ wz := wz_c tq_15_in 21 rfl rfl
theorem wt_382 : Cond.methodLink "StepCourtLaw" 102 ⟨"StepCourt", "word", "(I)I"⟩ ∈ wz := wz_c tq_15_in 22 rfl rfl
theorem wt_383 : Cond.instanceMethod ⟨"StepCourt", "word", "(I)I"⟩ ∈ wz := wz_c tq_15_in 23 rfl rfl
theorem wt_384 : Cond.selects "StepCourt" ⟨"StepCourt", "word", "(I)I"⟩ ⟨"StepCourt", "word", "(I)I"⟩ ∈ wz := wz_c tq_16_in 0 rfl rfl
theorem wt_385 : Cond.code ⟨"StepCourt", "word", "(I)I"⟩ prog_1_method_14_code 2 (some .int) ∈ wz := wz_c tq_16_in 1 rfl rfl
theorem wt_387 : Cond.methodLink "StepCourtLaw" 106 ⟨"StepCourt", "truth", "(I)J"⟩ ∈ wz := wz_c tq_16_in 3 rfl rfl
theorem wt_388 : Cond.instanceMethod ⟨"StepCourt", "truth", "(I)J"⟩ ∈ wz := wz_c tq_16_in 4 rfl rfl
theorem wt_389 : Cond.selects "StepCourt" ⟨"StepCourt", "truth", "(I)J"⟩ ⟨"StepCourt", "truth", "(I)J"⟩ ∈ wz := wz_c tq_16_in 5 rfl rfl
theorem wt_390 : Cond.code ⟨"StepCourt", "truth", "(I)J"⟩ prog_1_method_15_code 2 (some .long) ∈ wz := wz_c tq_16_in 6 rfl rfl
theorem wt_406 : Cond.methodLink "StepCourtLaw" 111 ⟨"StepCourt", "base", "()J"⟩ ∈ wz := wz_c tq_16_in 22 rfl rfl
theorem wt_407 : Cond.instanceMethod ⟨"StepCourt", "base", "()J"⟩ ∈ wz := wz_c tq_16_in 23 rfl rfl
theorem wt_408 : Cond.selects "StepCourt" ⟨"StepCourt", "base", "()J"⟩ ⟨"StepCourt", "base", "()J"⟩ ∈ wz := wz_c tq_17_in 0 rfl rfl
theorem wt_409 : Cond.code ⟨"StepCourt", "base", "()J"⟩ prog_1_method_16_code 1 (some .long) ∈ wz := wz_c tq_17_in 1 rfl rfl
theorem wt_410 : Cond.methodLink "StepCourtLaw" 116 ⟨"StepCourt", "state", "(I)J"⟩ ∈ wz := wz_c tq_17_in 2 rfl rfl
theorem wt_411 : Cond.instanceMethod ⟨"StepCourt", "state", "(I)J"⟩ ∈ wz := wz_c tq_17_in 3 rfl rfl
theorem wt_412 : Cond.selects "StepCourt" ⟨"StepCourt", "state", "(I)J"⟩ ⟨"StepCourt", "state", "(I)J"⟩ ∈ wz := wz_c tq_17_in 4 rfl rfl
theorem wt_413 : Cond.code ⟨"StepCourt", "state", "(I)J"⟩ prog_1_method_17_code 2 (some .long) ∈ wz := wz_c tq_17_in 5 rfl rfl
theorem wt_420 : Cond.methodLink "StepCourtLaw" 120 ⟨"StepCourt", "assertion", "(I)J"⟩ ∈ wz := wz_c tq_17_in 12 rfl rfl
theorem wt_421 : Cond.instanceMethod ⟨"StepCourt", "assertion", "(I)J"⟩ ∈ wz := wz_c tq_17_in 13 rfl rfl
theorem wt_422 : Cond.selects "StepCourt" ⟨"StepCourt", "assertion", "(I)J"⟩ ⟨"StepCourt", "assertion", "(I)J"⟩ ∈ wz := wz_c tq_17_in 14 rfl rfl
theorem wt_423 : Cond.code ⟨"StepCourt", "assertion", "(I)J"⟩ prog_1_method_18_code 2 (some .long) ∈ wz := wz_c tq_17_in 15 rfl rfl
theorem wt_425 : Cond.methodLink "StepCourtLaw" 124 ⟨"StepCourt", "game", "(II)J"⟩ ∈ wz := wz_c tq_17_in 17 rfl rfl
theorem wt_426 : Cond.instanceMethod ⟨"StepCourt", "game", "(II)J"⟩ ∈ wz := wz_c tq_17_in 18 rfl rfl
theorem wt_427 : Cond.selects "StepCourt" ⟨"StepCourt", "game", "(II)J"⟩ ⟨"StepCourt", "game", "(II)J"⟩ ∈ wz := wz_c tq_17_in 19 rfl rfl
theorem wt_428 : Cond.code ⟨"StepCourt", "game", "(II)J"⟩ prog_1_method_19_code 4 (some .long) ∈ wz := wz_c tq_17_in 20 rfl rfl
theorem wt_433 : Cond.methodLink "StepCourtLaw" 55 ⟨"StepCourtLaw", "deposit", "(LStepCourt;II[J)I"⟩ ∈ wz := wz_c tq_18_in 1 rfl rfl
theorem wt_434 : Cond.static ⟨"StepCourtLaw", "deposit", "(LStepCourt;II[J)I"⟩ ∈ wz := wz_c tq_18_in 2 rfl rfl
theorem wt_435 : Cond.codeWith ⟨"StepCourtLaw", "deposit", "(LStepCourt;II[J)I"⟩ method_3_code 5 (some .int) [(0, 10, 13, 13), (0, 10, 17, 15), (0, 10, 21, 17)] ∈ wz := wz_c tq_18_in 3 rfl rfl
theorem wt_555 : Cond.methodLink "StepCourtLaw" 61 ⟨"StepCourtLaw", "send", "(LStepCourt;I[J)I"⟩ ∈ wz := wz_c tq_23_in 3 rfl rfl
theorem wt_556 : Cond.static ⟨"StepCourtLaw", "send", "(LStepCourt;I[J)I"⟩ ∈ wz := wz_c tq_23_in 4 rfl rfl
theorem wt_557 : Cond.codeWith ⟨"StepCourtLaw", "send", "(LStepCourt;I[J)I"⟩ method_4_code 4 (some .int) [(0, 9, 12, 17)] ∈ wz := wz_c tq_23_in 5 rfl rfl
theorem wt_563 : Cond.methodLink "StepCourtLaw" 67 ⟨"StepCourtLaw", "claim", "(LStepCourt;IIJ[J)I"⟩ ∈ wz := wz_c tq_23_in 11 rfl rfl
theorem wt_564 : Cond.static ⟨"StepCourtLaw", "claim", "(LStepCourt;IIJ[J)I"⟩ ∈ wz := wz_c tq_23_in 12 rfl rfl
theorem wt_565 : Cond.codeWith ⟨"StepCourtLaw", "claim", "(LStepCourt;IIJ[J)I"⟩ method_5_code 7 (some .int) [(0, 11, 14, 13), (0, 11, 18, 27), (0, 11, 22, 15), (0, 11, 26, 17)] ∈ wz := wz_c tq_23_in 13 rfl rfl
theorem wt_597 : Cond.methodLink "StepCourtLaw" 71 ⟨"StepCourtLaw", "challenge", "(LStepCourt;I[J)I"⟩ ∈ wz := wz_c tq_24_in 21 rfl rfl
theorem wt_598 : Cond.static ⟨"StepCourtLaw", "challenge", "(LStepCourt;I[J)I"⟩ ∈ wz := wz_c tq_24_in 22 rfl rfl
theorem wt_599 : Cond.codeWith ⟨"StepCourtLaw", "challenge", "(LStepCourt;I[J)I"⟩ method_6_code 4 (some .int) [(0, 9, 12, 13), (0, 9, 15, 27), (0, 9, 18, 17)] ∈ wz := wz_c tq_24_in 23 rfl rfl
theorem wt_621 : Cond.methodLink "StepCourtLaw" 74 ⟨"StepCourtLaw", "post", "(LStepCourt;IJ[J)I"⟩ ∈ wz := wz_c tq_25_in 21 rfl rfl
theorem wt_622 : Cond.static ⟨"StepCourtLaw", "post", "(LStepCourt;IJ[J)I"⟩ ∈ wz := wz_c tq_25_in 22 rfl rfl
theorem wt_623 : Cond.codeWith ⟨"StepCourtLaw", "post", "(LStepCourt;IJ[J)I"⟩ method_7_code 6 (some .int) [(0, 10, 13, 13), (0, 10, 17, 27)] ∈ wz := wz_c tq_25_in 23 rfl rfl
theorem wt_642 : Cond.methodLink "StepCourtLaw" 78 ⟨"StepCourtLaw", "pick", "(LStepCourt;IZ[J)I"⟩ ∈ wz := wz_c tq_26_in 18 rfl rfl
theorem wt_643 : Cond.static ⟨"StepCourtLaw", "pick", "(LStepCourt;IZ[J)I"⟩ ∈ wz := wz_c tq_26_in 19 rfl rfl
theorem wt_644 : Cond.codeWith ⟨"StepCourtLaw", "pick", "(LStepCourt;IZ[J)I"⟩ method_8_code 5 (some .int) [(0, 10, 13, 13), (0, 10, 17, 27)] ∈ wz := wz_c tq_26_in 20 rfl rfl
theorem wt_654 : Cond.methodLink "StepCourtLaw" 82 ⟨"StepCourtLaw", "prove", "(LStepCourt;III[J)I"⟩ ∈ wz := wz_c tq_27_in 6 rfl rfl
theorem wt_655 : Cond.static ⟨"StepCourtLaw", "prove", "(LStepCourt;III[J)I"⟩ ∈ wz := wz_c tq_27_in 7 rfl rfl
theorem wt_656 : Cond.codeWith ⟨"StepCourtLaw", "prove", "(LStepCourt;III[J)I"⟩ method_9_code 6 (some .int) [(0, 19, 22, 13), (0, 19, 26, 27), (0, 19, 30, 15)] ∈ wz := wz_c tq_27_in 8 rfl rfl
theorem wt_692 : Cond.methodLink "StepCourtLaw" 91 ⟨"StepCourtLaw", "draw", "(LStepCourt;I[J)I"⟩ ∈ wz := wz_c tq_28_in 20 rfl rfl
theorem wt_693 : Cond.static ⟨"StepCourtLaw", "draw", "(LStepCourt;I[J)I"⟩ ∈ wz := wz_c tq_28_in 21 rfl rfl
theorem wt_694 : Cond.codeWith ⟨"StepCourtLaw", "draw", "(LStepCourt;I[J)I"⟩ method_10_code 4 (some .int) [(0, 9, 12, 13), (0, 9, 15, 27), (0, 9, 18, 15), (0, 9, 21, 17)] ∈ wz := wz_c tq_28_in 22 rfl rfl
theorem wt_703 : Cond.classLink "StepCourtLaw" 48 "StepCourtModel" ∈ wz := wz_c tq_29_in 7 rfl rfl
theorem wt_704 : Cond.instantiable "StepCourtModel" 35 ∈ wz := wz_c tq_29_in 8 rfl rfl
theorem wt_705 : Cond.methodLink "StepCourtLaw" 50 ⟨"StepCourtModel", "<init>", "()V"⟩ ∈ wz := wz_c tq_29_in 9 rfl rfl
theorem wt_706 : Cond.instanceMethod ⟨"StepCourtModel", "<init>", "()V"⟩ ∈ wz := wz_c tq_29_in 10 rfl rfl
theorem wt_707 : Cond.code ⟨"StepCourtModel", "<init>", "()V"⟩ prog_11_method_1_code 1 none ∈ wz := wz_c tq_29_in 11 rfl rfl
theorem wt_840 : Cond.methodLink "StepCourtLaw" 54 ⟨"StepCourtModel", "code", "(III)Z"⟩ ∈ wz := wz_c tq_35_in 0 rfl rfl
theorem wt_841 : Cond.instanceMethod ⟨"StepCourtModel", "code", "(III)Z"⟩ ∈ wz := wz_c tq_35_in 1 rfl rfl
theorem wt_842 : Cond.selects "StepCourtModel" ⟨"StepCourtModel", "code", "(III)Z"⟩ ⟨"StepCourtModel", "code", "(III)Z"⟩ ∈ wz := wz_c tq_35_in 2 rfl rfl
theorem wt_843 : Cond.code ⟨"StepCourtModel", "code", "(III)Z"⟩ prog_11_method_15_code 4 (some .boolean) ∈ wz := wz_c tq_35_in 3 rfl rfl
theorem wt_844 : Cond.methodLink "StepCourtLaw" 60 ⟨"StepCourtModel", "deposit", "(II)I"⟩ ∈ wz := wz_c tq_35_in 4 rfl rfl
theorem wt_845 : Cond.instanceMethod ⟨"StepCourtModel", "deposit", "(II)I"⟩ ∈ wz := wz_c tq_35_in 5 rfl rfl
theorem wt_846 : Cond.selects "StepCourtModel" ⟨"StepCourtModel", "deposit", "(II)I"⟩ ⟨"StepCourtModel", "deposit", "(II)I"⟩ ∈ wz := wz_c tq_35_in 6 rfl rfl
theorem wt_847 : Cond.code ⟨"StepCourtModel", "deposit", "(II)I"⟩ prog_11_method_17_code 3 (some .int) ∈ wz := wz_c tq_35_in 7 rfl rfl
theorem wt_859 : Cond.methodLink "StepCourtLaw" 64 ⟨"StepCourtModel", "send", "(I)I"⟩ ∈ wz := wz_c tq_35_in 19 rfl rfl
theorem wt_860 : Cond.instanceMethod ⟨"StepCourtModel", "send", "(I)I"⟩ ∈ wz := wz_c tq_35_in 20 rfl rfl
theorem wt_861 : Cond.selects "StepCourtModel" ⟨"StepCourtModel", "send", "(I)I"⟩ ⟨"StepCourtModel", "send", "(I)I"⟩ ∈ wz := wz_c tq_35_in 21 rfl rfl
theorem wt_862 : Cond.code ⟨"StepCourtModel", "send", "(I)I"⟩ prog_11_method_18_code 2 (some .int) ∈ wz := wz_c tq_35_in 22 rfl rfl
theorem wt_863 : Cond.methodLink "StepCourtLaw" 70 ⟨"StepCourtModel", "claim", "(IIJ)J"⟩ ∈ wz := wz_c tq_35_in 23 rfl rfl
theorem wt_864 : Cond.instanceMethod ⟨"StepCourtModel", "claim", "(IIJ)J"⟩ ∈ wz := wz_c tq_36_in 0 rfl rfl
theorem wt_865 : Cond.selects "StepCourtModel" ⟨"StepCourtModel", "claim", "(IIJ)J"⟩ ⟨"StepCourtModel", "claim", "(IIJ)J"⟩ ∈ wz := wz_c tq_36_in 1 rfl rfl
theorem wt_866 : Cond.code ⟨"StepCourtModel", "claim", "(IIJ)J"⟩ prog_11_method_19_code 5 (some .long) ∈ wz := wz_c tq_36_in 2 rfl rfl
theorem wt_883 : Cond.methodLink "StepCourtLaw" 73 ⟨"StepCourtModel", "challenge", "(I)I"⟩ ∈ wz := wz_c tq_36_in 19 rfl rfl
theorem wt_884 : Cond.instanceMethod ⟨"StepCourtModel", "challenge", "(I)I"⟩ ∈ wz := wz_c tq_36_in 20 rfl rfl
theorem wt_885 : Cond.selects "StepCourtModel" ⟨"StepCourtModel", "challenge", "(I)I"⟩ ⟨"StepCourtModel", "challenge", "(I)I"⟩ ∈ wz := wz_c tq_36_in 21 rfl rfl
theorem wt_886 : Cond.code ⟨"StepCourtModel", "challenge", "(I)I"⟩ prog_11_method_20_code 4 (some .int) ∈ wz := wz_c tq_36_in 22 rfl rfl
theorem wt_887 : Cond.methodLink "StepCourtLaw" 77 ⟨"StepCourtModel", "post", "(IJ)J"⟩ ∈ wz := wz_c tq_36_in 23 rfl rfl
theorem wt_888 : Cond.instanceMethod ⟨"StepCourtModel", "post", "(IJ)J"⟩ ∈ wz := wz_c tq_37_in 0 rfl rfl
theorem wt_889 : Cond.selects "StepCourtModel" ⟨"StepCourtModel", "post", "(IJ)J"⟩ ⟨"StepCourtModel", "post", "(IJ)J"⟩ ∈ wz := wz_c tq_37_in 1 rfl rfl
theorem wt_890 : Cond.code ⟨"StepCourtModel", "post", "(IJ)J"⟩ prog_11_method_28_code 4 (some .long) ∈ wz := wz_c tq_37_in 2 rfl rfl
theorem wt_899 : Cond.methodLink "StepCourtLaw" 81 ⟨"StepCourtModel", "pick", "(IZ)I"⟩ ∈ wz := wz_c tq_37_in 11 rfl rfl
theorem wt_900 : Cond.instanceMethod ⟨"StepCourtModel", "pick", "(IZ)I"⟩ ∈ wz := wz_c tq_37_in 12 rfl rfl
theorem wt_901 : Cond.selects "StepCourtModel" ⟨"StepCourtModel", "pick", "(IZ)I"⟩ ⟨"StepCourtModel", "pick", "(IZ)I"⟩ ∈ wz := wz_c tq_37_in 13 rfl rfl
theorem wt_902 : Cond.code ⟨"StepCourtModel", "pick", "(IZ)I"⟩ prog_11_method_29_code 4 (some .int) ∈ wz := wz_c tq_37_in 14 rfl rfl
theorem wt_903 : Cond.methodLink "StepCourtLaw" 85 ⟨"StepCourtModel", "prove", "(III)Z"⟩ ∈ wz := wz_c tq_37_in 15 rfl rfl
theorem wt_904 : Cond.instanceMethod ⟨"StepCourtModel", "prove", "(III)Z"⟩ ∈ wz := wz_c tq_37_in 16 rfl rfl
theorem wt_905 : Cond.selects "StepCourtModel" ⟨"StepCourtModel", "prove", "(III)Z"⟩ ⟨"StepCourtModel", "prove", "(III)Z"⟩ ∈ wz := wz_c tq_37_in 17 rfl rfl
theorem wt_906 : Cond.code ⟨"StepCourtModel", "prove", "(III)Z"⟩ prog_11_method_32_code 4 (some .boolean) ∈ wz := wz_c tq_37_in 18 rfl rfl
theorem wt_931 : Cond.methodLink "StepCourtLaw" 90 ⟨"StepCourtModel", "block", "()I"⟩ ∈ wz := wz_c tq_38_in 19 rfl rfl
theorem wt_932 : Cond.instanceMethod ⟨"StepCourtModel", "block", "()I"⟩ ∈ wz := wz_c tq_38_in 20 rfl rfl
theorem wt_933 : Cond.selects "StepCourtModel" ⟨"StepCourtModel", "block", "()I"⟩ ⟨"StepCourtModel", "block", "()I"⟩ ∈ wz := wz_c tq_38_in 21 rfl rfl
theorem wt_934 : Cond.code ⟨"StepCourtModel", "block", "()I"⟩ prog_11_method_33_code 2 (some .int) ∈ wz := wz_c tq_38_in 22 rfl rfl
theorem wt_939 : Cond.methodLink "StepCourtLaw" 93 ⟨"StepCourtModel", "draw", "(I)I"⟩ ∈ wz := wz_c tq_39_in 3 rfl rfl
theorem wt_940 : Cond.instanceMethod ⟨"StepCourtModel", "draw", "(I)I"⟩ ∈ wz := wz_c tq_39_in 4 rfl rfl
theorem wt_941 : Cond.selects "StepCourtModel" ⟨"StepCourtModel", "draw", "(I)I"⟩ ⟨"StepCourtModel", "draw", "(I)I"⟩ ∈ wz := wz_c tq_39_in 5 rfl rfl
theorem wt_942 : Cond.code ⟨"StepCourtModel", "draw", "(I)I"⟩ prog_11_method_35_code 2 (some .int) ∈ wz := wz_c tq_39_in 6 rfl rfl
theorem wt_947 : Cond.methodLink "StepCourtLaw" 97 ⟨"StepCourtModel", "balance", "(I)I"⟩ ∈ wz := wz_c tq_39_in 11 rfl rfl
theorem wt_948 : Cond.instanceMethod ⟨"StepCourtModel", "balance", "(I)I"⟩ ∈ wz := wz_c tq_39_in 12 rfl rfl
theorem wt_949 : Cond.selects "StepCourtModel" ⟨"StepCourtModel", "balance", "(I)I"⟩ ⟨"StepCourtModel", "balance", "(I)I"⟩ ∈ wz := wz_c tq_39_in 13 rfl rfl
theorem wt_950 : Cond.code ⟨"StepCourtModel", "balance", "(I)I"⟩ prog_11_method_36_code 2 (some .int) ∈ wz := wz_c tq_39_in 14 rfl rfl
theorem wt_951 : Cond.methodLink "StepCourtLaw" 101 ⟨"StepCourtModel", "pot", "()I"⟩ ∈ wz := wz_c tq_39_in 15 rfl rfl
theorem wt_952 : Cond.instanceMethod ⟨"StepCourtModel", "pot", "()I"⟩ ∈ wz := wz_c tq_39_in 16 rfl rfl
theorem wt_953 : Cond.selects "StepCourtModel" ⟨"StepCourtModel", "pot", "()I"⟩ ⟨"StepCourtModel", "pot", "()I"⟩ ∈ wz := wz_c tq_39_in 17 rfl rfl
theorem wt_954 : Cond.code ⟨"StepCourtModel", "pot", "()I"⟩ prog_11_method_37_code 1 (some .int) ∈ wz := wz_c tq_39_in 18 rfl rfl
theorem wt_955 : Cond.methodLink "StepCourtLaw" 105 ⟨"StepCourtModel", "word", "(I)I"⟩ ∈ wz := wz_c tq_39_in 19 rfl rfl
theorem wt_956 : Cond.instanceMethod ⟨"StepCourtModel", "word", "(I)I"⟩ ∈ wz := wz_c tq_39_in 20 rfl rfl
theorem wt_957 : Cond.selects "StepCourtModel" ⟨"StepCourtModel", "word", "(I)I"⟩ ⟨"StepCourtModel", "word", "(I)I"⟩ ∈ wz := wz_c tq_39_in 21 rfl rfl
theorem wt_958 : Cond.code ⟨"StepCourtModel", "word", "(I)I"⟩ prog_11_method_38_code 2 (some .int) ∈ wz := wz_c tq_39_in 22 rfl rfl
theorem wt_959 : Cond.methodLink "StepCourtLaw" 110 ⟨"StepCourtModel", "truth", "(I)J"⟩ ∈ wz := wz_c tq_39_in 23 rfl rfl
theorem wt_960 : Cond.instanceMethod ⟨"StepCourtModel", "truth", "(I)J"⟩ ∈ wz := wz_c tq_40_in 0 rfl rfl
theorem wt_961 : Cond.selects "StepCourtModel" ⟨"StepCourtModel", "truth", "(I)J"⟩ ⟨"StepCourtModel", "truth", "(I)J"⟩ ∈ wz := wz_c tq_40_in 1 rfl rfl
theorem wt_962 : Cond.code ⟨"StepCourtModel", "truth", "(I)J"⟩ prog_11_method_39_code 2 (some .long) ∈ wz := wz_c tq_40_in 2 rfl rfl
theorem wt_963 : Cond.methodLink "StepCourtLaw" 115 ⟨"StepCourtModel", "base", "()J"⟩ ∈ wz := wz_c tq_40_in 3 rfl rfl
theorem wt_964 : Cond.instanceMethod ⟨"StepCourtModel", "base", "()J"⟩ ∈ wz := wz_c tq_40_in 4 rfl rfl
theorem wt_965 : Cond.selects "StepCourtModel" ⟨"StepCourtModel", "base", "()J"⟩ ⟨"StepCourtModel", "base", "()J"⟩ ∈ wz := wz_c tq_40_in 5 rfl rfl
theorem wt_966 : Cond.code ⟨"StepCourtModel", "base", "()J"⟩ prog_11_method_40_code 1 (some .long) ∈ wz := wz_c tq_40_in 6 rfl rfl
theorem wt_967 : Cond.methodLink "StepCourtLaw" 119 ⟨"StepCourtModel", "state", "(I)J"⟩ ∈ wz := wz_c tq_40_in 7 rfl rfl
theorem wt_968 : Cond.instanceMethod ⟨"StepCourtModel", "state", "(I)J"⟩ ∈ wz := wz_c tq_40_in 8 rfl rfl
theorem wt_969 : Cond.selects "StepCourtModel" ⟨"StepCourtModel", "state", "(I)J"⟩ ⟨"StepCourtModel", "state", "(I)J"⟩ ∈ wz := wz_c tq_40_in 9 rfl rfl
theorem wt_970 : Cond.code ⟨"StepCourtModel", "state", "(I)J"⟩ prog_11_method_41_code 2 (some .long) ∈ wz := wz_c tq_40_in 10 rfl rfl
theorem wt_971 : Cond.methodLink "StepCourtLaw" 123 ⟨"StepCourtModel", "assertion", "(I)J"⟩ ∈ wz := wz_c tq_40_in 11 rfl rfl
theorem wt_972 : Cond.instanceMethod ⟨"StepCourtModel", "assertion", "(I)J"⟩ ∈ wz := wz_c tq_40_in 12 rfl rfl
theorem wt_973 : Cond.selects "StepCourtModel" ⟨"StepCourtModel", "assertion", "(I)J"⟩ ⟨"StepCourtModel", "assertion", "(I)J"⟩ ∈ wz := wz_c tq_40_in 13 rfl rfl
theorem wt_974 : Cond.code ⟨"StepCourtModel", "assertion", "(I)J"⟩ prog_11_method_42_code 2 (some .long) ∈ wz := wz_c tq_40_in 14 rfl rfl
theorem wt_976 : Cond.methodLink "StepCourtLaw" 128 ⟨"StepCourtModel", "game", "(II)J"⟩ ∈ wz := wz_c tq_40_in 16 rfl rfl
theorem wt_977 : Cond.instanceMethod ⟨"StepCourtModel", "game", "(II)J"⟩ ∈ wz := wz_c tq_40_in 17 rfl rfl
theorem wt_978 : Cond.selects "StepCourtModel" ⟨"StepCourtModel", "game", "(II)J"⟩ ⟨"StepCourtModel", "game", "(II)J"⟩ ∈ wz := wz_c tq_40_in 18 rfl rfl
theorem wt_979 : Cond.code ⟨"StepCourtModel", "game", "(II)J"⟩ prog_11_method_43_code 3 (some .long) ∈ wz := wz_c tq_40_in 19 rfl rfl
theorem wt_980 : Cond.constantLong "StepCourtLaw" 65 (4294967295) ∈ wz := wz_c tq_40_in 20 rfl rfl
theorem dqLa_law_0 : decode cLa_law 0 = .ok (.new 8, 3) ∧ decode cLa_law 3 = .ok (.dup, 1) ∧ decode cLa_law 4 = .ok (.invokespecial 47, 3) ∧ decode cLa_law 7 = .ok (.astore_n 1, 1) ∧ decode cLa_law 8 = .ok (.new 48, 3) ∧ decode cLa_law 11 = .ok (.dup, 1) ∧ decode cLa_law 12 = .ok (.invokespecial 50, 3) ∧ decode cLa_law 15 = .ok (.astore_n 2, 1) ∧ decode cLa_law 16 = .ok (.iconst 1, 1) ∧ decode cLa_law 17 = .ok (.newarray .long, 2) ∧ decode cLa_law 19 = .ok (.astore_n 3, 1) ∧ decode cLa_law 20 = .ok (.iconst 0, 1) ∧ decode cLa_law 21 = .ok (.istore 4, 2) ∧ decode cLa_law 23 = .ok (.iload 4, 2) ∧ decode cLa_law 25 = .ok (.aload_n 0, 1) ∧ decode cLa_law 26 = .ok (.arraylength, 1) := by decide +kernel
theorem dLa_law_0 : decode cLa_law 0 = .ok (.new 8, 3) := dqLa_law_0.1
theorem dLa_law_3 : decode cLa_law 3 = .ok (.dup, 1) := dqLa_law_0.2.1
theorem dLa_law_4 : decode cLa_law 4 = .ok (.invokespecial 47, 3) := dqLa_law_0.2.2.1
theorem dLa_law_7 : decode cLa_law 7 = .ok (.astore_n 1, 1) := dqLa_law_0.2.2.2.1
theorem dLa_law_8 : decode cLa_law 8 = .ok (.new 48, 3) := dqLa_law_0.2.2.2.2.1
theorem dLa_law_11 : decode cLa_law 11 = .ok (.dup, 1) := dqLa_law_0.2.2.2.2.2.1
theorem dLa_law_12 : decode cLa_law 12 = .ok (.invokespecial 50, 3) := dqLa_law_0.2.2.2.2.2.2.1
theorem dLa_law_15 : decode cLa_law 15 = .ok (.astore_n 2, 1) := dqLa_law_0.2.2.2.2.2.2.2.1
theorem dLa_law_16 : decode cLa_law 16 = .ok (.iconst 1, 1) := dqLa_law_0.2.2.2.2.2.2.2.2.1
theorem dLa_law_17 : decode cLa_law 17 = .ok (.newarray .long, 2) := dqLa_law_0.2.2.2.2.2.2.2.2.2.1
theorem dLa_law_19 : decode cLa_law 19 = .ok (.astore_n 3, 1) := dqLa_law_0.2.2.2.2.2.2.2.2.2.2.1
theorem dLa_law_20 : decode cLa_law 20 = .ok (.iconst 0, 1) := dqLa_law_0.2.2.2.2.2.2.2.2.2.2.2.1
theorem dLa_law_21 : decode cLa_law 21 = .ok (.istore 4, 2) := dqLa_law_0.2.2.2.2.2.2.2.2.2.2.2.2.1
theorem dLa_law_23 : decode cLa_law 23 = .ok (.iload 4, 2) := dqLa_law_0.2.2.2.2.2.2.2.2.2.2.2.2.2.1
theorem dLa_law_25 : decode cLa_law 25 = .ok (.aload_n 0, 1) := dqLa_law_0.2.2.2.2.2.2.2.2.2.2.2.2.2.2.1
theorem dLa_law_26 : decode cLa_law 26 = .ok (.arraylength, 1) := dqLa_law_0.2.2.2.2.2.2.2.2.2.2.2.2.2.2.2
theorem dqLa_law_16 : decode cLa_law 27 = .ok (.iconst 5, 1) ∧ decode cLa_law 28 = .ok (.isub, 1) ∧ decode cLa_law 29 = .ok (.if_icmp .gt 740, 3) ∧ decode cLa_law 32 = .ok (.aload_n 0, 1) ∧ decode cLa_law 33 = .ok (.iload 4, 2) ∧ decode cLa_law 35 = .ok (.iaload, 1) ∧ decode cLa_law 36 = .ok (.bipush 31, 2) ∧ decode cLa_law 38 = .ok (.iand, 1) ∧ decode cLa_law 39 = .ok (.tableswitch 724 0 17 #[85, 134, 174, 202, 286, 314, 386, 442, 494, 507, 535, 560, 573, 598, 623, 636, 661, 686], 85) ∧ decode cLa_law 124 = .ok (.aload_n 1, 1) ∧ decode cLa_law 125 = .ok (.aload_n 0, 1) ∧ decode cLa_law 126 = .ok (.iload 4, 2) ∧ decode cLa_law 128 = .ok (.iconst 1, 1) ∧ decode cLa_law 129 = .ok (.iadd, 1) ∧ decode cLa_law 130 = .ok (.iaload, 1) ∧ decode cLa_law 131 = .ok (.aload_n 0, 1) := by decide +kernel
theorem dLa_law_27 : decode cLa_law 27 = .ok (.iconst 5, 1) := dqLa_law_16.1
theorem dLa_law_28 : decode cLa_law 28 = .ok (.isub, 1) := dqLa_law_16.2.1
theorem dLa_law_29 : decode cLa_law 29 = .ok (.if_icmp .gt 740, 3) := dqLa_law_16.2.2.1
theorem dLa_law_32 : decode cLa_law 32 = .ok (.aload_n 0, 1) := dqLa_law_16.2.2.2.1
theorem dLa_law_33 : decode cLa_law 33 = .ok (.iload 4, 2) := dqLa_law_16.2.2.2.2.1
theorem dLa_law_35 : decode cLa_law 35 = .ok (.iaload, 1) := dqLa_law_16.2.2.2.2.2.1
theorem dLa_law_36 : decode cLa_law 36 = .ok (.bipush 31, 2) := dqLa_law_16.2.2.2.2.2.2.1
theorem dLa_law_38 : decode cLa_law 38 = .ok (.iand, 1) := dqLa_law_16.2.2.2.2.2.2.2.1
theorem dLa_law_39 : decode cLa_law 39 = .ok (.tableswitch 724 0 17 #[85, 134, 174, 202, 286, 314, 386, 442, 494, 507, 535, 560, 573, 598, 623, 636, 661, 686], 85) := dqLa_law_16.2.2.2.2.2.2.2.2.1
theorem dLa_law_124 : decode cLa_law 124 = .ok (.aload_n 1, 1) := dqLa_law_16.2.2.2.2.2.2.2.2.2.1
theorem dLa_law_125 : decode cLa_law 125 = .ok (.aload_n 0, 1) := dqLa_law_16.2.2.2.2.2.2.2.2.2.2.1
theorem dLa_law_126 : decode cLa_law 126 = .ok (.iload 4, 2) := dqLa_law_16.2.2.2.2.2.2.2.2.2.2.2.1
theorem dLa_law_128 : decode cLa_law 128 = .ok (.iconst 1, 1) := dqLa_law_16.2.2.2.2.2.2.2.2.2.2.2.2.1
theorem dLa_law_129 : decode cLa_law 129 = .ok (.iadd, 1) := dqLa_law_16.2.2.2.2.2.2.2.2.2.2.2.2.2.1
theorem dLa_law_130 : decode cLa_law 130 = .ok (.iaload, 1) := dqLa_law_16.2.2.2.2.2.2.2.2.2.2.2.2.2.2.1
theorem dLa_law_131 : decode cLa_law 131 = .ok (.aload_n 0, 1) := dqLa_law_16.2.2.2.2.2.2.2.2.2.2.2.2.2.2.2
theorem dqLa_law_32 : decode cLa_law 132 = .ok (.iload 4, 2) ∧ decode cLa_law 134 = .ok (.iconst 2, 1) ∧ decode cLa_law 135 = .ok (.iadd, 1) ∧ decode cLa_law 136 = .ok (.iaload, 1) ∧ decode cLa_law 137 = .ok (.aload_n 0, 1) ∧ decode cLa_law 138 = .ok (.iload 4, 2) ∧ decode cLa_law 140 = .ok (.iconst 3, 1) ∧ decode cLa_law 141 = .ok (.iadd, 1) ∧ decode cLa_law 142 = .ok (.iaload, 1) ∧ decode cLa_law 143 = .ok (.invokevirtual 51, 3) ∧ decode cLa_law 146 = .ok (.pop, 1) ∧ decode cLa_law 147 = .ok (.aload_n 2, 1) ∧ decode cLa_law 148 = .ok (.aload_n 0, 1) ∧ decode cLa_law 149 = .ok (.iload 4, 2) ∧ decode cLa_law 151 = .ok (.iconst 1, 1) ∧ decode cLa_law 152 = .ok (.iadd, 1) := by decide +kernel
theorem dLa_law_132 : decode cLa_law 132 = .ok (.iload 4, 2) := dqLa_law_32.1
theorem dLa_law_134 : decode cLa_law 134 = .ok (.iconst 2, 1) := dqLa_law_32.2.1
theorem dLa_law_135 : decode cLa_law 135 = .ok (.iadd, 1) := dqLa_law_32.2.2.1
theorem dLa_law_136 : decode cLa_law 136 = .ok (.iaload, 1) := dqLa_law_32.2.2.2.1
theorem dLa_law_137 : decode cLa_law 137 = .ok (.aload_n 0, 1) := dqLa_law_32.2.2.2.2.1
theorem dLa_law_138 : decode cLa_law 138 = .ok (.iload 4, 2) := dqLa_law_32.2.2.2.2.2.1
theorem dLa_law_140 : decode cLa_law 140 = .ok (.iconst 3, 1) := dqLa_law_32.2.2.2.2.2.2.1
theorem dLa_law_141 : decode cLa_law 141 = .ok (.iadd, 1) := dqLa_law_32.2.2.2.2.2.2.2.1
theorem dLa_law_142 : decode cLa_law 142 = .ok (.iaload, 1) := dqLa_law_32.2.2.2.2.2.2.2.2.1
theorem dLa_law_143 : decode cLa_law 143 = .ok (.invokevirtual 51, 3) := dqLa_law_32.2.2.2.2.2.2.2.2.2.1
theorem dLa_law_146 : decode cLa_law 146 = .ok (.pop, 1) := dqLa_law_32.2.2.2.2.2.2.2.2.2.2.1
theorem dLa_law_147 : decode cLa_law 147 = .ok (.aload_n 2, 1) := dqLa_law_32.2.2.2.2.2.2.2.2.2.2.2.1
theorem dLa_law_148 : decode cLa_law 148 = .ok (.aload_n 0, 1) := dqLa_law_32.2.2.2.2.2.2.2.2.2.2.2.2.1
theorem dLa_law_149 : decode cLa_law 149 = .ok (.iload 4, 2) := dqLa_law_32.2.2.2.2.2.2.2.2.2.2.2.2.2.1
theorem dLa_law_151 : decode cLa_law 151 = .ok (.iconst 1, 1) := dqLa_law_32.2.2.2.2.2.2.2.2.2.2.2.2.2.2.1
theorem dLa_law_152 : decode cLa_law 152 = .ok (.iadd, 1) := dqLa_law_32.2.2.2.2.2.2.2.2.2.2.2.2.2.2.2
theorem dqLa_law_48 : decode cLa_law 153 = .ok (.iaload, 1) ∧ decode cLa_law 154 = .ok (.aload_n 0, 1) ∧ decode cLa_law 155 = .ok (.iload 4, 2) ∧ decode cLa_law 157 = .ok (.iconst 2, 1) ∧ decode cLa_law 158 = .ok (.iadd, 1) ∧ decode cLa_law 159 = .ok (.iaload, 1) ∧ decode cLa_law 160 = .ok (.aload_n 0, 1) ∧ decode cLa_law 161 = .ok (.iload 4, 2) ∧ decode cLa_law 163 = .ok (.iconst 3, 1) ∧ decode cLa_law 164 = .ok (.iadd, 1) ∧ decode cLa_law 165 = .ok (.iaload, 1) ∧ decode cLa_law 166 = .ok (.invokevirtual 54, 3) ∧ decode cLa_law 169 = .ok (.pop, 1) ∧ decode cLa_law 170 = .ok (.goto 593, 3) ∧ decode cLa_law 173 = .ok (.aload_n 1, 1) ∧ decode cLa_law 174 = .ok (.aload_n 0, 1) := by decide +kernel
theorem dLa_law_153 : decode cLa_law 153 = .ok (.iaload, 1) := dqLa_law_48.1
theorem dLa_law_154 : decode cLa_law 154 = .ok (.aload_n 0, 1) := dqLa_law_48.2.1
theorem dLa_law_155 : decode cLa_law 155 = .ok (.iload 4, 2) := dqLa_law_48.2.2.1
theorem dLa_law_157 : decode cLa_law 157 = .ok (.iconst 2, 1) := dqLa_law_48.2.2.2.1
theorem dLa_law_158 : decode cLa_law 158 = .ok (.iadd, 1) := dqLa_law_48.2.2.2.2.1
theorem dLa_law_159 : decode cLa_law 159 = .ok (.iaload, 1) := dqLa_law_48.2.2.2.2.2.1
theorem dLa_law_160 : decode cLa_law 160 = .ok (.aload_n 0, 1) := dqLa_law_48.2.2.2.2.2.2.1
theorem dLa_law_161 : decode cLa_law 161 = .ok (.iload 4, 2) := dqLa_law_48.2.2.2.2.2.2.2.1
theorem dLa_law_163 : decode cLa_law 163 = .ok (.iconst 3, 1) := dqLa_law_48.2.2.2.2.2.2.2.2.1
theorem dLa_law_164 : decode cLa_law 164 = .ok (.iadd, 1) := dqLa_law_48.2.2.2.2.2.2.2.2.2.1
theorem dLa_law_165 : decode cLa_law 165 = .ok (.iaload, 1) := dqLa_law_48.2.2.2.2.2.2.2.2.2.2.1
theorem dLa_law_166 : decode cLa_law 166 = .ok (.invokevirtual 54, 3) := dqLa_law_48.2.2.2.2.2.2.2.2.2.2.2.1
theorem dLa_law_169 : decode cLa_law 169 = .ok (.pop, 1) := dqLa_law_48.2.2.2.2.2.2.2.2.2.2.2.2.1
theorem dLa_law_170 : decode cLa_law 170 = .ok (.goto 593, 3) := dqLa_law_48.2.2.2.2.2.2.2.2.2.2.2.2.2.1
theorem dLa_law_173 : decode cLa_law 173 = .ok (.aload_n 1, 1) := dqLa_law_48.2.2.2.2.2.2.2.2.2.2.2.2.2.2.1
theorem dLa_law_174 : decode cLa_law 174 = .ok (.aload_n 0, 1) := dqLa_law_48.2.2.2.2.2.2.2.2.2.2.2.2.2.2.2
theorem dqLa_law_64 : decode cLa_law 175 = .ok (.iload 4, 2) ∧ decode cLa_law 177 = .ok (.iconst 1, 1) ∧ decode cLa_law 178 = .ok (.iadd, 1) ∧ decode cLa_law 179 = .ok (.iaload, 1) ∧ decode cLa_law 180 = .ok (.aload_n 0, 1) ∧ decode cLa_law 181 = .ok (.iload 4, 2) ∧ decode cLa_law 183 = .ok (.iconst 2, 1) ∧ decode cLa_law 184 = .ok (.iadd, 1) ∧ decode cLa_law 185 = .ok (.iaload, 1) ∧ decode cLa_law 186 = .ok (.aload_n 3, 1) ∧ decode cLa_law 187 = .ok (.invokestatic 55, 3) ∧ decode cLa_law 190 = .ok (.istore 5, 2) ∧ decode cLa_law 192 = .ok (.aload_n 2, 1) ∧ decode cLa_law 193 = .ok (.aload_n 0, 1) ∧ decode cLa_law 194 = .ok (.iload 4, 2) ∧ decode cLa_law 196 = .ok (.iconst 1, 1) := by decide +kernel
theorem dLa_law_175 : decode cLa_law 175 = .ok (.iload 4, 2) := dqLa_law_64.1
theorem dLa_law_177 : decode cLa_law 177 = .ok (.iconst 1, 1) := dqLa_law_64.2.1
theorem dLa_law_178 : decode cLa_law 178 = .ok (.iadd, 1) := dqLa_law_64.2.2.1
theorem dLa_law_179 : decode cLa_law 179 = .ok (.iaload, 1) := dqLa_law_64.2.2.2.1
theorem dLa_law_180 : decode cLa_law 180 = .ok (.aload_n 0, 1) := dqLa_law_64.2.2.2.2.1
theorem dLa_law_181 : decode cLa_law 181 = .ok (.iload 4, 2) := dqLa_law_64.2.2.2.2.2.1
theorem dLa_law_183 : decode cLa_law 183 = .ok (.iconst 2, 1) := dqLa_law_64.2.2.2.2.2.2.1
theorem dLa_law_184 : decode cLa_law 184 = .ok (.iadd, 1) := dqLa_law_64.2.2.2.2.2.2.2.1
theorem dLa_law_185 : decode cLa_law 185 = .ok (.iaload, 1) := dqLa_law_64.2.2.2.2.2.2.2.2.1
theorem dLa_law_186 : decode cLa_law 186 = .ok (.aload_n 3, 1) := dqLa_law_64.2.2.2.2.2.2.2.2.2.1
theorem dLa_law_187 : decode cLa_law 187 = .ok (.invokestatic 55, 3) := dqLa_law_64.2.2.2.2.2.2.2.2.2.2.1
theorem dLa_law_190 : decode cLa_law 190 = .ok (.istore 5, 2) := dqLa_law_64.2.2.2.2.2.2.2.2.2.2.2.1
theorem dLa_law_192 : decode cLa_law 192 = .ok (.aload_n 2, 1) := dqLa_law_64.2.2.2.2.2.2.2.2.2.2.2.2.1
theorem dLa_law_193 : decode cLa_law 193 = .ok (.aload_n 0, 1) := dqLa_law_64.2.2.2.2.2.2.2.2.2.2.2.2.2.1
theorem dLa_law_194 : decode cLa_law 194 = .ok (.iload 4, 2) := dqLa_law_64.2.2.2.2.2.2.2.2.2.2.2.2.2.2.1
theorem dLa_law_196 : decode cLa_law 196 = .ok (.iconst 1, 1) := dqLa_law_64.2.2.2.2.2.2.2.2.2.2.2.2.2.2.2
theorem dqLa_law_80 : decode cLa_law 197 = .ok (.iadd, 1) ∧ decode cLa_law 198 = .ok (.iaload, 1) ∧ decode cLa_law 199 = .ok (.aload_n 0, 1) ∧ decode cLa_law 200 = .ok (.iload 4, 2) ∧ decode cLa_law 202 = .ok (.iconst 2, 1) ∧ decode cLa_law 203 = .ok (.iadd, 1) ∧ decode cLa_law 204 = .ok (.iaload, 1) ∧ decode cLa_law 205 = .ok (.invokevirtual 60, 3) ∧ decode cLa_law 208 = .ok (.istore 6, 2) ∧ decode cLa_law 210 = .ok (.goto 553, 3) ∧ decode cLa_law 213 = .ok (.aload_n 1, 1) ∧ decode cLa_law 214 = .ok (.aload_n 0, 1) ∧ decode cLa_law 215 = .ok (.iload 4, 2) ∧ decode cLa_law 217 = .ok (.iconst 1, 1) ∧ decode cLa_law 218 = .ok (.iadd, 1) ∧ decode cLa_law 219 = .ok (.iaload, 1) := by decide +kernel
theorem dLa_law_197 : decode cLa_law 197 = .ok (.iadd, 1) := dqLa_law_80.1
theorem dLa_law_198 : decode cLa_law 198 = .ok (.iaload, 1) := dqLa_law_80.2.1
theorem dLa_law_199 : decode cLa_law 199 = .ok (.aload_n 0, 1) := dqLa_law_80.2.2.1
theorem dLa_law_200 : decode cLa_law 200 = .ok (.iload 4, 2) := dqLa_law_80.2.2.2.1
theorem dLa_law_202 : decode cLa_law 202 = .ok (.iconst 2, 1) := dqLa_law_80.2.2.2.2.1
theorem dLa_law_203 : decode cLa_law 203 = .ok (.iadd, 1) := dqLa_law_80.2.2.2.2.2.1
theorem dLa_law_204 : decode cLa_law 204 = .ok (.iaload, 1) := dqLa_law_80.2.2.2.2.2.2.1
theorem dLa_law_205 : decode cLa_law 205 = .ok (.invokevirtual 60, 3) := dqLa_law_80.2.2.2.2.2.2.2.1
theorem dLa_law_208 : decode cLa_law 208 = .ok (.istore 6, 2) := dqLa_law_80.2.2.2.2.2.2.2.2.1
theorem dLa_law_210 : decode cLa_law 210 = .ok (.goto 553, 3) := dqLa_law_80.2.2.2.2.2.2.2.2.2.1
theorem dLa_law_213 : decode cLa_law 213 = .ok (.aload_n 1, 1) := dqLa_law_80.2.2.2.2.2.2.2.2.2.2.1
theorem dLa_law_214 : decode cLa_law 214 = .ok (.aload_n 0, 1) := dqLa_law_80.2.2.2.2.2.2.2.2.2.2.2.1
theorem dLa_law_215 : decode cLa_law 215 = .ok (.iload 4, 2) := dqLa_law_80.2.2.2.2.2.2.2.2.2.2.2.2.1
theorem dLa_law_217 : decode cLa_law 217 = .ok (.iconst 1, 1) := dqLa_law_80.2.2.2.2.2.2.2.2.2.2.2.2.2.1
theorem dLa_law_218 : decode cLa_law 218 = .ok (.iadd, 1) := dqLa_law_80.2.2.2.2.2.2.2.2.2.2.2.2.2.2.1
theorem dLa_law_219 : decode cLa_law 219 = .ok (.iaload, 1) := dqLa_law_80.2.2.2.2.2.2.2.2.2.2.2.2.2.2.2
theorem dqLa_law_96 : decode cLa_law 220 = .ok (.aload_n 3, 1) ∧ decode cLa_law 221 = .ok (.invokestatic 61, 3) ∧ decode cLa_law 224 = .ok (.istore 5, 2) ∧ decode cLa_law 226 = .ok (.aload_n 2, 1) ∧ decode cLa_law 227 = .ok (.aload_n 0, 1) ∧ decode cLa_law 228 = .ok (.iload 4, 2) ∧ decode cLa_law 230 = .ok (.iconst 1, 1) ∧ decode cLa_law 231 = .ok (.iadd, 1) ∧ decode cLa_law 232 = .ok (.iaload, 1) ∧ decode cLa_law 233 = .ok (.invokevirtual 64, 3) ∧ decode cLa_law 236 = .ok (.istore 6, 2) ∧ decode cLa_law 238 = .ok (.goto 525, 3) ∧ decode cLa_law 241 = .ok (.aload_n 1, 1) ∧ decode cLa_law 242 = .ok (.aload_n 0, 1) ∧ decode cLa_law 243 = .ok (.iload 4, 2) ∧ decode cLa_law 245 = .ok (.iconst 1, 1) := by decide +kernel
theorem dLa_law_220 : decode cLa_law 220 = .ok (.aload_n 3, 1) := dqLa_law_96.1
theorem dLa_law_221 : decode cLa_law 221 = .ok (.invokestatic 61, 3) := dqLa_law_96.2.1
theorem dLa_law_224 : decode cLa_law 224 = .ok (.istore 5, 2) := dqLa_law_96.2.2.1
theorem dLa_law_226 : decode cLa_law 226 = .ok (.aload_n 2, 1) := dqLa_law_96.2.2.2.1
theorem dLa_law_227 : decode cLa_law 227 = .ok (.aload_n 0, 1) := dqLa_law_96.2.2.2.2.1
theorem dLa_law_228 : decode cLa_law 228 = .ok (.iload 4, 2) := dqLa_law_96.2.2.2.2.2.1
theorem dLa_law_230 : decode cLa_law 230 = .ok (.iconst 1, 1) := dqLa_law_96.2.2.2.2.2.2.1
theorem dLa_law_231 : decode cLa_law 231 = .ok (.iadd, 1) := dqLa_law_96.2.2.2.2.2.2.2.1
theorem dLa_law_232 : decode cLa_law 232 = .ok (.iaload, 1) := dqLa_law_96.2.2.2.2.2.2.2.2.1
theorem dLa_law_233 : decode cLa_law 233 = .ok (.invokevirtual 64, 3) := dqLa_law_96.2.2.2.2.2.2.2.2.2.1
theorem dLa_law_236 : decode cLa_law 236 = .ok (.istore 6, 2) := dqLa_law_96.2.2.2.2.2.2.2.2.2.2.1
theorem dLa_law_238 : decode cLa_law 238 = .ok (.goto 525, 3) := dqLa_law_96.2.2.2.2.2.2.2.2.2.2.2.1
theorem dLa_law_241 : decode cLa_law 241 = .ok (.aload_n 1, 1) := dqLa_law_96.2.2.2.2.2.2.2.2.2.2.2.2.1
theorem dLa_law_242 : decode cLa_law 242 = .ok (.aload_n 0, 1) := dqLa_law_96.2.2.2.2.2.2.2.2.2.2.2.2.2.1
theorem dLa_law_243 : decode cLa_law 243 = .ok (.iload 4, 2) := dqLa_law_96.2.2.2.2.2.2.2.2.2.2.2.2.2.2.1
theorem dLa_law_245 : decode cLa_law 245 = .ok (.iconst 1, 1) := dqLa_law_96.2.2.2.2.2.2.2.2.2.2.2.2.2.2.2
theorem dqLa_law_112 : decode cLa_law 246 = .ok (.iadd, 1) ∧ decode cLa_law 247 = .ok (.iaload, 1) ∧ decode cLa_law 248 = .ok (.aload_n 0, 1) ∧ decode cLa_law 249 = .ok (.iload 4, 2) ∧ decode cLa_law 251 = .ok (.iconst 2, 1) ∧ decode cLa_law 252 = .ok (.iadd, 1) ∧ decode cLa_law 253 = .ok (.iaload, 1) ∧ decode cLa_law 254 = .ok (.aload_n 0, 1) ∧ decode cLa_law 255 = .ok (.iload 4, 2) ∧ decode cLa_law 257 = .ok (.iconst 3, 1) ∧ decode cLa_law 258 = .ok (.iadd, 1) ∧ decode cLa_law 259 = .ok (.iaload, 1) ∧ decode cLa_law 260 = .ok (.i2l, 1) ∧ decode cLa_law 261 = .ok (.bipush 32, 2) ∧ decode cLa_law 263 = .ok (.lshl, 1) ∧ decode cLa_law 264 = .ok (.aload_n 0, 1) := by decide +kernel
theorem dLa_law_246 : decode cLa_law 246 = .ok (.iadd, 1) := dqLa_law_112.1
theorem dLa_law_247 : decode cLa_law 247 = .ok (.iaload, 1) := dqLa_law_112.2.1
theorem dLa_law_248 : decode cLa_law 248 = .ok (.aload_n 0, 1) := dqLa_law_112.2.2.1
theorem dLa_law_249 : decode cLa_law 249 = .ok (.iload 4, 2) := dqLa_law_112.2.2.2.1
theorem dLa_law_251 : decode cLa_law 251 = .ok (.iconst 2, 1) := dqLa_law_112.2.2.2.2.1
theorem dLa_law_252 : decode cLa_law 252 = .ok (.iadd, 1) := dqLa_law_112.2.2.2.2.2.1
theorem dLa_law_253 : decode cLa_law 253 = .ok (.iaload, 1) := dqLa_law_112.2.2.2.2.2.2.1
theorem dLa_law_254 : decode cLa_law 254 = .ok (.aload_n 0, 1) := dqLa_law_112.2.2.2.2.2.2.2.1
theorem dLa_law_255 : decode cLa_law 255 = .ok (.iload 4, 2) := dqLa_law_112.2.2.2.2.2.2.2.2.1
theorem dLa_law_257 : decode cLa_law 257 = .ok (.iconst 3, 1) := dqLa_law_112.2.2.2.2.2.2.2.2.2.1
theorem dLa_law_258 : decode cLa_law 258 = .ok (.iadd, 1) := dqLa_law_112.2.2.2.2.2.2.2.2.2.2.1
theorem dLa_law_259 : decode cLa_law 259 = .ok (.iaload, 1) := dqLa_law_112.2.2.2.2.2.2.2.2.2.2.2.1
theorem dLa_law_260 : decode cLa_law 260 = .ok (.i2l, 1) := dqLa_law_112.2.2.2.2.2.2.2.2.2.2.2.2.1
theorem dLa_law_261 : decode cLa_law 261 = .ok (.bipush 32, 2) := dqLa_law_112.2.2.2.2.2.2.2.2.2.2.2.2.2.1
theorem dLa_law_263 : decode cLa_law 263 = .ok (.lshl, 1) := dqLa_law_112.2.2.2.2.2.2.2.2.2.2.2.2.2.2.1
theorem dLa_law_264 : decode cLa_law 264 = .ok (.aload_n 0, 1) := dqLa_law_112.2.2.2.2.2.2.2.2.2.2.2.2.2.2.2
theorem dqLa_law_128 : decode cLa_law 265 = .ok (.iload 4, 2) ∧ decode cLa_law 267 = .ok (.iconst 4, 1) ∧ decode cLa_law 268 = .ok (.iadd, 1) ∧ decode cLa_law 269 = .ok (.iaload, 1) ∧ decode cLa_law 270 = .ok (.i2l, 1) ∧ decode cLa_law 271 = .ok (.ldc2_w 65, 3) ∧ decode cLa_law 274 = .ok (.land, 1) ∧ decode cLa_law 275 = .ok (.lor, 1) ∧ decode cLa_law 276 = .ok (.aload_n 3, 1) ∧ decode cLa_law 277 = .ok (.invokestatic 67, 3) ∧ decode cLa_law 280 = .ok (.istore 5, 2) ∧ decode cLa_law 282 = .ok (.aload_n 2, 1) ∧ decode cLa_law 283 = .ok (.aload_n 0, 1) ∧ decode cLa_law 284 = .ok (.iload 4, 2) ∧ decode cLa_law 286 = .ok (.iconst 1, 1) ∧ decode cLa_law 287 = .ok (.iadd, 1) := by decide +kernel
theorem dLa_law_265 : decode cLa_law 265 = .ok (.iload 4, 2) := dqLa_law_128.1
theorem dLa_law_267 : decode cLa_law 267 = .ok (.iconst 4, 1) := dqLa_law_128.2.1
theorem dLa_law_268 : decode cLa_law 268 = .ok (.iadd, 1) := dqLa_law_128.2.2.1
theorem dLa_law_269 : decode cLa_law 269 = .ok (.iaload, 1) := dqLa_law_128.2.2.2.1
theorem dLa_law_270 : decode cLa_law 270 = .ok (.i2l, 1) := dqLa_law_128.2.2.2.2.1
theorem dLa_law_271 : decode cLa_law 271 = .ok (.ldc2_w 65, 3) := dqLa_law_128.2.2.2.2.2.1
theorem dLa_law_274 : decode cLa_law 274 = .ok (.land, 1) := dqLa_law_128.2.2.2.2.2.2.1
theorem dLa_law_275 : decode cLa_law 275 = .ok (.lor, 1) := dqLa_law_128.2.2.2.2.2.2.2.1
theorem dLa_law_276 : decode cLa_law 276 = .ok (.aload_n 3, 1) := dqLa_law_128.2.2.2.2.2.2.2.2.1
theorem dLa_law_277 : decode cLa_law 277 = .ok (.invokestatic 67, 3) := dqLa_law_128.2.2.2.2.2.2.2.2.2.1
theorem dLa_law_280 : decode cLa_law 280 = .ok (.istore 5, 2) := dqLa_law_128.2.2.2.2.2.2.2.2.2.2.1
theorem dLa_law_282 : decode cLa_law 282 = .ok (.aload_n 2, 1) := dqLa_law_128.2.2.2.2.2.2.2.2.2.2.2.1
theorem dLa_law_283 : decode cLa_law 283 = .ok (.aload_n 0, 1) := dqLa_law_128.2.2.2.2.2.2.2.2.2.2.2.2.1
theorem dLa_law_284 : decode cLa_law 284 = .ok (.iload 4, 2) := dqLa_law_128.2.2.2.2.2.2.2.2.2.2.2.2.2.1
theorem dLa_law_286 : decode cLa_law 286 = .ok (.iconst 1, 1) := dqLa_law_128.2.2.2.2.2.2.2.2.2.2.2.2.2.2.1
theorem dLa_law_287 : decode cLa_law 287 = .ok (.iadd, 1) := dqLa_law_128.2.2.2.2.2.2.2.2.2.2.2.2.2.2.2
theorem dqLa_law_144 : decode cLa_law 288 = .ok (.iaload, 1) ∧ decode cLa_law 289 = .ok (.aload_n 0, 1) ∧ decode cLa_law 290 = .ok (.iload 4, 2) ∧ decode cLa_law 292 = .ok (.iconst 2, 1) ∧ decode cLa_law 293 = .ok (.iadd, 1) ∧ decode cLa_law 294 = .ok (.iaload, 1) ∧ decode cLa_law 295 = .ok (.aload_n 0, 1) ∧ decode cLa_law 296 = .ok (.iload 4, 2) ∧ decode cLa_law 298 = .ok (.iconst 3, 1) ∧ decode cLa_law 299 = .ok (.iadd, 1) ∧ decode cLa_law 300 = .ok (.iaload, 1) ∧ decode cLa_law 301 = .ok (.i2l, 1) ∧ decode cLa_law 302 = .ok (.bipush 32, 2) ∧ decode cLa_law 304 = .ok (.lshl, 1) ∧ decode cLa_law 305 = .ok (.aload_n 0, 1) ∧ decode cLa_law 306 = .ok (.iload 4, 2) := by decide +kernel
theorem dLa_law_288 : decode cLa_law 288 = .ok (.iaload, 1) := dqLa_law_144.1
theorem dLa_law_289 : decode cLa_law 289 = .ok (.aload_n 0, 1) := dqLa_law_144.2.1
theorem dLa_law_290 : decode cLa_law 290 = .ok (.iload 4, 2) := dqLa_law_144.2.2.1
theorem dLa_law_292 : decode cLa_law 292 = .ok (.iconst 2, 1) := dqLa_law_144.2.2.2.1
theorem dLa_law_293 : decode cLa_law 293 = .ok (.iadd, 1) := dqLa_law_144.2.2.2.2.1
theorem dLa_law_294 : decode cLa_law 294 = .ok (.iaload, 1) := dqLa_law_144.2.2.2.2.2.1
theorem dLa_law_295 : decode cLa_law 295 = .ok (.aload_n 0, 1) := dqLa_law_144.2.2.2.2.2.2.1
theorem dLa_law_296 : decode cLa_law 296 = .ok (.iload 4, 2) := dqLa_law_144.2.2.2.2.2.2.2.1
theorem dLa_law_298 : decode cLa_law 298 = .ok (.iconst 3, 1) := dqLa_law_144.2.2.2.2.2.2.2.2.1
theorem dLa_law_299 : decode cLa_law 299 = .ok (.iadd, 1) := dqLa_law_144.2.2.2.2.2.2.2.2.2.1
theorem dLa_law_300 : decode cLa_law 300 = .ok (.iaload, 1) := dqLa_law_144.2.2.2.2.2.2.2.2.2.2.1
theorem dLa_law_301 : decode cLa_law 301 = .ok (.i2l, 1) := dqLa_law_144.2.2.2.2.2.2.2.2.2.2.2.1
theorem dLa_law_302 : decode cLa_law 302 = .ok (.bipush 32, 2) := dqLa_law_144.2.2.2.2.2.2.2.2.2.2.2.2.1
theorem dLa_law_304 : decode cLa_law 304 = .ok (.lshl, 1) := dqLa_law_144.2.2.2.2.2.2.2.2.2.2.2.2.2.1
theorem dLa_law_305 : decode cLa_law 305 = .ok (.aload_n 0, 1) := dqLa_law_144.2.2.2.2.2.2.2.2.2.2.2.2.2.2.1
theorem dLa_law_306 : decode cLa_law 306 = .ok (.iload 4, 2) := dqLa_law_144.2.2.2.2.2.2.2.2.2.2.2.2.2.2.2
theorem dqLa_law_160 : decode cLa_law 308 = .ok (.iconst 4, 1) ∧ decode cLa_law 309 = .ok (.iadd, 1) ∧ decode cLa_law 310 = .ok (.iaload, 1) ∧ decode cLa_law 311 = .ok (.i2l, 1) ∧ decode cLa_law 312 = .ok (.ldc2_w 65, 3) ∧ decode cLa_law 315 = .ok (.land, 1) ∧ decode cLa_law 316 = .ok (.lor, 1) ∧ decode cLa_law 317 = .ok (.invokevirtual 70, 3) ∧ decode cLa_law 320 = .ok (.lstore 6, 2) ∧ decode cLa_law 322 = .ok (.goto 441, 3) ∧ decode cLa_law 325 = .ok (.aload_n 1, 1) ∧ decode cLa_law 326 = .ok (.aload_n 0, 1) ∧ decode cLa_law 327 = .ok (.iload 4, 2) ∧ decode cLa_law 329 = .ok (.iconst 1, 1) ∧ decode cLa_law 330 = .ok (.iadd, 1) ∧ decode cLa_law 331 = .ok (.iaload, 1) := by decide +kernel
theorem dLa_law_308 : decode cLa_law 308 = .ok (.iconst 4, 1) := dqLa_law_160.1
theorem dLa_law_309 : decode cLa_law 309 = .ok (.iadd, 1) := dqLa_law_160.2.1
theorem dLa_law_310 : decode cLa_law 310 = .ok (.iaload, 1) := dqLa_law_160.2.2.1
theorem dLa_law_311 : decode cLa_law 311 = .ok (.i2l, 1) := dqLa_law_160.2.2.2.1
theorem dLa_law_312 : decode cLa_law 312 = .ok (.ldc2_w 65, 3) := dqLa_law_160.2.2.2.2.1
theorem dLa_law_315 : decode cLa_law 315 = .ok (.land, 1) := dqLa_law_160.2.2.2.2.2.1
theorem dLa_law_316 : decode cLa_law 316 = .ok (.lor, 1) := dqLa_law_160.2.2.2.2.2.2.1
theorem dLa_law_317 : decode cLa_law 317 = .ok (.invokevirtual 70, 3) := dqLa_law_160.2.2.2.2.2.2.2.1
theorem dLa_law_320 : decode cLa_law 320 = .ok (.lstore 6, 2) := dqLa_law_160.2.2.2.2.2.2.2.2.1
theorem dLa_law_322 : decode cLa_law 322 = .ok (.goto 441, 3) := dqLa_law_160.2.2.2.2.2.2.2.2.2.1
theorem dLa_law_325 : decode cLa_law 325 = .ok (.aload_n 1, 1) := dqLa_law_160.2.2.2.2.2.2.2.2.2.2.1
theorem dLa_law_326 : decode cLa_law 326 = .ok (.aload_n 0, 1) := dqLa_law_160.2.2.2.2.2.2.2.2.2.2.2.1
theorem dLa_law_327 : decode cLa_law 327 = .ok (.iload 4, 2) := dqLa_law_160.2.2.2.2.2.2.2.2.2.2.2.2.1
theorem dLa_law_329 : decode cLa_law 329 = .ok (.iconst 1, 1) := dqLa_law_160.2.2.2.2.2.2.2.2.2.2.2.2.2.1
theorem dLa_law_330 : decode cLa_law 330 = .ok (.iadd, 1) := dqLa_law_160.2.2.2.2.2.2.2.2.2.2.2.2.2.2.1
theorem dLa_law_331 : decode cLa_law 331 = .ok (.iaload, 1) := dqLa_law_160.2.2.2.2.2.2.2.2.2.2.2.2.2.2.2
theorem dqLa_law_176 : decode cLa_law 332 = .ok (.aload_n 3, 1) ∧ decode cLa_law 333 = .ok (.invokestatic 71, 3) ∧ decode cLa_law 336 = .ok (.istore 5, 2) ∧ decode cLa_law 338 = .ok (.aload_n 2, 1) ∧ decode cLa_law 339 = .ok (.aload_n 0, 1) ∧ decode cLa_law 340 = .ok (.iload 4, 2) ∧ decode cLa_law 342 = .ok (.iconst 1, 1) ∧ decode cLa_law 343 = .ok (.iadd, 1) ∧ decode cLa_law 344 = .ok (.iaload, 1) ∧ decode cLa_law 345 = .ok (.invokevirtual 73, 3) ∧ decode cLa_law 348 = .ok (.istore 6, 2) ∧ decode cLa_law 350 = .ok (.goto 413, 3) ∧ decode cLa_law 353 = .ok (.aload_n 1, 1) ∧ decode cLa_law 354 = .ok (.aload_n 0, 1) ∧ decode cLa_law 355 = .ok (.iload 4, 2) ∧ decode cLa_law 357 = .ok (.iconst 1, 1) := by decide +kernel
theorem dLa_law_332 : decode cLa_law 332 = .ok (.aload_n 3, 1) := dqLa_law_176.1
theorem dLa_law_333 : decode cLa_law 333 = .ok (.invokestatic 71, 3) := dqLa_law_176.2.1
theorem dLa_law_336 : decode cLa_law 336 = .ok (.istore 5, 2) := dqLa_law_176.2.2.1
theorem dLa_law_338 : decode cLa_law 338 = .ok (.aload_n 2, 1) := dqLa_law_176.2.2.2.1
theorem dLa_law_339 : decode cLa_law 339 = .ok (.aload_n 0, 1) := dqLa_law_176.2.2.2.2.1
theorem dLa_law_340 : decode cLa_law 340 = .ok (.iload 4, 2) := dqLa_law_176.2.2.2.2.2.1
theorem dLa_law_342 : decode cLa_law 342 = .ok (.iconst 1, 1) := dqLa_law_176.2.2.2.2.2.2.1
theorem dLa_law_343 : decode cLa_law 343 = .ok (.iadd, 1) := dqLa_law_176.2.2.2.2.2.2.2.1
theorem dLa_law_344 : decode cLa_law 344 = .ok (.iaload, 1) := dqLa_law_176.2.2.2.2.2.2.2.2.1
theorem dLa_law_345 : decode cLa_law 345 = .ok (.invokevirtual 73, 3) := dqLa_law_176.2.2.2.2.2.2.2.2.2.1
theorem dLa_law_348 : decode cLa_law 348 = .ok (.istore 6, 2) := dqLa_law_176.2.2.2.2.2.2.2.2.2.2.1
theorem dLa_law_350 : decode cLa_law 350 = .ok (.goto 413, 3) := dqLa_law_176.2.2.2.2.2.2.2.2.2.2.2.1
theorem dLa_law_353 : decode cLa_law 353 = .ok (.aload_n 1, 1) := dqLa_law_176.2.2.2.2.2.2.2.2.2.2.2.2.1
theorem dLa_law_354 : decode cLa_law 354 = .ok (.aload_n 0, 1) := dqLa_law_176.2.2.2.2.2.2.2.2.2.2.2.2.2.1
theorem dLa_law_355 : decode cLa_law 355 = .ok (.iload 4, 2) := dqLa_law_176.2.2.2.2.2.2.2.2.2.2.2.2.2.2.1
theorem dLa_law_357 : decode cLa_law 357 = .ok (.iconst 1, 1) := dqLa_law_176.2.2.2.2.2.2.2.2.2.2.2.2.2.2.2
theorem dqLa_law_192 : decode cLa_law 358 = .ok (.iadd, 1) ∧ decode cLa_law 359 = .ok (.iaload, 1) ∧ decode cLa_law 360 = .ok (.aload_n 0, 1) ∧ decode cLa_law 361 = .ok (.iload 4, 2) ∧ decode cLa_law 363 = .ok (.iconst 2, 1) ∧ decode cLa_law 364 = .ok (.iadd, 1) ∧ decode cLa_law 365 = .ok (.iaload, 1) ∧ decode cLa_law 366 = .ok (.i2l, 1) ∧ decode cLa_law 367 = .ok (.bipush 32, 2) ∧ decode cLa_law 369 = .ok (.lshl, 1) ∧ decode cLa_law 370 = .ok (.aload_n 0, 1) ∧ decode cLa_law 371 = .ok (.iload 4, 2) ∧ decode cLa_law 373 = .ok (.iconst 3, 1) ∧ decode cLa_law 374 = .ok (.iadd, 1) ∧ decode cLa_law 375 = .ok (.iaload, 1) ∧ decode cLa_law 376 = .ok (.i2l, 1) := by decide +kernel
theorem dLa_law_358 : decode cLa_law 358 = .ok (.iadd, 1) := dqLa_law_192.1
theorem dLa_law_359 : decode cLa_law 359 = .ok (.iaload, 1) := dqLa_law_192.2.1
theorem dLa_law_360 : decode cLa_law 360 = .ok (.aload_n 0, 1) := dqLa_law_192.2.2.1
theorem dLa_law_361 : decode cLa_law 361 = .ok (.iload 4, 2) := dqLa_law_192.2.2.2.1
theorem dLa_law_363 : decode cLa_law 363 = .ok (.iconst 2, 1) := dqLa_law_192.2.2.2.2.1
theorem dLa_law_364 : decode cLa_law 364 = .ok (.iadd, 1) := dqLa_law_192.2.2.2.2.2.1
theorem dLa_law_365 : decode cLa_law 365 = .ok (.iaload, 1) := dqLa_law_192.2.2.2.2.2.2.1
theorem dLa_law_366 : decode cLa_law 366 = .ok (.i2l, 1) := dqLa_law_192.2.2.2.2.2.2.2.1
theorem dLa_law_367 : decode cLa_law 367 = .ok (.bipush 32, 2) := dqLa_law_192.2.2.2.2.2.2.2.2.1
theorem dLa_law_369 : decode cLa_law 369 = .ok (.lshl, 1) := dqLa_law_192.2.2.2.2.2.2.2.2.2.1
theorem dLa_law_370 : decode cLa_law 370 = .ok (.aload_n 0, 1) := dqLa_law_192.2.2.2.2.2.2.2.2.2.2.1
theorem dLa_law_371 : decode cLa_law 371 = .ok (.iload 4, 2) := dqLa_law_192.2.2.2.2.2.2.2.2.2.2.2.1
theorem dLa_law_373 : decode cLa_law 373 = .ok (.iconst 3, 1) := dqLa_law_192.2.2.2.2.2.2.2.2.2.2.2.2.1
theorem dLa_law_374 : decode cLa_law 374 = .ok (.iadd, 1) := dqLa_law_192.2.2.2.2.2.2.2.2.2.2.2.2.2.1
theorem dLa_law_375 : decode cLa_law 375 = .ok (.iaload, 1) := dqLa_law_192.2.2.2.2.2.2.2.2.2.2.2.2.2.2.1
theorem dLa_law_376 : decode cLa_law 376 = .ok (.i2l, 1) := dqLa_law_192.2.2.2.2.2.2.2.2.2.2.2.2.2.2.2
theorem dqLa_law_208 : decode cLa_law 377 = .ok (.ldc2_w 65, 3) ∧ decode cLa_law 380 = .ok (.land, 1) ∧ decode cLa_law 381 = .ok (.lor, 1) ∧ decode cLa_law 382 = .ok (.aload_n 3, 1) ∧ decode cLa_law 383 = .ok (.invokestatic 74, 3) ∧ decode cLa_law 386 = .ok (.istore 5, 2) ∧ decode cLa_law 388 = .ok (.aload_n 2, 1) ∧ decode cLa_law 389 = .ok (.aload_n 0, 1) ∧ decode cLa_law 390 = .ok (.iload 4, 2) ∧ decode cLa_law 392 = .ok (.iconst 1, 1) ∧ decode cLa_law 393 = .ok (.iadd, 1) ∧ decode cLa_law 394 = .ok (.iaload, 1) ∧ decode cLa_law 395 = .ok (.aload_n 0, 1) ∧ decode cLa_law 396 = .ok (.iload 4, 2) ∧ decode cLa_law 398 = .ok (.iconst 2, 1) ∧ decode cLa_law 399 = .ok (.iadd, 1) := by decide +kernel
theorem dLa_law_377 : decode cLa_law 377 = .ok (.ldc2_w 65, 3) := dqLa_law_208.1
theorem dLa_law_380 : decode cLa_law 380 = .ok (.land, 1) := dqLa_law_208.2.1
theorem dLa_law_381 : decode cLa_law 381 = .ok (.lor, 1) := dqLa_law_208.2.2.1
theorem dLa_law_382 : decode cLa_law 382 = .ok (.aload_n 3, 1) := dqLa_law_208.2.2.2.1
theorem dLa_law_383 : decode cLa_law 383 = .ok (.invokestatic 74, 3) := dqLa_law_208.2.2.2.2.1
theorem dLa_law_386 : decode cLa_law 386 = .ok (.istore 5, 2) := dqLa_law_208.2.2.2.2.2.1
theorem dLa_law_388 : decode cLa_law 388 = .ok (.aload_n 2, 1) := dqLa_law_208.2.2.2.2.2.2.1
theorem dLa_law_389 : decode cLa_law 389 = .ok (.aload_n 0, 1) := dqLa_law_208.2.2.2.2.2.2.2.1
theorem dLa_law_390 : decode cLa_law 390 = .ok (.iload 4, 2) := dqLa_law_208.2.2.2.2.2.2.2.2.1
theorem dLa_law_392 : decode cLa_law 392 = .ok (.iconst 1, 1) := dqLa_law_208.2.2.2.2.2.2.2.2.2.1
theorem dLa_law_393 : decode cLa_law 393 = .ok (.iadd, 1) := dqLa_law_208.2.2.2.2.2.2.2.2.2.2.1
theorem dLa_law_394 : decode cLa_law 394 = .ok (.iaload, 1) := dqLa_law_208.2.2.2.2.2.2.2.2.2.2.2.1
theorem dLa_law_395 : decode cLa_law 395 = .ok (.aload_n 0, 1) := dqLa_law_208.2.2.2.2.2.2.2.2.2.2.2.2.1
theorem dLa_law_396 : decode cLa_law 396 = .ok (.iload 4, 2) := dqLa_law_208.2.2.2.2.2.2.2.2.2.2.2.2.2.1
theorem dLa_law_398 : decode cLa_law 398 = .ok (.iconst 2, 1) := dqLa_law_208.2.2.2.2.2.2.2.2.2.2.2.2.2.2.1
theorem dLa_law_399 : decode cLa_law 399 = .ok (.iadd, 1) := dqLa_law_208.2.2.2.2.2.2.2.2.2.2.2.2.2.2.2
theorem dqLa_law_224 : decode cLa_law 400 = .ok (.iaload, 1) ∧ decode cLa_law 401 = .ok (.i2l, 1) ∧ decode cLa_law 402 = .ok (.bipush 32, 2) ∧ decode cLa_law 404 = .ok (.lshl, 1) ∧ decode cLa_law 405 = .ok (.aload_n 0, 1) ∧ decode cLa_law 406 = .ok (.iload 4, 2) ∧ decode cLa_law 408 = .ok (.iconst 3, 1) ∧ decode cLa_law 409 = .ok (.iadd, 1) ∧ decode cLa_law 410 = .ok (.iaload, 1) ∧ decode cLa_law 411 = .ok (.i2l, 1) ∧ decode cLa_law 412 = .ok (.ldc2_w 65, 3) ∧ decode cLa_law 415 = .ok (.land, 1) ∧ decode cLa_law 416 = .ok (.lor, 1) ∧ decode cLa_law 417 = .ok (.invokevirtual 77, 3) ∧ decode cLa_law 420 = .ok (.lstore 6, 2) ∧ decode cLa_law 422 = .ok (.goto 341, 3) := by decide +kernel
theorem dLa_law_400 : decode cLa_law 400 = .ok (.iaload, 1) := dqLa_law_224.1
theorem dLa_law_401 : decode cLa_law 401 = .ok (.i2l, 1) := dqLa_law_224.2.1
theorem dLa_law_402 : decode cLa_law 402 = .ok (.bipush 32, 2) := dqLa_law_224.2.2.1
theorem dLa_law_404 : decode cLa_law 404 = .ok (.lshl, 1) := dqLa_law_224.2.2.2.1
theorem dLa_law_405 : decode cLa_law 405 = .ok (.aload_n 0, 1) := dqLa_law_224.2.2.2.2.1
theorem dLa_law_406 : decode cLa_law 406 = .ok (.iload 4, 2) := dqLa_law_224.2.2.2.2.2.1
theorem dLa_law_408 : decode cLa_law 408 = .ok (.iconst 3, 1) := dqLa_law_224.2.2.2.2.2.2.1
theorem dLa_law_409 : decode cLa_law 409 = .ok (.iadd, 1) := dqLa_law_224.2.2.2.2.2.2.2.1
theorem dLa_law_410 : decode cLa_law 410 = .ok (.iaload, 1) := dqLa_law_224.2.2.2.2.2.2.2.2.1
theorem dLa_law_411 : decode cLa_law 411 = .ok (.i2l, 1) := dqLa_law_224.2.2.2.2.2.2.2.2.2.1
theorem dLa_law_412 : decode cLa_law 412 = .ok (.ldc2_w 65, 3) := dqLa_law_224.2.2.2.2.2.2.2.2.2.2.1
theorem dLa_law_415 : decode cLa_law 415 = .ok (.land, 1) := dqLa_law_224.2.2.2.2.2.2.2.2.2.2.2.1
theorem dLa_law_416 : decode cLa_law 416 = .ok (.lor, 1) := dqLa_law_224.2.2.2.2.2.2.2.2.2.2.2.2.1
theorem dLa_law_417 : decode cLa_law 417 = .ok (.invokevirtual 77, 3) := dqLa_law_224.2.2.2.2.2.2.2.2.2.2.2.2.2.1
theorem dLa_law_420 : decode cLa_law 420 = .ok (.lstore 6, 2) := dqLa_law_224.2.2.2.2.2.2.2.2.2.2.2.2.2.2.1
theorem dLa_law_422 : decode cLa_law 422 = .ok (.goto 341, 3) := dqLa_law_224.2.2.2.2.2.2.2.2.2.2.2.2.2.2.2
theorem dqLa_law_240 : decode cLa_law 425 = .ok (.aload_n 1, 1) ∧ decode cLa_law 426 = .ok (.aload_n 0, 1) ∧ decode cLa_law 427 = .ok (.iload 4, 2) ∧ decode cLa_law 429 = .ok (.iconst 1, 1) ∧ decode cLa_law 430 = .ok (.iadd, 1) ∧ decode cLa_law 431 = .ok (.iaload, 1) ∧ decode cLa_law 432 = .ok (.aload_n 0, 1) ∧ decode cLa_law 433 = .ok (.iload 4, 2) ∧ decode cLa_law 435 = .ok (.iconst 2, 1) ∧ decode cLa_law 436 = .ok (.iadd, 1) ∧ decode cLa_law 437 = .ok (.iaload, 1) ∧ decode cLa_law 438 = .ok (.ifCond .eq 7, 3) ∧ decode cLa_law 441 = .ok (.iconst 1, 1) ∧ decode cLa_law 442 = .ok (.goto 4, 3) ∧ decode cLa_law 445 = .ok (.iconst 0, 1) ∧ decode cLa_law 446 = .ok (.aload_n 3, 1) := by decide +kernel
theorem dLa_law_425 : decode cLa_law 425 = .ok (.aload_n 1, 1) := dqLa_law_240.1
theorem dLa_law_426 : decode cLa_law 426 = .ok (.aload_n 0, 1) := dqLa_law_240.2.1
theorem dLa_law_427 : decode cLa_law 427 = .ok (.iload 4, 2) := dqLa_law_240.2.2.1
theorem dLa_law_429 : decode cLa_law 429 = .ok (.iconst 1, 1) := dqLa_law_240.2.2.2.1
theorem dLa_law_430 : decode cLa_law 430 = .ok (.iadd, 1) := dqLa_law_240.2.2.2.2.1
theorem dLa_law_431 : decode cLa_law 431 = .ok (.iaload, 1) := dqLa_law_240.2.2.2.2.2.1
theorem dLa_law_432 : decode cLa_law 432 = .ok (.aload_n 0, 1) := dqLa_law_240.2.2.2.2.2.2.1
theorem dLa_law_433 : decode cLa_law 433 = .ok (.iload 4, 2) := dqLa_law_240.2.2.2.2.2.2.2.1
theorem dLa_law_435 : decode cLa_law 435 = .ok (.iconst 2, 1) := dqLa_law_240.2.2.2.2.2.2.2.2.1
theorem dLa_law_436 : decode cLa_law 436 = .ok (.iadd, 1) := dqLa_law_240.2.2.2.2.2.2.2.2.2.1
theorem dLa_law_437 : decode cLa_law 437 = .ok (.iaload, 1) := dqLa_law_240.2.2.2.2.2.2.2.2.2.2.1
theorem dLa_law_438 : decode cLa_law 438 = .ok (.ifCond .eq 7, 3) := dqLa_law_240.2.2.2.2.2.2.2.2.2.2.2.1
theorem dLa_law_441 : decode cLa_law 441 = .ok (.iconst 1, 1) := dqLa_law_240.2.2.2.2.2.2.2.2.2.2.2.2.1
theorem dLa_law_442 : decode cLa_law 442 = .ok (.goto 4, 3) := dqLa_law_240.2.2.2.2.2.2.2.2.2.2.2.2.2.1
theorem dLa_law_445 : decode cLa_law 445 = .ok (.iconst 0, 1) := dqLa_law_240.2.2.2.2.2.2.2.2.2.2.2.2.2.2.1
theorem dLa_law_446 : decode cLa_law 446 = .ok (.aload_n 3, 1) := dqLa_law_240.2.2.2.2.2.2.2.2.2.2.2.2.2.2.2
theorem dqLa_law_256 : decode cLa_law 447 = .ok (.invokestatic 78, 3) ∧ decode cLa_law 450 = .ok (.istore 5, 2) ∧ decode cLa_law 452 = .ok (.aload_n 2, 1) ∧ decode cLa_law 453 = .ok (.aload_n 0, 1) ∧ decode cLa_law 454 = .ok (.iload 4, 2) ∧ decode cLa_law 456 = .ok (.iconst 1, 1) ∧ decode cLa_law 457 = .ok (.iadd, 1) ∧ decode cLa_law 458 = .ok (.iaload, 1) ∧ decode cLa_law 459 = .ok (.aload_n 0, 1) ∧ decode cLa_law 460 = .ok (.iload 4, 2) ∧ decode cLa_law 462 = .ok (.iconst 2, 1) ∧ decode cLa_law 463 = .ok (.iadd, 1) ∧ decode cLa_law 464 = .ok (.iaload, 1) ∧ decode cLa_law 465 = .ok (.ifCond .eq 7, 3) ∧ decode cLa_law 468 = .ok (.iconst 1, 1) ∧ decode cLa_law 469 = .ok (.goto 4, 3) := by decide +kernel
theorem dLa_law_447 : decode cLa_law 447 = .ok (.invokestatic 78, 3) := dqLa_law_256.1
theorem dLa_law_450 : decode cLa_law 450 = .ok (.istore 5, 2) := dqLa_law_256.2.1
theorem dLa_law_452 : decode cLa_law 452 = .ok (.aload_n 2, 1) := dqLa_law_256.2.2.1
theorem dLa_law_453 : decode cLa_law 453 = .ok (.aload_n 0, 1) := dqLa_law_256.2.2.2.1
theorem dLa_law_454 : decode cLa_law 454 = .ok (.iload 4, 2) := dqLa_law_256.2.2.2.2.1
theorem dLa_law_456 : decode cLa_law 456 = .ok (.iconst 1, 1) := dqLa_law_256.2.2.2.2.2.1
theorem dLa_law_457 : decode cLa_law 457 = .ok (.iadd, 1) := dqLa_law_256.2.2.2.2.2.2.1
theorem dLa_law_458 : decode cLa_law 458 = .ok (.iaload, 1) := dqLa_law_256.2.2.2.2.2.2.2.1
theorem dLa_law_459 : decode cLa_law 459 = .ok (.aload_n 0, 1) := dqLa_law_256.2.2.2.2.2.2.2.2.1
theorem dLa_law_460 : decode cLa_law 460 = .ok (.iload 4, 2) := dqLa_law_256.2.2.2.2.2.2.2.2.2.1
theorem dLa_law_462 : decode cLa_law 462 = .ok (.iconst 2, 1) := dqLa_law_256.2.2.2.2.2.2.2.2.2.2.1
theorem dLa_law_463 : decode cLa_law 463 = .ok (.iadd, 1) := dqLa_law_256.2.2.2.2.2.2.2.2.2.2.2.1
theorem dLa_law_464 : decode cLa_law 464 = .ok (.iaload, 1) := dqLa_law_256.2.2.2.2.2.2.2.2.2.2.2.2.1
theorem dLa_law_465 : decode cLa_law 465 = .ok (.ifCond .eq 7, 3) := dqLa_law_256.2.2.2.2.2.2.2.2.2.2.2.2.2.1
theorem dLa_law_468 : decode cLa_law 468 = .ok (.iconst 1, 1) := dqLa_law_256.2.2.2.2.2.2.2.2.2.2.2.2.2.2.1
theorem dLa_law_469 : decode cLa_law 469 = .ok (.goto 4, 3) := dqLa_law_256.2.2.2.2.2.2.2.2.2.2.2.2.2.2.2
theorem dqLa_law_272 : decode cLa_law 472 = .ok (.iconst 0, 1) ∧ decode cLa_law 473 = .ok (.invokevirtual 81, 3) ∧ decode cLa_law 476 = .ok (.istore 6, 2) ∧ decode cLa_law 478 = .ok (.goto 285, 3) ∧ decode cLa_law 481 = .ok (.aload_n 1, 1) ∧ decode cLa_law 482 = .ok (.aload_n 0, 1) ∧ decode cLa_law 483 = .ok (.iload 4, 2) ∧ decode cLa_law 485 = .ok (.iconst 1, 1) ∧ decode cLa_law 486 = .ok (.iadd, 1) ∧ decode cLa_law 487 = .ok (.iaload, 1) ∧ decode cLa_law 488 = .ok (.aload_n 0, 1) ∧ decode cLa_law 489 = .ok (.iload 4, 2) ∧ decode cLa_law 491 = .ok (.iconst 2, 1) ∧ decode cLa_law 492 = .ok (.iadd, 1) ∧ decode cLa_law 493 = .ok (.iaload, 1) ∧ decode cLa_law 494 = .ok (.aload_n 0, 1) := by decide +kernel
theorem dLa_law_472 : decode cLa_law 472 = .ok (.iconst 0, 1) := dqLa_law_272.1
theorem dLa_law_473 : decode cLa_law 473 = .ok (.invokevirtual 81, 3) := dqLa_law_272.2.1
theorem dLa_law_476 : decode cLa_law 476 = .ok (.istore 6, 2) := dqLa_law_272.2.2.1
theorem dLa_law_478 : decode cLa_law 478 = .ok (.goto 285, 3) := dqLa_law_272.2.2.2.1
theorem dLa_law_481 : decode cLa_law 481 = .ok (.aload_n 1, 1) := dqLa_law_272.2.2.2.2.1
theorem dLa_law_482 : decode cLa_law 482 = .ok (.aload_n 0, 1) := dqLa_law_272.2.2.2.2.2.1
theorem dLa_law_483 : decode cLa_law 483 = .ok (.iload 4, 2) := dqLa_law_272.2.2.2.2.2.2.1
theorem dLa_law_485 : decode cLa_law 485 = .ok (.iconst 1, 1) := dqLa_law_272.2.2.2.2.2.2.2.1
theorem dLa_law_486 : decode cLa_law 486 = .ok (.iadd, 1) := dqLa_law_272.2.2.2.2.2.2.2.2.1
theorem dLa_law_487 : decode cLa_law 487 = .ok (.iaload, 1) := dqLa_law_272.2.2.2.2.2.2.2.2.2.1
theorem dLa_law_488 : decode cLa_law 488 = .ok (.aload_n 0, 1) := dqLa_law_272.2.2.2.2.2.2.2.2.2.2.1
theorem dLa_law_489 : decode cLa_law 489 = .ok (.iload 4, 2) := dqLa_law_272.2.2.2.2.2.2.2.2.2.2.2.1
theorem dLa_law_491 : decode cLa_law 491 = .ok (.iconst 2, 1) := dqLa_law_272.2.2.2.2.2.2.2.2.2.2.2.2.1
theorem dLa_law_492 : decode cLa_law 492 = .ok (.iadd, 1) := dqLa_law_272.2.2.2.2.2.2.2.2.2.2.2.2.2.1
theorem dLa_law_493 : decode cLa_law 493 = .ok (.iaload, 1) := dqLa_law_272.2.2.2.2.2.2.2.2.2.2.2.2.2.2.1
theorem dLa_law_494 : decode cLa_law 494 = .ok (.aload_n 0, 1) := dqLa_law_272.2.2.2.2.2.2.2.2.2.2.2.2.2.2.2
theorem dqLa_law_288 : decode cLa_law 495 = .ok (.iload 4, 2) ∧ decode cLa_law 497 = .ok (.iconst 3, 1) ∧ decode cLa_law 498 = .ok (.iadd, 1) ∧ decode cLa_law 499 = .ok (.iaload, 1) ∧ decode cLa_law 500 = .ok (.aload_n 3, 1) ∧ decode cLa_law 501 = .ok (.invokestatic 82, 3) ∧ decode cLa_law 504 = .ok (.istore 5, 2) ∧ decode cLa_law 506 = .ok (.aload_n 2, 1) ∧ decode cLa_law 507 = .ok (.aload_n 0, 1) ∧ decode cLa_law 508 = .ok (.iload 4, 2) ∧ decode cLa_law 510 = .ok (.iconst 1, 1) ∧ decode cLa_law 511 = .ok (.iadd, 1) ∧ decode cLa_law 512 = .ok (.iaload, 1) ∧ decode cLa_law 513 = .ok (.aload_n 0, 1) ∧ decode cLa_law 514 = .ok (.iload 4, 2) ∧ decode cLa_law 516 = .ok (.iconst 2, 1) := by decide +kernel
theorem dLa_law_495 : decode cLa_law 495 = .ok (.iload 4, 2) := dqLa_law_288.1
theorem dLa_law_497 : decode cLa_law 497 = .ok (.iconst 3, 1) := dqLa_law_288.2.1
theorem dLa_law_498 : decode cLa_law 498 = .ok (.iadd, 1) := dqLa_law_288.2.2.1
theorem dLa_law_499 : decode cLa_law 499 = .ok (.iaload, 1) := dqLa_law_288.2.2.2.1
theorem dLa_law_500 : decode cLa_law 500 = .ok (.aload_n 3, 1) := dqLa_law_288.2.2.2.2.1
theorem dLa_law_501 : decode cLa_law 501 = .ok (.invokestatic 82, 3) := dqLa_law_288.2.2.2.2.2.1
theorem dLa_law_504 : decode cLa_law 504 = .ok (.istore 5, 2) := dqLa_law_288.2.2.2.2.2.2.1
theorem dLa_law_506 : decode cLa_law 506 = .ok (.aload_n 2, 1) := dqLa_law_288.2.2.2.2.2.2.2.1
theorem dLa_law_507 : decode cLa_law 507 = .ok (.aload_n 0, 1) := dqLa_law_288.2.2.2.2.2.2.2.2.1
theorem dLa_law_508 : decode cLa_law 508 = .ok (.iload 4, 2) := dqLa_law_288.2.2.2.2.2.2.2.2.2.1
theorem dLa_law_510 : decode cLa_law 510 = .ok (.iconst 1, 1) := dqLa_law_288.2.2.2.2.2.2.2.2.2.2.1
theorem dLa_law_511 : decode cLa_law 511 = .ok (.iadd, 1) := dqLa_law_288.2.2.2.2.2.2.2.2.2.2.2.1
theorem dLa_law_512 : decode cLa_law 512 = .ok (.iaload, 1) := dqLa_law_288.2.2.2.2.2.2.2.2.2.2.2.2.1
theorem dLa_law_513 : decode cLa_law 513 = .ok (.aload_n 0, 1) := dqLa_law_288.2.2.2.2.2.2.2.2.2.2.2.2.2.1
theorem dLa_law_514 : decode cLa_law 514 = .ok (.iload 4, 2) := dqLa_law_288.2.2.2.2.2.2.2.2.2.2.2.2.2.2.1
theorem dLa_law_516 : decode cLa_law 516 = .ok (.iconst 2, 1) := dqLa_law_288.2.2.2.2.2.2.2.2.2.2.2.2.2.2.2
theorem dqLa_law_304 : decode cLa_law 517 = .ok (.iadd, 1) ∧ decode cLa_law 518 = .ok (.iaload, 1) ∧ decode cLa_law 519 = .ok (.aload_n 0, 1) ∧ decode cLa_law 520 = .ok (.iload 4, 2) ∧ decode cLa_law 522 = .ok (.iconst 3, 1) ∧ decode cLa_law 523 = .ok (.iadd, 1) ∧ decode cLa_law 524 = .ok (.iaload, 1) ∧ decode cLa_law 525 = .ok (.invokevirtual 85, 3) ∧ decode cLa_law 528 = .ok (.istore 6, 2) ∧ decode cLa_law 530 = .ok (.goto 233, 3) ∧ decode cLa_law 533 = .ok (.aload_n 1, 1) ∧ decode cLa_law 534 = .ok (.invokevirtual 86, 3) ∧ decode cLa_law 537 = .ok (.pop, 1) ∧ decode cLa_law 538 = .ok (.aload_n 2, 1) ∧ decode cLa_law 539 = .ok (.invokevirtual 90, 3) ∧ decode cLa_law 542 = .ok (.pop, 1) := by decide +kernel
theorem dLa_law_517 : decode cLa_law 517 = .ok (.iadd, 1) := dqLa_law_304.1
theorem dLa_law_518 : decode cLa_law 518 = .ok (.iaload, 1) := dqLa_law_304.2.1
theorem dLa_law_519 : decode cLa_law 519 = .ok (.aload_n 0, 1) := dqLa_law_304.2.2.1
theorem dLa_law_520 : decode cLa_law 520 = .ok (.iload 4, 2) := dqLa_law_304.2.2.2.1
theorem dLa_law_522 : decode cLa_law 522 = .ok (.iconst 3, 1) := dqLa_law_304.2.2.2.2.1
theorem dLa_law_523 : decode cLa_law 523 = .ok (.iadd, 1) := dqLa_law_304.2.2.2.2.2.1
theorem dLa_law_524 : decode cLa_law 524 = .ok (.iaload, 1) := dqLa_law_304.2.2.2.2.2.2.1
theorem dLa_law_525 : decode cLa_law 525 = .ok (.invokevirtual 85, 3) := dqLa_law_304.2.2.2.2.2.2.2.1
theorem dLa_law_528 : decode cLa_law 528 = .ok (.istore 6, 2) := dqLa_law_304.2.2.2.2.2.2.2.2.1
theorem dLa_law_530 : decode cLa_law 530 = .ok (.goto 233, 3) := dqLa_law_304.2.2.2.2.2.2.2.2.2.1
theorem dLa_law_533 : decode cLa_law 533 = .ok (.aload_n 1, 1) := dqLa_law_304.2.2.2.2.2.2.2.2.2.2.1
theorem dLa_law_534 : decode cLa_law 534 = .ok (.invokevirtual 86, 3) := dqLa_law_304.2.2.2.2.2.2.2.2.2.2.2.1
theorem dLa_law_537 : decode cLa_law 537 = .ok (.pop, 1) := dqLa_law_304.2.2.2.2.2.2.2.2.2.2.2.2.1
theorem dLa_law_538 : decode cLa_law 538 = .ok (.aload_n 2, 1) := dqLa_law_304.2.2.2.2.2.2.2.2.2.2.2.2.2.1
theorem dLa_law_539 : decode cLa_law 539 = .ok (.invokevirtual 90, 3) := dqLa_law_304.2.2.2.2.2.2.2.2.2.2.2.2.2.2.1
theorem dLa_law_542 : decode cLa_law 542 = .ok (.pop, 1) := dqLa_law_304.2.2.2.2.2.2.2.2.2.2.2.2.2.2.2
theorem dqLa_law_320 : decode cLa_law 543 = .ok (.goto 220, 3) ∧ decode cLa_law 546 = .ok (.aload_n 1, 1) ∧ decode cLa_law 547 = .ok (.aload_n 0, 1) ∧ decode cLa_law 548 = .ok (.iload 4, 2) ∧ decode cLa_law 550 = .ok (.iconst 1, 1) ∧ decode cLa_law 551 = .ok (.iadd, 1) ∧ decode cLa_law 552 = .ok (.iaload, 1) ∧ decode cLa_law 553 = .ok (.aload_n 3, 1) ∧ decode cLa_law 554 = .ok (.invokestatic 91, 3) ∧ decode cLa_law 557 = .ok (.istore 5, 2) ∧ decode cLa_law 559 = .ok (.aload_n 2, 1) ∧ decode cLa_law 560 = .ok (.aload_n 0, 1) ∧ decode cLa_law 561 = .ok (.iload 4, 2) ∧ decode cLa_law 563 = .ok (.iconst 1, 1) ∧ decode cLa_law 564 = .ok (.iadd, 1) ∧ decode cLa_law 565 = .ok (.iaload, 1) := by decide +kernel
theorem dLa_law_543 : decode cLa_law 543 = .ok (.goto 220, 3) := dqLa_law_320.1
theorem dLa_law_546 : decode cLa_law 546 = .ok (.aload_n 1, 1) := dqLa_law_320.2.1
theorem dLa_law_547 : decode cLa_law 547 = .ok (.aload_n 0, 1) := dqLa_law_320.2.2.1
theorem dLa_law_548 : decode cLa_law 548 = .ok (.iload 4, 2) := dqLa_law_320.2.2.2.1
theorem dLa_law_550 : decode cLa_law 550 = .ok (.iconst 1, 1) := dqLa_law_320.2.2.2.2.1
theorem dLa_law_551 : decode cLa_law 551 = .ok (.iadd, 1) := dqLa_law_320.2.2.2.2.2.1
theorem dLa_law_552 : decode cLa_law 552 = .ok (.iaload, 1) := dqLa_law_320.2.2.2.2.2.2.1
theorem dLa_law_553 : decode cLa_law 553 = .ok (.aload_n 3, 1) := dqLa_law_320.2.2.2.2.2.2.2.1
theorem dLa_law_554 : decode cLa_law 554 = .ok (.invokestatic 91, 3) := dqLa_law_320.2.2.2.2.2.2.2.2.1
theorem dLa_law_557 : decode cLa_law 557 = .ok (.istore 5, 2) := dqLa_law_320.2.2.2.2.2.2.2.2.2.1
theorem dLa_law_559 : decode cLa_law 559 = .ok (.aload_n 2, 1) := dqLa_law_320.2.2.2.2.2.2.2.2.2.2.1
theorem dLa_law_560 : decode cLa_law 560 = .ok (.aload_n 0, 1) := dqLa_law_320.2.2.2.2.2.2.2.2.2.2.2.1
theorem dLa_law_561 : decode cLa_law 561 = .ok (.iload 4, 2) := dqLa_law_320.2.2.2.2.2.2.2.2.2.2.2.2.1
theorem dLa_law_563 : decode cLa_law 563 = .ok (.iconst 1, 1) := dqLa_law_320.2.2.2.2.2.2.2.2.2.2.2.2.2.1
theorem dLa_law_564 : decode cLa_law 564 = .ok (.iadd, 1) := dqLa_law_320.2.2.2.2.2.2.2.2.2.2.2.2.2.2.1
theorem dLa_law_565 : decode cLa_law 565 = .ok (.iaload, 1) := dqLa_law_320.2.2.2.2.2.2.2.2.2.2.2.2.2.2.2
theorem dqLa_law_336 : decode cLa_law 566 = .ok (.invokevirtual 93, 3) ∧ decode cLa_law 569 = .ok (.istore 6, 2) ∧ decode cLa_law 571 = .ok (.goto 192, 3) ∧ decode cLa_law 574 = .ok (.aload_n 1, 1) ∧ decode cLa_law 575 = .ok (.aload_n 0, 1) ∧ decode cLa_law 576 = .ok (.iload 4, 2) ∧ decode cLa_law 578 = .ok (.iconst 1, 1) ∧ decode cLa_law 579 = .ok (.iadd, 1) ∧ decode cLa_law 580 = .ok (.iaload, 1) ∧ decode cLa_law 581 = .ok (.invokevirtual 94, 3) ∧ decode cLa_law 584 = .ok (.pop, 1) ∧ decode cLa_law 585 = .ok (.aload_n 2, 1) ∧ decode cLa_law 586 = .ok (.aload_n 0, 1) ∧ decode cLa_law 587 = .ok (.iload 4, 2) ∧ decode cLa_law 589 = .ok (.iconst 1, 1) ∧ decode cLa_law 590 = .ok (.iadd, 1) := by decide +kernel
theorem dLa_law_566 : decode cLa_law 566 = .ok (.invokevirtual 93, 3) := dqLa_law_336.1
theorem dLa_law_569 : decode cLa_law 569 = .ok (.istore 6, 2) := dqLa_law_336.2.1
theorem dLa_law_571 : decode cLa_law 571 = .ok (.goto 192, 3) := dqLa_law_336.2.2.1
theorem dLa_law_574 : decode cLa_law 574 = .ok (.aload_n 1, 1) := dqLa_law_336.2.2.2.1
theorem dLa_law_575 : decode cLa_law 575 = .ok (.aload_n 0, 1) := dqLa_law_336.2.2.2.2.1
theorem dLa_law_576 : decode cLa_law 576 = .ok (.iload 4, 2) := dqLa_law_336.2.2.2.2.2.1
theorem dLa_law_578 : decode cLa_law 578 = .ok (.iconst 1, 1) := dqLa_law_336.2.2.2.2.2.2.1
theorem dLa_law_579 : decode cLa_law 579 = .ok (.iadd, 1) := dqLa_law_336.2.2.2.2.2.2.2.1
theorem dLa_law_580 : decode cLa_law 580 = .ok (.iaload, 1) := dqLa_law_336.2.2.2.2.2.2.2.2.1
theorem dLa_law_581 : decode cLa_law 581 = .ok (.invokevirtual 94, 3) := dqLa_law_336.2.2.2.2.2.2.2.2.2.1
theorem dLa_law_584 : decode cLa_law 584 = .ok (.pop, 1) := dqLa_law_336.2.2.2.2.2.2.2.2.2.2.1
theorem dLa_law_585 : decode cLa_law 585 = .ok (.aload_n 2, 1) := dqLa_law_336.2.2.2.2.2.2.2.2.2.2.2.1
theorem dLa_law_586 : decode cLa_law 586 = .ok (.aload_n 0, 1) := dqLa_law_336.2.2.2.2.2.2.2.2.2.2.2.2.1
theorem dLa_law_587 : decode cLa_law 587 = .ok (.iload 4, 2) := dqLa_law_336.2.2.2.2.2.2.2.2.2.2.2.2.2.1
theorem dLa_law_589 : decode cLa_law 589 = .ok (.iconst 1, 1) := dqLa_law_336.2.2.2.2.2.2.2.2.2.2.2.2.2.2.1
theorem dLa_law_590 : decode cLa_law 590 = .ok (.iadd, 1) := dqLa_law_336.2.2.2.2.2.2.2.2.2.2.2.2.2.2.2
theorem dqLa_law_352 : decode cLa_law 591 = .ok (.iaload, 1) ∧ decode cLa_law 592 = .ok (.invokevirtual 97, 3) ∧ decode cLa_law 595 = .ok (.pop, 1) ∧ decode cLa_law 596 = .ok (.goto 167, 3) ∧ decode cLa_law 599 = .ok (.aload_n 1, 1) ∧ decode cLa_law 600 = .ok (.invokevirtual 98, 3) ∧ decode cLa_law 603 = .ok (.pop, 1) ∧ decode cLa_law 604 = .ok (.aload_n 2, 1) ∧ decode cLa_law 605 = .ok (.invokevirtual 101, 3) ∧ decode cLa_law 608 = .ok (.pop, 1) ∧ decode cLa_law 609 = .ok (.goto 154, 3) ∧ decode cLa_law 612 = .ok (.aload_n 1, 1) ∧ decode cLa_law 613 = .ok (.aload_n 0, 1) ∧ decode cLa_law 614 = .ok (.iload 4, 2) ∧ decode cLa_law 616 = .ok (.iconst 1, 1) ∧ decode cLa_law 617 = .ok (.iadd, 1) := by decide +kernel
theorem dLa_law_591 : decode cLa_law 591 = .ok (.iaload, 1) := dqLa_law_352.1
theorem dLa_law_592 : decode cLa_law 592 = .ok (.invokevirtual 97, 3) := dqLa_law_352.2.1
theorem dLa_law_595 : decode cLa_law 595 = .ok (.pop, 1) := dqLa_law_352.2.2.1
theorem dLa_law_596 : decode cLa_law 596 = .ok (.goto 167, 3) := dqLa_law_352.2.2.2.1
theorem dLa_law_599 : decode cLa_law 599 = .ok (.aload_n 1, 1) := dqLa_law_352.2.2.2.2.1
theorem dLa_law_600 : decode cLa_law 600 = .ok (.invokevirtual 98, 3) := dqLa_law_352.2.2.2.2.2.1
theorem dLa_law_603 : decode cLa_law 603 = .ok (.pop, 1) := dqLa_law_352.2.2.2.2.2.2.1
theorem dLa_law_604 : decode cLa_law 604 = .ok (.aload_n 2, 1) := dqLa_law_352.2.2.2.2.2.2.2.1
theorem dLa_law_605 : decode cLa_law 605 = .ok (.invokevirtual 101, 3) := dqLa_law_352.2.2.2.2.2.2.2.2.1
theorem dLa_law_608 : decode cLa_law 608 = .ok (.pop, 1) := dqLa_law_352.2.2.2.2.2.2.2.2.2.1
theorem dLa_law_609 : decode cLa_law 609 = .ok (.goto 154, 3) := dqLa_law_352.2.2.2.2.2.2.2.2.2.2.1
theorem dLa_law_612 : decode cLa_law 612 = .ok (.aload_n 1, 1) := dqLa_law_352.2.2.2.2.2.2.2.2.2.2.2.1
theorem dLa_law_613 : decode cLa_law 613 = .ok (.aload_n 0, 1) := dqLa_law_352.2.2.2.2.2.2.2.2.2.2.2.2.1
theorem dLa_law_614 : decode cLa_law 614 = .ok (.iload 4, 2) := dqLa_law_352.2.2.2.2.2.2.2.2.2.2.2.2.2.1
theorem dLa_law_616 : decode cLa_law 616 = .ok (.iconst 1, 1) := dqLa_law_352.2.2.2.2.2.2.2.2.2.2.2.2.2.2.1
theorem dLa_law_617 : decode cLa_law 617 = .ok (.iadd, 1) := dqLa_law_352.2.2.2.2.2.2.2.2.2.2.2.2.2.2.2
theorem dqLa_law_368 : decode cLa_law 618 = .ok (.iaload, 1) ∧ decode cLa_law 619 = .ok (.invokevirtual 102, 3) ∧ decode cLa_law 622 = .ok (.pop, 1) ∧ decode cLa_law 623 = .ok (.aload_n 2, 1) ∧ decode cLa_law 624 = .ok (.aload_n 0, 1) ∧ decode cLa_law 625 = .ok (.iload 4, 2) ∧ decode cLa_law 627 = .ok (.iconst 1, 1) ∧ decode cLa_law 628 = .ok (.iadd, 1) ∧ decode cLa_law 629 = .ok (.iaload, 1) ∧ decode cLa_law 630 = .ok (.invokevirtual 105, 3) ∧ decode cLa_law 633 = .ok (.pop, 1) ∧ decode cLa_law 634 = .ok (.goto 129, 3) ∧ decode cLa_law 637 = .ok (.aload_n 1, 1) ∧ decode cLa_law 638 = .ok (.aload_n 0, 1) ∧ decode cLa_law 639 = .ok (.iload 4, 2) ∧ decode cLa_law 641 = .ok (.iconst 1, 1) := by decide +kernel
theorem dLa_law_618 : decode cLa_law 618 = .ok (.iaload, 1) := dqLa_law_368.1
theorem dLa_law_619 : decode cLa_law 619 = .ok (.invokevirtual 102, 3) := dqLa_law_368.2.1
theorem dLa_law_622 : decode cLa_law 622 = .ok (.pop, 1) := dqLa_law_368.2.2.1
theorem dLa_law_623 : decode cLa_law 623 = .ok (.aload_n 2, 1) := dqLa_law_368.2.2.2.1
theorem dLa_law_624 : decode cLa_law 624 = .ok (.aload_n 0, 1) := dqLa_law_368.2.2.2.2.1
theorem dLa_law_625 : decode cLa_law 625 = .ok (.iload 4, 2) := dqLa_law_368.2.2.2.2.2.1
theorem dLa_law_627 : decode cLa_law 627 = .ok (.iconst 1, 1) := dqLa_law_368.2.2.2.2.2.2.1
theorem dLa_law_628 : decode cLa_law 628 = .ok (.iadd, 1) := dqLa_law_368.2.2.2.2.2.2.2.1
theorem dLa_law_629 : decode cLa_law 629 = .ok (.iaload, 1) := dqLa_law_368.2.2.2.2.2.2.2.2.1
theorem dLa_law_630 : decode cLa_law 630 = .ok (.invokevirtual 105, 3) := dqLa_law_368.2.2.2.2.2.2.2.2.2.1
theorem dLa_law_633 : decode cLa_law 633 = .ok (.pop, 1) := dqLa_law_368.2.2.2.2.2.2.2.2.2.2.1
theorem dLa_law_634 : decode cLa_law 634 = .ok (.goto 129, 3) := dqLa_law_368.2.2.2.2.2.2.2.2.2.2.2.1
theorem dLa_law_637 : decode cLa_law 637 = .ok (.aload_n 1, 1) := dqLa_law_368.2.2.2.2.2.2.2.2.2.2.2.2.1
theorem dLa_law_638 : decode cLa_law 638 = .ok (.aload_n 0, 1) := dqLa_law_368.2.2.2.2.2.2.2.2.2.2.2.2.2.1
theorem dLa_law_639 : decode cLa_law 639 = .ok (.iload 4, 2) := dqLa_law_368.2.2.2.2.2.2.2.2.2.2.2.2.2.2.1
theorem dLa_law_641 : decode cLa_law 641 = .ok (.iconst 1, 1) := dqLa_law_368.2.2.2.2.2.2.2.2.2.2.2.2.2.2.2
theorem dqLa_law_384 : decode cLa_law 642 = .ok (.iadd, 1) ∧ decode cLa_law 643 = .ok (.iaload, 1) ∧ decode cLa_law 644 = .ok (.invokevirtual 106, 3) ∧ decode cLa_law 647 = .ok (.pop2, 1) ∧ decode cLa_law 648 = .ok (.aload_n 2, 1) ∧ decode cLa_law 649 = .ok (.aload_n 0, 1) ∧ decode cLa_law 650 = .ok (.iload 4, 2) ∧ decode cLa_law 652 = .ok (.iconst 1, 1) ∧ decode cLa_law 653 = .ok (.iadd, 1) ∧ decode cLa_law 654 = .ok (.iaload, 1) ∧ decode cLa_law 655 = .ok (.invokevirtual 110, 3) ∧ decode cLa_law 658 = .ok (.pop2, 1) ∧ decode cLa_law 659 = .ok (.goto 104, 3) ∧ decode cLa_law 662 = .ok (.aload_n 1, 1) ∧ decode cLa_law 663 = .ok (.invokevirtual 111, 3) ∧ decode cLa_law 666 = .ok (.pop2, 1) := by decide +kernel
theorem dLa_law_642 : decode cLa_law 642 = .ok (.iadd, 1) := dqLa_law_384.1
theorem dLa_law_643 : decode cLa_law 643 = .ok (.iaload, 1) := dqLa_law_384.2.1
theorem dLa_law_644 : decode cLa_law 644 = .ok (.invokevirtual 106, 3) := dqLa_law_384.2.2.1
theorem dLa_law_647 : decode cLa_law 647 = .ok (.pop2, 1) := dqLa_law_384.2.2.2.1
theorem dLa_law_648 : decode cLa_law 648 = .ok (.aload_n 2, 1) := dqLa_law_384.2.2.2.2.1
theorem dLa_law_649 : decode cLa_law 649 = .ok (.aload_n 0, 1) := dqLa_law_384.2.2.2.2.2.1
theorem dLa_law_650 : decode cLa_law 650 = .ok (.iload 4, 2) := dqLa_law_384.2.2.2.2.2.2.1
theorem dLa_law_652 : decode cLa_law 652 = .ok (.iconst 1, 1) := dqLa_law_384.2.2.2.2.2.2.2.1
theorem dLa_law_653 : decode cLa_law 653 = .ok (.iadd, 1) := dqLa_law_384.2.2.2.2.2.2.2.2.1
theorem dLa_law_654 : decode cLa_law 654 = .ok (.iaload, 1) := dqLa_law_384.2.2.2.2.2.2.2.2.2.1
theorem dLa_law_655 : decode cLa_law 655 = .ok (.invokevirtual 110, 3) := dqLa_law_384.2.2.2.2.2.2.2.2.2.2.1
theorem dLa_law_658 : decode cLa_law 658 = .ok (.pop2, 1) := dqLa_law_384.2.2.2.2.2.2.2.2.2.2.2.1
theorem dLa_law_659 : decode cLa_law 659 = .ok (.goto 104, 3) := dqLa_law_384.2.2.2.2.2.2.2.2.2.2.2.2.1
theorem dLa_law_662 : decode cLa_law 662 = .ok (.aload_n 1, 1) := dqLa_law_384.2.2.2.2.2.2.2.2.2.2.2.2.2.1
theorem dLa_law_663 : decode cLa_law 663 = .ok (.invokevirtual 111, 3) := dqLa_law_384.2.2.2.2.2.2.2.2.2.2.2.2.2.2.1
theorem dLa_law_666 : decode cLa_law 666 = .ok (.pop2, 1) := dqLa_law_384.2.2.2.2.2.2.2.2.2.2.2.2.2.2.2
theorem dqLa_law_400 : decode cLa_law 667 = .ok (.aload_n 2, 1) ∧ decode cLa_law 668 = .ok (.invokevirtual 115, 3) ∧ decode cLa_law 671 = .ok (.pop2, 1) ∧ decode cLa_law 672 = .ok (.goto 91, 3) ∧ decode cLa_law 675 = .ok (.aload_n 1, 1) ∧ decode cLa_law 676 = .ok (.aload_n 0, 1) ∧ decode cLa_law 677 = .ok (.iload 4, 2) ∧ decode cLa_law 679 = .ok (.iconst 1, 1) ∧ decode cLa_law 680 = .ok (.iadd, 1) ∧ decode cLa_law 681 = .ok (.iaload, 1) ∧ decode cLa_law 682 = .ok (.invokevirtual 116, 3) ∧ decode cLa_law 685 = .ok (.pop2, 1) ∧ decode cLa_law 686 = .ok (.aload_n 2, 1) ∧ decode cLa_law 687 = .ok (.aload_n 0, 1) ∧ decode cLa_law 688 = .ok (.iload 4, 2) ∧ decode cLa_law 690 = .ok (.iconst 1, 1) := by decide +kernel
theorem dLa_law_667 : decode cLa_law 667 = .ok (.aload_n 2, 1) := dqLa_law_400.1
theorem dLa_law_668 : decode cLa_law 668 = .ok (.invokevirtual 115, 3) := dqLa_law_400.2.1
theorem dLa_law_671 : decode cLa_law 671 = .ok (.pop2, 1) := dqLa_law_400.2.2.1
theorem dLa_law_672 : decode cLa_law 672 = .ok (.goto 91, 3) := dqLa_law_400.2.2.2.1
theorem dLa_law_675 : decode cLa_law 675 = .ok (.aload_n 1, 1) := dqLa_law_400.2.2.2.2.1
theorem dLa_law_676 : decode cLa_law 676 = .ok (.aload_n 0, 1) := dqLa_law_400.2.2.2.2.2.1
theorem dLa_law_677 : decode cLa_law 677 = .ok (.iload 4, 2) := dqLa_law_400.2.2.2.2.2.2.1
theorem dLa_law_679 : decode cLa_law 679 = .ok (.iconst 1, 1) := dqLa_law_400.2.2.2.2.2.2.2.1
theorem dLa_law_680 : decode cLa_law 680 = .ok (.iadd, 1) := dqLa_law_400.2.2.2.2.2.2.2.2.1
theorem dLa_law_681 : decode cLa_law 681 = .ok (.iaload, 1) := dqLa_law_400.2.2.2.2.2.2.2.2.2.1
theorem dLa_law_682 : decode cLa_law 682 = .ok (.invokevirtual 116, 3) := dqLa_law_400.2.2.2.2.2.2.2.2.2.2.1
theorem dLa_law_685 : decode cLa_law 685 = .ok (.pop2, 1) := dqLa_law_400.2.2.2.2.2.2.2.2.2.2.2.1
theorem dLa_law_686 : decode cLa_law 686 = .ok (.aload_n 2, 1) := dqLa_law_400.2.2.2.2.2.2.2.2.2.2.2.2.1
theorem dLa_law_687 : decode cLa_law 687 = .ok (.aload_n 0, 1) := dqLa_law_400.2.2.2.2.2.2.2.2.2.2.2.2.2.1
theorem dLa_law_688 : decode cLa_law 688 = .ok (.iload 4, 2) := dqLa_law_400.2.2.2.2.2.2.2.2.2.2.2.2.2.2.1
theorem dLa_law_690 : decode cLa_law 690 = .ok (.iconst 1, 1) := dqLa_law_400.2.2.2.2.2.2.2.2.2.2.2.2.2.2.2
theorem dqLa_law_416 : decode cLa_law 691 = .ok (.iadd, 1) ∧ decode cLa_law 692 = .ok (.iaload, 1) ∧ decode cLa_law 693 = .ok (.invokevirtual 119, 3) ∧ decode cLa_law 696 = .ok (.pop2, 1) ∧ decode cLa_law 697 = .ok (.goto 66, 3) ∧ decode cLa_law 700 = .ok (.aload_n 1, 1) ∧ decode cLa_law 701 = .ok (.aload_n 0, 1) ∧ decode cLa_law 702 = .ok (.iload 4, 2) ∧ decode cLa_law 704 = .ok (.iconst 1, 1) ∧ decode cLa_law 705 = .ok (.iadd, 1) ∧ decode cLa_law 706 = .ok (.iaload, 1) ∧ decode cLa_law 707 = .ok (.invokevirtual 120, 3) ∧ decode cLa_law 710 = .ok (.pop2, 1) ∧ decode cLa_law 711 = .ok (.aload_n 2, 1) ∧ decode cLa_law 712 = .ok (.aload_n 0, 1) ∧ decode cLa_law 713 = .ok (.iload 4, 2) := by decide +kernel
theorem dLa_law_691 : decode cLa_law 691 = .ok (.iadd, 1) := dqLa_law_416.1
theorem dLa_law_692 : decode cLa_law 692 = .ok (.iaload, 1) := dqLa_law_416.2.1
theorem dLa_law_693 : decode cLa_law 693 = .ok (.invokevirtual 119, 3) := dqLa_law_416.2.2.1
theorem dLa_law_696 : decode cLa_law 696 = .ok (.pop2, 1) := dqLa_law_416.2.2.2.1
theorem dLa_law_697 : decode cLa_law 697 = .ok (.goto 66, 3) := dqLa_law_416.2.2.2.2.1
theorem dLa_law_700 : decode cLa_law 700 = .ok (.aload_n 1, 1) := dqLa_law_416.2.2.2.2.2.1
theorem dLa_law_701 : decode cLa_law 701 = .ok (.aload_n 0, 1) := dqLa_law_416.2.2.2.2.2.2.1
theorem dLa_law_702 : decode cLa_law 702 = .ok (.iload 4, 2) := dqLa_law_416.2.2.2.2.2.2.2.1
theorem dLa_law_704 : decode cLa_law 704 = .ok (.iconst 1, 1) := dqLa_law_416.2.2.2.2.2.2.2.2.1
theorem dLa_law_705 : decode cLa_law 705 = .ok (.iadd, 1) := dqLa_law_416.2.2.2.2.2.2.2.2.2.1
theorem dLa_law_706 : decode cLa_law 706 = .ok (.iaload, 1) := dqLa_law_416.2.2.2.2.2.2.2.2.2.2.1
theorem dLa_law_707 : decode cLa_law 707 = .ok (.invokevirtual 120, 3) := dqLa_law_416.2.2.2.2.2.2.2.2.2.2.2.1
theorem dLa_law_710 : decode cLa_law 710 = .ok (.pop2, 1) := dqLa_law_416.2.2.2.2.2.2.2.2.2.2.2.2.1
theorem dLa_law_711 : decode cLa_law 711 = .ok (.aload_n 2, 1) := dqLa_law_416.2.2.2.2.2.2.2.2.2.2.2.2.2.1
theorem dLa_law_712 : decode cLa_law 712 = .ok (.aload_n 0, 1) := dqLa_law_416.2.2.2.2.2.2.2.2.2.2.2.2.2.2.1
theorem dLa_law_713 : decode cLa_law 713 = .ok (.iload 4, 2) := dqLa_law_416.2.2.2.2.2.2.2.2.2.2.2.2.2.2.2
theorem dqLa_law_432 : decode cLa_law 715 = .ok (.iconst 1, 1) ∧ decode cLa_law 716 = .ok (.iadd, 1) ∧ decode cLa_law 717 = .ok (.iaload, 1) ∧ decode cLa_law 718 = .ok (.invokevirtual 123, 3) ∧ decode cLa_law 721 = .ok (.pop2, 1) ∧ decode cLa_law 722 = .ok (.goto 41, 3) ∧ decode cLa_law 725 = .ok (.aload_n 1, 1) ∧ decode cLa_law 726 = .ok (.aload_n 0, 1) ∧ decode cLa_law 727 = .ok (.iload 4, 2) ∧ decode cLa_law 729 = .ok (.iconst 1, 1) ∧ decode cLa_law 730 = .ok (.iadd, 1) ∧ decode cLa_law 731 = .ok (.iaload, 1) ∧ decode cLa_law 732 = .ok (.aload_n 0, 1) ∧ decode cLa_law 733 = .ok (.iload 4, 2) ∧ decode cLa_law 735 = .ok (.iconst 2, 1) ∧ decode cLa_law 736 = .ok (.iadd, 1) := by decide +kernel
theorem dLa_law_715 : decode cLa_law 715 = .ok (.iconst 1, 1) := dqLa_law_432.1
theorem dLa_law_716 : decode cLa_law 716 = .ok (.iadd, 1) := dqLa_law_432.2.1
theorem dLa_law_717 : decode cLa_law 717 = .ok (.iaload, 1) := dqLa_law_432.2.2.1
theorem dLa_law_718 : decode cLa_law 718 = .ok (.invokevirtual 123, 3) := dqLa_law_432.2.2.2.1
theorem dLa_law_721 : decode cLa_law 721 = .ok (.pop2, 1) := dqLa_law_432.2.2.2.2.1
theorem dLa_law_722 : decode cLa_law 722 = .ok (.goto 41, 3) := dqLa_law_432.2.2.2.2.2.1
theorem dLa_law_725 : decode cLa_law 725 = .ok (.aload_n 1, 1) := dqLa_law_432.2.2.2.2.2.2.1
theorem dLa_law_726 : decode cLa_law 726 = .ok (.aload_n 0, 1) := dqLa_law_432.2.2.2.2.2.2.2.1
theorem dLa_law_727 : decode cLa_law 727 = .ok (.iload 4, 2) := dqLa_law_432.2.2.2.2.2.2.2.2.1
theorem dLa_law_729 : decode cLa_law 729 = .ok (.iconst 1, 1) := dqLa_law_432.2.2.2.2.2.2.2.2.2.1
theorem dLa_law_730 : decode cLa_law 730 = .ok (.iadd, 1) := dqLa_law_432.2.2.2.2.2.2.2.2.2.2.1
theorem dLa_law_731 : decode cLa_law 731 = .ok (.iaload, 1) := dqLa_law_432.2.2.2.2.2.2.2.2.2.2.2.1
theorem dLa_law_732 : decode cLa_law 732 = .ok (.aload_n 0, 1) := dqLa_law_432.2.2.2.2.2.2.2.2.2.2.2.2.1
theorem dLa_law_733 : decode cLa_law 733 = .ok (.iload 4, 2) := dqLa_law_432.2.2.2.2.2.2.2.2.2.2.2.2.2.1
theorem dLa_law_735 : decode cLa_law 735 = .ok (.iconst 2, 1) := dqLa_law_432.2.2.2.2.2.2.2.2.2.2.2.2.2.2.1
theorem dLa_law_736 : decode cLa_law 736 = .ok (.iadd, 1) := dqLa_law_432.2.2.2.2.2.2.2.2.2.2.2.2.2.2.2
theorem dqLa_law_448 : decode cLa_law 737 = .ok (.iaload, 1) ∧ decode cLa_law 738 = .ok (.invokevirtual 124, 3) ∧ decode cLa_law 741 = .ok (.aload_n 2, 1) ∧ decode cLa_law 742 = .ok (.aload_n 0, 1) ∧ decode cLa_law 743 = .ok (.iload 4, 2) ∧ decode cLa_law 745 = .ok (.iconst 1, 1) ∧ decode cLa_law 746 = .ok (.iadd, 1) ∧ decode cLa_law 747 = .ok (.iaload, 1) ∧ decode cLa_law 748 = .ok (.aload_n 0, 1) ∧ decode cLa_law 749 = .ok (.iload 4, 2) ∧ decode cLa_law 751 = .ok (.iconst 2, 1) ∧ decode cLa_law 752 = .ok (.iadd, 1) ∧ decode cLa_law 753 = .ok (.iaload, 1) ∧ decode cLa_law 754 = .ok (.invokevirtual 128, 3) ∧ decode cLa_law 757 = .ok (.lcmp, 1) ∧ decode cLa_law 758 = .ok (.ifCond .eq 5, 3) := by decide +kernel
theorem dLa_law_737 : decode cLa_law 737 = .ok (.iaload, 1) := dqLa_law_448.1
theorem dLa_law_738 : decode cLa_law 738 = .ok (.invokevirtual 124, 3) := dqLa_law_448.2.1
theorem dLa_law_741 : decode cLa_law 741 = .ok (.aload_n 2, 1) := dqLa_law_448.2.2.1
theorem dLa_law_742 : decode cLa_law 742 = .ok (.aload_n 0, 1) := dqLa_law_448.2.2.2.1
theorem dLa_law_743 : decode cLa_law 743 = .ok (.iload 4, 2) := dqLa_law_448.2.2.2.2.1
theorem dLa_law_745 : decode cLa_law 745 = .ok (.iconst 1, 1) := dqLa_law_448.2.2.2.2.2.1
theorem dLa_law_746 : decode cLa_law 746 = .ok (.iadd, 1) := dqLa_law_448.2.2.2.2.2.2.1
theorem dLa_law_747 : decode cLa_law 747 = .ok (.iaload, 1) := dqLa_law_448.2.2.2.2.2.2.2.1
theorem dLa_law_748 : decode cLa_law 748 = .ok (.aload_n 0, 1) := dqLa_law_448.2.2.2.2.2.2.2.2.1
theorem dLa_law_749 : decode cLa_law 749 = .ok (.iload 4, 2) := dqLa_law_448.2.2.2.2.2.2.2.2.2.1
theorem dLa_law_751 : decode cLa_law 751 = .ok (.iconst 2, 1) := dqLa_law_448.2.2.2.2.2.2.2.2.2.2.1
theorem dLa_law_752 : decode cLa_law 752 = .ok (.iadd, 1) := dqLa_law_448.2.2.2.2.2.2.2.2.2.2.2.1
theorem dLa_law_753 : decode cLa_law 753 = .ok (.iaload, 1) := dqLa_law_448.2.2.2.2.2.2.2.2.2.2.2.2.1
theorem dLa_law_754 : decode cLa_law 754 = .ok (.invokevirtual 128, 3) := dqLa_law_448.2.2.2.2.2.2.2.2.2.2.2.2.2.1
theorem dLa_law_757 : decode cLa_law 757 = .ok (.lcmp, 1) := dqLa_law_448.2.2.2.2.2.2.2.2.2.2.2.2.2.2.1
theorem dLa_law_758 : decode cLa_law 758 = .ok (.ifCond .eq 5, 3) := dqLa_law_448.2.2.2.2.2.2.2.2.2.2.2.2.2.2.2
theorem dqLa_law_464 : decode cLa_law 761 = .ok (.iconst 0, 1) ∧ decode cLa_law 762 = .ok (.ireturn, 1) ∧ decode cLa_law 763 = .ok (.iinc 4 5, 3) ∧ decode cLa_law 766 = .ok (.goto (-743), 3) ∧ decode cLa_law 769 = .ok (.iconst 1, 1) ∧ decode cLa_law 770 = .ok (.ireturn, 1) := by decide +kernel
theorem dLa_law_761 : decode cLa_law 761 = .ok (.iconst 0, 1) := dqLa_law_464.1
theorem dLa_law_762 : decode cLa_law 762 = .ok (.ireturn, 1) := dqLa_law_464.2.1
theorem dLa_law_763 : decode cLa_law 763 = .ok (.iinc 4 5, 3) := dqLa_law_464.2.2.1
theorem dLa_law_766 : decode cLa_law 766 = .ok (.goto (-743), 3) := dqLa_law_464.2.2.2.1
theorem dLa_law_769 : decode cLa_law 769 = .ok (.iconst 1, 1) := dqLa_law_464.2.2.2.2.1
theorem dLa_law_770 : decode cLa_law 770 = .ok (.ireturn, 1) := dqLa_law_464.2.2.2.2.2
def wl_La_law_23 (L : Nat) (xs : Nat → Int32) : Nat → (Int32) → (ct_Sc) → (Nat → Int32) → (Nat → Int32) → (Nat → Int32) → (ct_In) → (Nat → Int32) → (ct_Ma) → (Nat → Int32) → (Nat → Int64) → (ct_Ma) → (Nat → Int32) → (Nat → Int64) → (ct_Pa) → (Nat → Int32) → (Nat → Int32) → (Nat → Int32) → (ct_Pr) → (ct_Ma) → (Nat → Int32) → (Nat → Int64) → (ct_As) → (ct_Ga) → (ct_Ga) → (ct_Ga) → (ct_Mo) → (Nat → Int32) → (Nat → Int32) → (Nat → Int32) → (Nat → Int32) → (Nat → Int32) → (Nat → Int32) → (Nat → Int32) → (Nat → Int32) → (Nat → Int32) → (Nat → Int32) → (Nat → Int32) → (Nat → Int32) → (Nat → Int64) → (Nat → Int64) → (Nat → Int32) → (Nat → Int64) → (Nat → Int32) → (Nat → Int32) → (Nat → Int64) → (Nat → Int64) → (Nat → Int64) → (Nat) → (Nat) → Prop
  | 0, _, _, _, _, _, _, _, _, _, _, _, _, _, _, _, _, _, _, _, _, _, _, _, _, _, _, _, _, _, _, _, _, _, _, _, _, _, _, _, _, _, _, _, _, _, _, _, _, _ => False
  | n258 + 1, v259, x260, x261, x262, x263, x264, x265, x266, x267, x268, x269, x270, x271, x272, x273, x274, x275, x276, x277, x278, x279, x280, x281, x282, x283, x284, x285, x286, x287, x288, x289, x290, x291, x292, x293, x294, x295, x296, x297, x298, x299, x300, x301, x302, x303, x304, x305, kc9, ks9 => kc9 ≤ 639275 ∧ ks9 ≤ 7178020 ∧ (((((Int32.ofNat L) - 5) < v259 → (False)) ∧ (¬ ((Int32.ofNat L) - 5) < v259 → (vp_in v259 L ∧ (∀ kk308 : Int32, kk308 = ((xs v259.toNatClampNeg) &&& 31) → (((kk308 < 0 → (wl_La_law_23 L xs n258 (v259 + 5) x260 x261 x262 x263 x264 x265 x266 x267 x268 x269 x270 x271 x272 x273 x274 x275 x276 x277 x278 x279 x280 x281 x282 x283 x284 x285 x286 x287 x288 x289 x290 x291 x292 x293 x294 x295 x296 x297 x298 x299 x300 x301 x302 x303 x304 x305 (kc9 + 10) (ks9 + 60))) ∧ (¬ kk308 < 0 → (((17 < kk308 → (wl_La_law_23 L xs n258 (v259 + 5) x260 x261 x262 x263 x264 x265 x266 x267 x268 x269 x270 x271 x272 x273 x274 x275 x276 x277 x278 x279 x280 x281 x282 x283 x284 x285 x286 x287 x288 x289 x290 x291 x292 x293 x294 x295 x296 x297 x298 x299 x300 x301 x302 x303 x304 x305 (kc9 + 10) (ks9 + 60))) ∧ (¬ 17 < kk308 → (((kk308 = 0 → (vp_in (v259 + 1) L ∧ (vp_in (v259 + 2) L ∧ (vp_in (v259 + 3) L ∧ (wp_Sc_code (fun r315 u316 => (vp_in (v259 + 1) L ∧ (vp_in (v259 + 2) L ∧ (vp_in (v259 + 3) L ∧ (wp_Mo_code (fun r320 u321 => (wl_La_law_23 L xs n258 (v259 + 5) u316.1 x261 u316.2.1 u316.2.2.1 x264 x265 x266 x267 x268 x269 x270 x271 x272 x273 x274 x275 x276 x277 x278 x279 u316.2.2.2 x281 x282 x283 u321.1 u321.2.1 u321.2.2 x287 x288 x289 x290 x291 x292 x293 x294 x295 x296 x297 x298 x299 x300 x301 x302 x303 x304 x305 (kc9 + 10) (ks9 + 60))) (x284, x285, x286) (xs (v259 + 1).toNatClampNeg) (xs (v259 + 2).toNatClampNeg) (xs (v259 + 3).toNatClampNeg) ))))) (x260, x262, x263, x280) (xs (v259 + 1).toNatClampNeg) (xs (v259 + 2).toNatClampNeg) (xs (v259 + 3).toNatClampNeg) ))))) ∧ (¬ kk308 = 0 → (((kk308 = 1 → (vp_in (v259 + 1) L ∧ (vp_in (v259 + 2) L ∧ (wp_La_deposit (fun r325 u326 => (vp_in (v259 + 1) L ∧ (vp_in (v259 + 2) L ∧ (wp_Mo_deposit (fun r330 u331 => (wl_La_law_23 L xs n258 (v259 + 5) u326.1 u326.2.1 x262 x263 u326.2.2.1 u326.2.2.2.1 x266 x267 x268 x269 x270 x271 x272 x273 x274 x275 x276 x277 x278 x279 x280 x281 x282 x283 u331.1 x285 x286 u331.2.1 u331.2.2 x289 x290 x291 x292 x293 x294 x295 x296 x297 x298 x299 x300 x301 x302 x303 x304 u326.2.2.2.2 (kc9 + 10) (ks9 + 60))) (x284, x287, x288) (xs (v259 + 1).toNatClampNeg) (xs (v259 + 2).toNatClampNeg) )))) (fun E9 u327 => (False)) (x260, x261, x264, x265, x305) (xs (v259 + 1).toNatClampNeg) (xs (v259 + 2).toNatClampNeg) )))) ∧ (¬ kk308 = 1 → (((kk308 = 2 → (vp_in (v259 + 1) L ∧ (wp_La_send (fun r334 u335 => (vp_in (v259 + 1) L ∧ (wp_Mo_send (fun r338 u339 => (wl_La_law_23 L xs n258 (v259 + 5) u335.1 x261 x262 x263 u335.2.1 u335.2.2.1 x266 x267 x268 x269 x270 x271 x272 x273 x274 x275 x276 x277 x278 x279 x280 x281 x282 x283 u339.1 x285 x286 x287 u339.2 x289 x290 x291 x292 x293 x294 x295 x296 x297 x298 x299 x300 x301 x302 x303 x304 u335.2.2.2 (kc9 + 10) (ks9 + 60))) (x284, x288) (xs (v259 + 1).toNatClampNeg) ))) (fun E9 u336 => (False)) (x260, x264, x265, x305) (xs (v259 + 1).toNatClampNeg) ))) ∧ (¬ kk308 = 2 → (((kk308 = 3 → (vp_in (v259 + 1) L ∧ (vp_in (v259 + 2) L ∧ (vp_in (v259 + 3) L ∧ (vp_in (v259 + 4) L ∧ (wp_La_claim (fun r345 u346 => (vp_in (v259 + 1) L ∧ (vp_in (v259 + 2) L ∧ (vp_in (v259 + 3) L ∧ (vp_in (v259 + 4) L ∧ (wp_Mo_claim (fun r352 u353 => (wl_La_law_23 L xs n258 (v259 + 5) u346.1 u346.2.1 u346.2.2.1 u346.2.2.2.1 u346.2.2.2.2.1 u346.2.2.2.2.2.1 u346.2.2.2.2.2.2.1 u346.2.2.2.2.2.2.2.1 x268 u346.2.2.2.2.2.2.2.2.1 u346.2.2.2.2.2.2.2.2.2.1 u346.2.2.2.2.2.2.2.2.2.2.1 x272 x273 x274 x275 x276 x277 x278 x279 u346.2.2.2.2.2.2.2.2.2.2.2.1 x281 x282 x283 u353.1 u353.2.1 u353.2.2.1 u353.2.2.2.1 u353.2.2.2.2.1 u353.2.2.2.2.2.1 u353.2.2.2.2.2.2.1 x291 x292 x293 x294 x295 x296 x297 x298 x299 x300 x301 x302 u353.2.2.2.2.2.2.2 x304 u346.2.2.2.2.2.2.2.2.2.2.2.2 (kc9 + 10) (ks9 + 60))) (x284, x285, x286, x287, x288, x289, x290, x303) (xs (v259 + 1).toNatClampNeg) (xs (v259 + 2).toNatClampNeg) ((((xs (v259 + 3).toNatClampNeg).toInt64) <<< ((32 : Int32).toInt64 &&& 63)) ||| (((xs (v259 + 4).toNatClampNeg).toInt64) &&& 4294967295)) )))))) (fun E9 u347 => (False)) (x260, x261, x262, x263, x264, x265, x266, x267, x269, x270, x271, x280, x305) (xs (v259 + 1).toNatClampNeg) (xs (v259 + 2).toNatClampNeg) ((((xs (v259 + 3).toNatClampNeg).toInt64) <<< ((32 : Int32).toInt64 &&& 63)) ||| (((xs (v259 + 4).toNatClampNeg).toInt64) &&& 4294967295)) )))))) ∧ (¬ kk308 = 3 → (((kk308 = 4 → (vp_in (v259 + 1) L ∧ (wp_La_challenge (fun r356 u357 => (vp_in (v259 + 1) L ∧ (wp_Mo_challenge (fun r360 u361 => (wl_La_law_23 L xs n258 (v259 + 5) u357.1 u357.2.1 x262 x263 x264 x265 x266 x267 x268 x269 x270 x271 x272 x273 x274 x275 x276 x277 x278 x279 u357.2.2.1 u357.2.2.2.1 u357.2.2.2.2.1 u357.2.2.2.2.2.1 u361.1 x285 x286 u361.2.1 x288 x289 x290 x291 x292 x293 u361.2.2.1 u361.2.2.2.1 u361.2.2.2.2.1 u361.2.2.2.2.2.1 u361.2.2.2.2.2.2.1 u361.2.2.2.2.2.2.2.1 u361.2.2.2.2.2.2.2.2.1 u361.2.2.2.2.2.2.2.2.2.1 u361.2.2.2.2.2.2.2.2.2.2 x303 x304 u357.2.2.2.2.2.2 (kc9 + 10) (ks9 + 60))) (x284, x287, x294, x295, x296, x297, x298, x299, x300, x301, x302) (xs (v259 + 1).toNatClampNeg) ))) (fun E9 u358 => (False)) (x260, x261, x280, x281, x282, x283, x305) (xs (v259 + 1).toNatClampNeg) ))) ∧ (¬ kk308 = 4 → (((kk308 = 5 → (vp_in (v259 + 1) L ∧ (vp_in (v259 + 2) L ∧ (vp_in (v259 + 3) L ∧ (wp_La_post (fun r366 u367 => (vp_in (v259 + 1) L ∧ (vp_in (v259 + 2) L ∧ (vp_in (v259 + 3) L ∧ (wp_Mo_post (fun r372 u373 => (wl_La_law_23 L xs n258 (v259 + 5) u367.1 x261 u367.2.1 u367.2.2.1 u367.2.2.2.1 u367.2.2.2.2.1 u367.2.2.2.2.2.1 u367.2.2.2.2.2.2.1 x268 u367.2.2.2.2.2.2.2.1 u367.2.2.2.2.2.2.2.2.1 u367.2.2.2.2.2.2.2.2.2.1 x272 x273 x274 x275 x276 x277 x278 x279 u367.2.2.2.2.2.2.2.2.2.2.1 u367.2.2.2.2.2.2.2.2.2.2.2.1 u367.2.2.2.2.2.2.2.2.2.2.2.2.1 u367.2.2.2.2.2.2.2.2.2.2.2.2.2.1 u373.1 u373.2.1 u373.2.2.1 x287 u373.2.2.2.1 u373.2.2.2.2.1 u373.2.2.2.2.2.1 x291 x292 x293 x294 u373.2.2.2.2.2.2.1 u373.2.2.2.2.2.2.2.1 x297 x298 u373.2.2.2.2.2.2.2.2.1 u373.2.2.2.2.2.2.2.2.2.1 u373.2.2.2.2.2.2.2.2.2.2.1 u373.2.2.2.2.2.2.2.2.2.2.2.1 u373.2.2.2.2.2.2.2.2.2.2.2.2 x304 u367.2.2.2.2.2.2.2.2.2.2.2.2.2.2 (kc9 + 10) (ks9 + 60))) (x284, x285, x286, x288, x289, x290, x295, x296, x299, x300, x301, x302, x303) (xs (v259 + 1).toNatClampNeg) ((((xs (v259 + 2).toNatClampNeg).toInt64) <<< ((32 : Int32).toInt64 &&& 63)) ||| (((xs (v259 + 3).toNatClampNeg).toInt64) &&& 4294967295)) ))))) (fun E9 u368 => (False)) (x260, x262, x263, x264, x265, x266, x267, x269, x270, x271, x280, x281, x282, x283, x305) (xs (v259 + 1).toNatClampNeg) ((((xs (v259 + 2).toNatClampNeg).toInt64) <<< ((32 : Int32).toInt64 &&& 63)) ||| (((xs (v259 + 3).toNatClampNeg).toInt64) &&& 4294967295)) ))))) ∧ (¬ kk308 = 5 → (((kk308 = 6 → (vp_in (v259 + 1) L ∧ (vp_in (v259 + 2) L ∧ ((((xs (v259 + 2).toNatClampNeg) = 0 → (wp_La_pick (fun r378 u379 => (vp_in (v259 + 1) L ∧ (vp_in (v259 + 2) L ∧ ((((xs (v259 + 2).toNatClampNeg) = 0 → (wp_Mo_pick (fun r384 u385 => (wl_La_law_23 L xs n258 (v259 + 5) u379.1 x261 x262 x263 x264 x265 x266 x267 x268 x269 x270 x271 x272 x273 x274 x275 x276 x277 x278 x279 x280 u379.2.1 u379.2.2.1 u379.2.2.2.1 u385.1 x285 x286 x287 x288 x289 x290 x291 x292 x293 x294 u385.2.1 u385.2.2.1 u385.2.2.2.1 u385.2.2.2.2.1 u385.2.2.2.2.2.1 u385.2.2.2.2.2.2.1 u385.2.2.2.2.2.2.2.1 u385.2.2.2.2.2.2.2.2 x303 x304 u379.2.2.2.2 (kc9 + 10) (ks9 + 60))) (x284, x295, x296, x297, x298, x299, x300, x301, x302) (xs (v259 + 1).toNatClampNeg) 0 )) ∧ (¬ (xs (v259 + 2).toNatClampNeg) = 0 → (wp_Mo_pick (fun r386 u387 => (wl_La_law_23 L xs n258 (v259 + 5) u379.1 x261 x262 x263 x264 x265 x266 x267 x268 x269 x270 x271 x272 x273 x274 x275 x276 x277 x278 x279 x280 u379.2.1 u379.2.2.1 u379.2.2.2.1 u387.1 x285 x286 x287 x288 x289 x290 x291 x292 x293 x294 u387.2.1 u387.2.2.1 u387.2.2.2.1 u387.2.2.2.2.1 u387.2.2.2.2.2.1 u387.2.2.2.2.2.2.1 u387.2.2.2.2.2.2.2.1 u387.2.2.2.2.2.2.2.2 x303 x304 u379.2.2.2.2 (kc9 + 10) (ks9 + 60))) (x284, x295, x296, x297, x298, x299, x300, x301, x302) (xs (v259 + 1).toNatClampNeg) 1 ))))))) (fun E9 u380 => (False)) (x260, x281, x282, x283, x305) (xs (v259 + 1).toNatClampNeg) 0 )) ∧ (¬ (xs (v259 + 2).toNatClampNeg) = 0 → (wp_La_pick (fun r388 u389 => (vp_in (v259 + 1) L ∧ (vp_in (v259 + 2) L ∧ ((((xs (v259 + 2).toNatClampNeg) = 0 → (wp_Mo_pick (fun r394 u395 => (wl_La_law_23 L xs n258 (v259 + 5) u389.1 x261 x262 x263 x264 x265 x266 x267 x268 x269 x270 x271 x272 x273 x274 x275 x276 x277 x278 x279 x280 u389.2.1 u389.2.2.1 u389.2.2.2.1 u395.1 x285 x286 x287 x288 x289 x290 x291 x292 x293 x294 u395.2.1 u395.2.2.1 u395.2.2.2.1 u395.2.2.2.2.1 u395.2.2.2.2.2.1 u395.2.2.2.2.2.2.1 u395.2.2.2.2.2.2.2.1 u395.2.2.2.2.2.2.2.2 x303 x304 u389.2.2.2.2 (kc9 + 10) (ks9 + 60))) (x284, x295, x296, x297, x298, x299, x300, x301, x302) (xs (v259 + 1).toNatClampNeg) 0 )) ∧ (¬ (xs (v259 + 2).toNatClampNeg) = 0 → (wp_Mo_pick (fun r396 u397 => (wl_La_law_23 L xs n258 (v259 + 5) u389.1 x261 x262 x263 x264 x265 x266 x267 x268 x269 x270 x271 x272 x273 x274 x275 x276 x277 x278 x279 x280 u389.2.1 u389.2.2.1 u389.2.2.2.1 u397.1 x285 x286 x287 x288 x289 x290 x291 x292 x293 x294 u397.2.1 u397.2.2.1 u397.2.2.2.1 u397.2.2.2.2.1 u397.2.2.2.2.2.1 u397.2.2.2.2.2.2.1 u397.2.2.2.2.2.2.2.1 u397.2.2.2.2.2.2.2.2 x303 x304 u389.2.2.2.2 (kc9 + 10) (ks9 + 60))) (x284, x295, x296, x297, x298, x299, x300, x301, x302) (xs (v259 + 1).toNatClampNeg) 1 ))))))) (fun E9 u390 => (False)) (x260, x281, x282, x283, x305) (xs (v259 + 1).toNatClampNeg) 1 ))))))) ∧ (¬ kk308 = 6 → (((kk308 = 7 → (vp_in (v259 + 1) L ∧ (vp_in (v259 + 2) L ∧ (vp_in (v259 + 3) L ∧ (wp_La_prove (fun r402 u403 => (vp_in (v259 + 1) L ∧ (vp_in (v259 + 2) L ∧ (vp_in (v259 + 3) L ∧ (wp_Mo_prove (fun r408 u409 => (wl_La_law_23 L xs n258 (v259 + 5) u403.1 u403.2.1 u403.2.2.1 u403.2.2.2.1 u403.2.2.2.2.1 u403.2.2.2.2.2.1 u403.2.2.2.2.2.2.1 u403.2.2.2.2.2.2.2.1 x268 u403.2.2.2.2.2.2.2.2.1 u403.2.2.2.2.2.2.2.2.2.1 u403.2.2.2.2.2.2.2.2.2.2.1 u403.2.2.2.2.2.2.2.2.2.2.2.1 u403.2.2.2.2.2.2.2.2.2.2.2.2.1 u403.2.2.2.2.2.2.2.2.2.2.2.2.2.1 x275 u403.2.2.2.2.2.2.2.2.2.2.2.2.2.2.1 u403.2.2.2.2.2.2.2.2.2.2.2.2.2.2.2.1 u403.2.2.2.2.2.2.2.2.2.2.2.2.2.2.2.2.1 u403.2.2.2.2.2.2.2.2.2.2.2.2.2.2.2.2.2.1 u403.2.2.2.2.2.2.2.2.2.2.2.2.2.2.2.2.2.2.1 u403.2.2.2.2.2.2.2.2.2.2.2.2.2.2.2.2.2.2.2.1 u403.2.2.2.2.2.2.2.2.2.2.2.2.2.2.2.2.2.2.2.2.1 u403.2.2.2.2.2.2.2.2.2.2.2.2.2.2.2.2.2.2.2.2.2.1 u409.1 u409.2.1 u409.2.2.1 u409.2.2.2.1 u409.2.2.2.2.1 u409.2.2.2.2.2.1 u409.2.2.2.2.2.2.1 u409.2.2.2.2.2.2.2.1 u409.2.2.2.2.2.2.2.2.1 x293 x294 u409.2.2.2.2.2.2.2.2.2.1 u409.2.2.2.2.2.2.2.2.2.2.1 u409.2.2.2.2.2.2.2.2.2.2.2.1 u409.2.2.2.2.2.2.2.2.2.2.2.2.1 u409.2.2.2.2.2.2.2.2.2.2.2.2.2.1 x300 u409.2.2.2.2.2.2.2.2.2.2.2.2.2.2.1 u409.2.2.2.2.2.2.2.2.2.2.2.2.2.2.2.1 u409.2.2.2.2.2.2.2.2.2.2.2.2.2.2.2.2.1 u409.2.2.2.2.2.2.2.2.2.2.2.2.2.2.2.2.2 u403.2.2.2.2.2.2.2.2.2.2.2.2.2.2.2.2.2.2.2.2.2.2 (kc9 + 10) (ks9 + 60))) (x284, x285, x286, x287, x288, x289, x290, x291, x292, x295, x296, x297, x298, x299, x301, x302, x303, x304) (xs (v259 + 1).toNatClampNeg) (xs (v259 + 2).toNatClampNeg) (xs (v259 + 3).toNatClampNeg) ))))) (fun E9 u404 => (False)) (x260, x261, x262, x263, x264, x265, x266, x267, x269, x270, x271, x272, x273, x274, x276, x277, x278, x279, x280, x281, x282, x283, x305) (xs (v259 + 1).toNatClampNeg) (xs (v259 + 2).toNatClampNeg) (xs (v259 + 3).toNatClampNeg) ))))) ∧ (¬ kk308 = 7 → (((kk308 = 8 → (wp_Sc_block (fun r411 u412 => (wp_Mo_block (fun r413 u414 => (wl_La_law_23 L xs n258 (v259 + 5) u412.1 u412.2.1 u412.2.2.1 u412.2.2.2.1 u412.2.2.2.2.1 u412.2.2.2.2.2.1 u412.2.2.2.2.2.2.1 u412.2.2.2.2.2.2.2.1 x268 x269 x270 x271 u412.2.2.2.2.2.2.2.2.1 u412.2.2.2.2.2.2.2.2.2.1 u412.2.2.2.2.2.2.2.2.2.2.1 x275 x276 x277 x278 x279 u412.2.2.2.2.2.2.2.2.2.2.2.1 u412.2.2.2.2.2.2.2.2.2.2.2.2.1 u412.2.2.2.2.2.2.2.2.2.2.2.2.2.1 u412.2.2.2.2.2.2.2.2.2.2.2.2.2.2 u414.1 u414.2.1 u414.2.2.1 u414.2.2.2.1 u414.2.2.2.2.1 u414.2.2.2.2.2.1 u414.2.2.2.2.2.2.1 u414.2.2.2.2.2.2.2.1 u414.2.2.2.2.2.2.2.2.1 x293 u414.2.2.2.2.2.2.2.2.2.1 u414.2.2.2.2.2.2.2.2.2.2.1 u414.2.2.2.2.2.2.2.2.2.2.2.1 x297 x298 u414.2.2.2.2.2.2.2.2.2.2.2.2.1 x300 u414.2.2.2.2.2.2.2.2.2.2.2.2.2.1 u414.2.2.2.2.2.2.2.2.2.2.2.2.2.2 x303 x304 x305 (kc9 + 10) (ks9 + 60))) (x284, x285, x286, x287, x288, x289, x290, x291, x292, x294, x295, x296, x299, x301, x302) )) (x260, x261, x262, x263, x264, x265, x266, x267, x272, x273, x274, x280, x281, x282, x283) )) ∧ (¬ kk308 = 8 → (((kk308 = 9 → (vp_in (v259 + 1) L ∧ (wp_La_draw (fun r417 u418 => (vp_in (v259 + 1) L ∧ (wp_Mo_draw (fun r421 u422 => (wl_La_law_23 L xs n258 (v259 + 5) u418.1 u418.2.1 x262 x263 x264 x265 u418.2.2.1 u418.2.2.2.1 u418.2.2.2.2.1 x269 x270 x271 u418.2.2.2.2.2.1 u418.2.2.2.2.2.2.1 u418.2.2.2.2.2.2.2.1 u418.2.2.2.2.2.2.2.2.1 x276 x277 x278 x279 x280 x281 x282 x283 u422.1 x285 x286 u422.2.1 x288 u422.2.2.1 u422.2.2.2.1 u422.2.2.2.2.1 u422.2.2.2.2.2.1 u422.2.2.2.2.2.2.1 x294 x295 x296 x297 x298 x299 x300 x301 x302 u422.2.2.2.2.2.2.2 x304 u418.2.2.2.2.2.2.2.2.2 (kc9 + 10) (ks9 + 60))) (x284, x287, x289, x290, x291, x292, x293, x303) (xs (v259 + 1).toNatClampNeg) ))) (fun E9 u419 => (False)) (x260, x261, x266, x267, x268, x272, x273, x274, x275, x305) (xs (v259 + 1).toNatClampNeg) ))) ∧ (¬ kk308 = 9 → (((kk308 = 10 → (vp_in (v259 + 1) L ∧ (wp_Sc_balance (fun r425 u426 => (vp_in (v259 + 1) L ∧ (wp_Mo_balance (fun r428 u429 => (wl_La_law_23 L xs n258 (v259 + 5) u426.1 u426.2 x262 x263 x264 x265 x266 x267 x268 x269 x270 x271 x272 x273 x274 x275 x276 x277 x278 x279 x280 x281 x282 x283 u429.1 x285 x286 u429.2 x288 x289 x290 x291 x292 x293 x294 x295 x296 x297 x298 x299 x300 x301 x302 x303 x304 x305 (kc9 + 10) (ks9 + 60))) (x284, x287) (xs (v259 + 1).toNatClampNeg) ))) (x260, x261) (xs (v259 + 1).toNatClampNeg) ))) ∧ (¬ kk308 = 10 → (((kk308 = 11 → (wp_Sc_pot (fun r431 u432 => (wp_Mo_pot (fun r433 u434 => (wl_La_law_23 L xs n258 (v259 + 5) u432 x261 x262 x263 x264 x265 x266 x267 x268 x269 x270 x271 x272 x273 x274 x275 x276 x277 x278 x279 x280 x281 x282 x283 u434 x285 x286 x287 x288 x289 x290 x291 x292 x293 x294 x295 x296 x297 x298 x299 x300 x301 x302 x303 x304 x305 (kc9 + 10) (ks9 + 60))) x284 )) x260 )) ∧ (¬ kk308 = 11 → (((kk308 = 12 → (vp_in (v259 + 1) L ∧ (wp_Sc_word (fun r437 u438 => (vp_in (v259 + 1) L ∧ (wp_Mo_word (fun r440 u441 => (wl_La_law_23 L xs n258 (v259 + 5) u438.1 x261 x262 x263 u438.2.1 u438.2.2 x266 x267 x268 x269 x270 x271 x272 x273 x274 x275 x276 x277 x278 x279 x280 x281 x282 x283 u441.1 x285 x286 x287 u441.2 x289 x290 x291 x292 x293 x294 x295 x296 x297 x298 x299 x300 x301 x302 x303 x304 x305 (kc9 + 10) (ks9 + 60))) (x284, x288) (xs (v259 + 1).toNatClampNeg) ))) (x260, x264, x265) (xs (v259 + 1).toNatClampNeg) ))) ∧ (¬ kk308 = 12 → (((kk308 = 13 → (vp_in (v259 + 1) L ∧ (wp_Sc_truth (fun r444 u445 => (vp_in (v259 + 1) L ∧ (wp_Mo_truth (fun r447 u448 => (wl_La_law_23 L xs n258 (v259 + 5) u445.1 x261 u445.2.1 u445.2.2.1 u445.2.2.2.1 u445.2.2.2.2.1 u445.2.2.2.2.2.1 u445.2.2.2.2.2.2.1 x268 u445.2.2.2.2.2.2.2.1 u445.2.2.2.2.2.2.2.2.1 u445.2.2.2.2.2.2.2.2.2.1 x272 x273 x274 x275 x276 x277 x278 x279 u445.2.2.2.2.2.2.2.2.2.2 x281 x282 x283 u448.1 u448.2.1 u448.2.2.1 x287 u448.2.2.2.1 u448.2.2.2.2.1 u448.2.2.2.2.2.1 x291 x292 x293 x294 x295 x296 x297 x298 x299 x300 x301 x302 u448.2.2.2.2.2.2 x304 x305 (kc9 + 10) (ks9 + 60))) (x284, x285, x286, x288, x289, x290, x303) (xs (v259 + 1).toNatClampNeg) ))) (x260, x262, x263, x264, x265, x266, x267, x269, x270, x271, x280) (xs (v259 + 1).toNatClampNeg) ))) ∧ (¬ kk308 = 13 → (((kk308 = 14 → (wp_Sc_base (fun r450 u451 => (wp_Mo_base (fun r452 u453 => (wl_La_law_23 L xs n258 (v259 + 5) u451 x261 x262 x263 x264 x265 x266 x267 x268 x269 x270 x271 x272 x273 x274 x275 x276 x277 x278 x279 x280 x281 x282 x283 u453 x285 x286 x287 x288 x289 x290 x291 x292 x293 x294 x295 x296 x297 x298 x299 x300 x301 x302 x303 x304 x305 (kc9 + 10) (ks9 + 60))) x284 )) x260 )) ∧ (¬ kk308 = 14 → (((kk308 = 15 → (vp_in (v259 + 1) L ∧ (wp_Sc_state (fun r456 u457 => (vp_in (v259 + 1) L ∧ (wp_Mo_state (fun r459 u460 => (wl_La_law_23 L xs n258 (v259 + 5) u457.1 x261 x262 x263 x264 x265 u457.2.1 u457.2.2 x268 x269 x270 x271 x272 x273 x274 x275 x276 x277 x278 x279 x280 x281 x282 x283 u460.1 x285 x286 x287 x288 u460.2 x290 x291 x292 x293 x294 x295 x296 x297 x298 x299 x300 x301 x302 x303 x304 x305 (kc9 + 10) (ks9 + 60))) (x284, x289) (xs (v259 + 1).toNatClampNeg) ))) (x260, x266, x267) (xs (v259 + 1).toNatClampNeg) ))) ∧ (¬ kk308 = 15 → (((kk308 = 16 → (vp_in (v259 + 1) L ∧ (wp_Sc_assertion (fun r463 u464 => (vp_in (v259 + 1) L ∧ (wp_Mo_assertion (fun r466 u467 => (wl_La_law_23 L xs n258 (v259 + 5) u464.1 x261 x262 x263 x264 x265 x266 x267 x268 x269 x270 x271 x272 x273 x274 x275 x276 x277 x278 x279 u464.2.1 u464.2.2.1 u464.2.2.2.1 u464.2.2.2.2 u467.1 x285 x286 x287 x288 x289 x290 x291 x292 x293 x294 x295 x296 x297 x298 x299 x300 x301 u467.2 x303 x304 x305 (kc9 + 10) (ks9 + 60))) (x284, x302) (xs (v259 + 1).toNatClampNeg) ))) (x260, x280, x281, x282, x283) (xs (v259 + 1).toNatClampNeg) ))) ∧ (¬ kk308 = 16 → (((kk308 = 17 → (vp_in (v259 + 1) L ∧ (vp_in (v259 + 2) L ∧ (wp_Sc_game (fun r471 u472 => (vp_in (v259 + 1) L ∧ (vp_in (v259 + 2) L ∧ (wp_Mo_game (fun r475 u476 => ((((lg_cmp r471 r475) = 0 → (wl_La_law_23 L xs n258 (v259 + 5) u472.1 x261 x262 x263 x264 x265 x266 x267 x268 x269 x270 x271 x272 x273 x274 x275 x276 x277 x278 x279 x280 u472.2.1 u472.2.2.1 u472.2.2.2 u476.1 x285 x286 x287 x288 x289 x290 x291 x292 x293 u476.2.1 u476.2.2.1 u476.2.2.2.1 u476.2.2.2.2.1 u476.2.2.2.2.2.1 u476.2.2.2.2.2.2.1 u476.2.2.2.2.2.2.2.1 u476.2.2.2.2.2.2.2.2.1 u476.2.2.2.2.2.2.2.2.2 x303 x304 x305 (kc9 + 10) (ks9 + 60))) ∧ (¬ (lg_cmp r471 r475) = 0 → (True))))) (x284, x294, x295, x296, x297, x298, x299, x300, x301, x302) (xs (v259 + 1).toNatClampNeg) (xs (v259 + 2).toNatClampNeg) )))) (x260, x281, x282, x283) (xs (v259 + 1).toNatClampNeg) (xs (v259 + 2).toNatClampNeg) )))) ∧ (¬ kk308 = 17 → (True))))))))))))))))))))))))))))))))))))))))))))))))))))))))))))))))))
def wp_La_law (L : Nat) (xs : Nat → Int32) : Prop := wp_Sc_init (fun u2 => (wp_Mo_init (fun u45 => (∃ n258 : Nat, wl_La_law_23 L xs n258 0 u2.1 u2.2.1 u2.2.2.1 u2.2.2.2.1 u2.2.2.2.2.1 u2.2.2.2.2.2.1 u2.2.2.2.2.2.2.1 u2.2.2.2.2.2.2.2.1 u2.2.2.2.2.2.2.2.2.1 u2.2.2.2.2.2.2.2.2.2.1 u2.2.2.2.2.2.2.2.2.2.2.1 u2.2.2.2.2.2.2.2.2.2.2.2.1 u2.2.2.2.2.2.2.2.2.2.2.2.2.1 u2.2.2.2.2.2.2.2.2.2.2.2.2.2.1 u2.2.2.2.2.2.2.2.2.2.2.2.2.2.2.1 u2.2.2.2.2.2.2.2.2.2.2.2.2.2.2.2.1 u2.2.2.2.2.2.2.2.2.2.2.2.2.2.2.2.2.1 u2.2.2.2.2.2.2.2.2.2.2.2.2.2.2.2.2.2.1 u2.2.2.2.2.2.2.2.2.2.2.2.2.2.2.2.2.2.2.1 u2.2.2.2.2.2.2.2.2.2.2.2.2.2.2.2.2.2.2.2.2.1 u2.2.2.2.2.2.2.2.2.2.2.2.2.2.2.2.2.2.2.2.2.2.1 u2.2.2.2.2.2.2.2.2.2.2.2.2.2.2.2.2.2.2.2.2.2.2.1 u2.2.2.2.2.2.2.2.2.2.2.2.2.2.2.2.2.2.2.2.2.2.2.2.1 u2.2.2.2.2.2.2.2.2.2.2.2.2.2.2.2.2.2.2.2.2.2.2.2.2 u45.1 u45.2.1 u45.2.2.1 u45.2.2.2.1 u45.2.2.2.2.1 u45.2.2.2.2.2.1 u45.2.2.2.2.2.2.1 u45.2.2.2.2.2.2.2.1 u45.2.2.2.2.2.2.2.2.1 u45.2.2.2.2.2.2.2.2.2.1 u45.2.2.2.2.2.2.2.2.2.2.1 u45.2.2.2.2.2.2.2.2.2.2.2.1 u45.2.2.2.2.2.2.2.2.2.2.2.2.1 u45.2.2.2.2.2.2.2.2.2.2.2.2.2.1 u45.2.2.2.2.2.2.2.2.2.2.2.2.2.2.1 u45.2.2.2.2.2.2.2.2.2.2.2.2.2.2.2.1 u45.2.2.2.2.2.2.2.2.2.2.2.2.2.2.2.2.1 u45.2.2.2.2.2.2.2.2.2.2.2.2.2.2.2.2.2.1 u45.2.2.2.2.2.2.2.2.2.2.2.2.2.2.2.2.2.2.1 u45.2.2.2.2.2.2.2.2.2.2.2.2.2.2.2.2.2.2.2.1 u45.2.2.2.2.2.2.2.2.2.2.2.2.2.2.2.2.2.2.2.2 (fun _ => 0) 49 641)) )) 
