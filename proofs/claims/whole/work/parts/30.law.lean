theorem wt_0 : Cond.initialized "StepCourtLaw" ∈ wz := wz_c tq_0_in 0 rfl rfl
theorem wt_19 : Cond.classLink "StepCourtLaw" 8 "StepCourt" ∈ wz := wz_c tq_0_in 19 rfl rfl
theorem wt_20 : Cond.instantiable "StepCourt" 13 ∈ wz := wz_c tq_0_in 20 rfl rfl
theorem wt_21 : Cond.methodLink "StepCourtLaw" 47 ⟨"StepCourt", "<init>", "()V"⟩ ∈ wz := wz_c tq_0_in 21 rfl rfl
theorem wt_22 : Cond.instanceMethod ⟨"StepCourt", "<init>", "()V"⟩ ∈ wz := wz_c tq_0_in 22 rfl rfl
theorem wt_23 : Cond.code ⟨"StepCourt", "<init>", "()V"⟩ prog_1_method_1_code 2 none ∈ wz := wz_c tq_0_in 23 rfl rfl
theorem wt_294 : Cond.methodLink "StepCourtLaw" 51 ⟨"StepCourt", "code", "(III)Z"⟩ ∈ wz := wz_c tq_12_in 6 rfl rfl
theorem wt_295 : Cond.instanceMethod ⟨"StepCourt", "code", "(III)Z"⟩ ∈ wz := wz_c tq_12_in 7 rfl rfl
theorem wt_296 : Cond.selects "StepCourt" ⟨"StepCourt", "code", "(III)Z"⟩ ⟨"StepCourt", "code", "(III)Z"⟩ ∈ wz := wz_c tq_12_in 8 rfl rfl
theorem wt_297 : Cond.code ⟨"StepCourt", "code", "(III)Z"⟩ prog_1_method_2_code 4 (some .boolean) ∈ wz := wz_c tq_12_in 9 rfl rfl
theorem wt_298 : Cond.methodLink "StepCourtLaw" 90 ⟨"StepCourt", "block", "()I"⟩ ∈ wz := wz_c tq_12_in 10 rfl rfl
theorem wt_299 : Cond.instanceMethod ⟨"StepCourt", "block", "()I"⟩ ∈ wz := wz_c tq_12_in 11 rfl rfl
theorem wt_300 : Cond.selects "StepCourt" ⟨"StepCourt", "block", "()I"⟩ ⟨"StepCourt", "block", "()I"⟩ ∈ wz := wz_c tq_12_in 12 rfl rfl
theorem wt_301 : Cond.code ⟨"StepCourt", "block", "()I"⟩ prog_1_method_10_code 1 (some .int) ∈ wz := wz_c tq_12_in 13 rfl rfl
theorem wt_374 : Cond.methodLink "StepCourtLaw" 97 ⟨"StepCourt", "balance", "(I)I"⟩ ∈ wz := wz_c tq_15_in 14 rfl rfl
theorem wt_375 : Cond.instanceMethod ⟨"StepCourt", "balance", "(I)I"⟩ ∈ wz := wz_c tq_15_in 15 rfl rfl
theorem wt_376 : Cond.selects "StepCourt" ⟨"StepCourt", "balance", "(I)I"⟩ ⟨"StepCourt", "balance", "(I)I"⟩ ∈ wz := wz_c tq_15_in 16 rfl rfl
theorem wt_377 : Cond.code ⟨"StepCourt", "balance", "(I)I"⟩ prog_1_method_12_code 2 (some .int) ∈ wz := wz_c tq_15_in 17 rfl rfl
theorem wt_378 : Cond.methodLink "StepCourtLaw" 101 ⟨"StepCourt", "pot", "()I"⟩ ∈ wz := wz_c tq_15_in 18 rfl rfl
theorem wt_379 : Cond.instanceMethod ⟨"StepCourt", "pot", "()I"⟩ ∈ wz := wz_c tq_15_in 19 rfl rfl
theorem wt_380 : Cond.selects "StepCourt" ⟨"StepCourt", "pot", "()I"⟩ ⟨"StepCourt", "pot", "()I"⟩ ∈ wz := wz_c tq_15_in 20 rfl rfl
theorem wt_381 : Cond.code ⟨"StepCourt", "pot", "()I"⟩ prog_1_method_13_code 1 (some .int) ∈ wz := wz_c tq_15_in 21 rfl rfl
theorem wt_382 : Cond.methodLink "StepCourtLaw" 105 ⟨"StepCourt", "word", "(I)I"⟩ ∈ wz := wz_c tq_15_in 22 rfl rfl
theorem wt_383 : Cond.instanceMethod ⟨"StepCourt", "word", "(I)I"⟩ ∈ wz := wz_c tq_15_in 23 rfl rfl
theorem wt_384 : Cond.selects "StepCourt" ⟨"StepCourt", "word", "(I)I"⟩ ⟨"StepCourt", "word", "(I)I"⟩ ∈ wz := wz_c tq_16_in 0 rfl rfl
theorem wt_385 : Cond.code ⟨"StepCourt", "word", "(I)I"⟩ prog_1_method_14_code 2 (some .int) ∈ wz := wz_c tq_16_in 1 rfl rfl
theorem wt_387 : Cond.methodLink "StepCourtLaw" 109 ⟨"StepCourt", "truth", "(I)J"⟩ ∈ wz := wz_c tq_16_in 3 rfl rfl
theorem wt_388 : Cond.instanceMethod ⟨"StepCourt", "truth", "(I)J"⟩ ∈ wz := wz_c tq_16_in 4 rfl rfl
theorem wt_389 : Cond.selects "StepCourt" ⟨"StepCourt", "truth", "(I)J"⟩ ⟨"StepCourt", "truth", "(I)J"⟩ ∈ wz := wz_c tq_16_in 5 rfl rfl
theorem wt_390 : Cond.code ⟨"StepCourt", "truth", "(I)J"⟩ prog_1_method_15_code 2 (some .long) ∈ wz := wz_c tq_16_in 6 rfl rfl
theorem wt_406 : Cond.methodLink "StepCourtLaw" 114 ⟨"StepCourt", "base", "()J"⟩ ∈ wz := wz_c tq_16_in 22 rfl rfl
theorem wt_407 : Cond.instanceMethod ⟨"StepCourt", "base", "()J"⟩ ∈ wz := wz_c tq_16_in 23 rfl rfl
theorem wt_408 : Cond.selects "StepCourt" ⟨"StepCourt", "base", "()J"⟩ ⟨"StepCourt", "base", "()J"⟩ ∈ wz := wz_c tq_17_in 0 rfl rfl
theorem wt_409 : Cond.code ⟨"StepCourt", "base", "()J"⟩ prog_1_method_16_code 1 (some .long) ∈ wz := wz_c tq_17_in 1 rfl rfl
theorem wt_410 : Cond.methodLink "StepCourtLaw" 119 ⟨"StepCourt", "state", "(I)J"⟩ ∈ wz := wz_c tq_17_in 2 rfl rfl
theorem wt_411 : Cond.instanceMethod ⟨"StepCourt", "state", "(I)J"⟩ ∈ wz := wz_c tq_17_in 3 rfl rfl
theorem wt_412 : Cond.selects "StepCourt" ⟨"StepCourt", "state", "(I)J"⟩ ⟨"StepCourt", "state", "(I)J"⟩ ∈ wz := wz_c tq_17_in 4 rfl rfl
theorem wt_413 : Cond.code ⟨"StepCourt", "state", "(I)J"⟩ prog_1_method_17_code 2 (some .long) ∈ wz := wz_c tq_17_in 5 rfl rfl
theorem wt_420 : Cond.methodLink "StepCourtLaw" 123 ⟨"StepCourt", "assertion", "(I)J"⟩ ∈ wz := wz_c tq_17_in 12 rfl rfl
theorem wt_421 : Cond.instanceMethod ⟨"StepCourt", "assertion", "(I)J"⟩ ∈ wz := wz_c tq_17_in 13 rfl rfl
theorem wt_422 : Cond.selects "StepCourt" ⟨"StepCourt", "assertion", "(I)J"⟩ ⟨"StepCourt", "assertion", "(I)J"⟩ ∈ wz := wz_c tq_17_in 14 rfl rfl
theorem wt_423 : Cond.code ⟨"StepCourt", "assertion", "(I)J"⟩ prog_1_method_18_code 2 (some .long) ∈ wz := wz_c tq_17_in 15 rfl rfl
theorem wt_425 : Cond.methodLink "StepCourtLaw" 127 ⟨"StepCourt", "game", "(II)J"⟩ ∈ wz := wz_c tq_17_in 17 rfl rfl
theorem wt_426 : Cond.instanceMethod ⟨"StepCourt", "game", "(II)J"⟩ ∈ wz := wz_c tq_17_in 18 rfl rfl
theorem wt_427 : Cond.selects "StepCourt" ⟨"StepCourt", "game", "(II)J"⟩ ⟨"StepCourt", "game", "(II)J"⟩ ∈ wz := wz_c tq_17_in 19 rfl rfl
theorem wt_428 : Cond.code ⟨"StepCourt", "game", "(II)J"⟩ prog_1_method_19_code 4 (some .long) ∈ wz := wz_c tq_17_in 20 rfl rfl
theorem wt_433 : Cond.methodLink "StepCourtLaw" 55 ⟨"StepCourtLaw", "deposit", "(LStepCourt;II[J)I"⟩ ∈ wz := wz_c tq_18_in 1 rfl rfl
theorem wt_434 : Cond.static ⟨"StepCourtLaw", "deposit", "(LStepCourt;II[J)I"⟩ ∈ wz := wz_c tq_18_in 2 rfl rfl
theorem wt_435 : Cond.codeWith ⟨"StepCourtLaw", "deposit", "(LStepCourt;II[J)I"⟩ method_3_code 5 (some .int) [(0, 10, 13, 13), (0, 10, 17, 15), (0, 10, 21, 17)] ∈ wz := wz_c tq_18_in 3 rfl rfl
theorem wt_555 : Cond.methodLink "StepCourtLaw" 65 ⟨"StepCourtLaw", "send", "(LStepCourt;I[J)I"⟩ ∈ wz := wz_c tq_23_in 3 rfl rfl
theorem wt_556 : Cond.static ⟨"StepCourtLaw", "send", "(LStepCourt;I[J)I"⟩ ∈ wz := wz_c tq_23_in 4 rfl rfl
theorem wt_557 : Cond.codeWith ⟨"StepCourtLaw", "send", "(LStepCourt;I[J)I"⟩ method_4_code 4 (some .int) [(0, 9, 12, 17)] ∈ wz := wz_c tq_23_in 5 rfl rfl
theorem wt_563 : Cond.methodLink "StepCourtLaw" 71 ⟨"StepCourtLaw", "claim", "(LStepCourt;IIJ[J)I"⟩ ∈ wz := wz_c tq_23_in 11 rfl rfl
theorem wt_564 : Cond.static ⟨"StepCourtLaw", "claim", "(LStepCourt;IIJ[J)I"⟩ ∈ wz := wz_c tq_23_in 12 rfl rfl
theorem wt_565 : Cond.codeWith ⟨"StepCourtLaw", "claim", "(LStepCourt;IIJ[J)I"⟩ method_5_code 7 (some .int) [(0, 11, 14, 13), (0, 11, 18, 27), (0, 11, 22, 15), (0, 11, 26, 17)] ∈ wz := wz_c tq_23_in 13 rfl rfl
theorem wt_597 : Cond.methodLink "StepCourtLaw" 75 ⟨"StepCourtLaw", "challenge", "(LStepCourt;I[J)I"⟩ ∈ wz := wz_c tq_24_in 21 rfl rfl
theorem wt_598 : Cond.static ⟨"StepCourtLaw", "challenge", "(LStepCourt;I[J)I"⟩ ∈ wz := wz_c tq_24_in 22 rfl rfl
theorem wt_599 : Cond.codeWith ⟨"StepCourtLaw", "challenge", "(LStepCourt;I[J)I"⟩ method_6_code 4 (some .int) [(0, 9, 12, 13), (0, 9, 15, 27), (0, 9, 18, 17)] ∈ wz := wz_c tq_24_in 23 rfl rfl
theorem wt_621 : Cond.methodLink "StepCourtLaw" 78 ⟨"StepCourtLaw", "post", "(LStepCourt;IJ[J)I"⟩ ∈ wz := wz_c tq_25_in 21 rfl rfl
theorem wt_622 : Cond.static ⟨"StepCourtLaw", "post", "(LStepCourt;IJ[J)I"⟩ ∈ wz := wz_c tq_25_in 22 rfl rfl
theorem wt_623 : Cond.codeWith ⟨"StepCourtLaw", "post", "(LStepCourt;IJ[J)I"⟩ method_7_code 6 (some .int) [(0, 10, 13, 13), (0, 10, 17, 27)] ∈ wz := wz_c tq_25_in 23 rfl rfl
theorem wt_642 : Cond.methodLink "StepCourtLaw" 82 ⟨"StepCourtLaw", "pick", "(LStepCourt;IZ[J)I"⟩ ∈ wz := wz_c tq_26_in 18 rfl rfl
theorem wt_643 : Cond.static ⟨"StepCourtLaw", "pick", "(LStepCourt;IZ[J)I"⟩ ∈ wz := wz_c tq_26_in 19 rfl rfl
theorem wt_644 : Cond.codeWith ⟨"StepCourtLaw", "pick", "(LStepCourt;IZ[J)I"⟩ method_8_code 5 (some .int) [(0, 10, 13, 13), (0, 10, 17, 27)] ∈ wz := wz_c tq_26_in 20 rfl rfl
theorem wt_654 : Cond.methodLink "StepCourtLaw" 86 ⟨"StepCourtLaw", "prove", "(LStepCourt;III[J)I"⟩ ∈ wz := wz_c tq_27_in 6 rfl rfl
theorem wt_655 : Cond.static ⟨"StepCourtLaw", "prove", "(LStepCourt;III[J)I"⟩ ∈ wz := wz_c tq_27_in 7 rfl rfl
theorem wt_656 : Cond.codeWith ⟨"StepCourtLaw", "prove", "(LStepCourt;III[J)I"⟩ method_9_code 6 (some .int) [(0, 19, 22, 13), (0, 19, 26, 27), (0, 19, 30, 15)] ∈ wz := wz_c tq_27_in 8 rfl rfl
theorem wt_692 : Cond.methodLink "StepCourtLaw" 94 ⟨"StepCourtLaw", "draw", "(LStepCourt;I[J)I"⟩ ∈ wz := wz_c tq_28_in 20 rfl rfl
theorem wt_693 : Cond.static ⟨"StepCourtLaw", "draw", "(LStepCourt;I[J)I"⟩ ∈ wz := wz_c tq_28_in 21 rfl rfl
theorem wt_694 : Cond.codeWith ⟨"StepCourtLaw", "draw", "(LStepCourt;I[J)I"⟩ method_10_code 4 (some .int) [(0, 9, 12, 13), (0, 9, 15, 27), (0, 9, 18, 15), (0, 9, 21, 17)] ∈ wz := wz_c tq_28_in 22 rfl rfl
theorem wt_703 : Cond.classLink "StepCourtLaw" 48 "StepCourtModel" ∈ wz := wz_c tq_29_in 7 rfl rfl
theorem wt_704 : Cond.instantiable "StepCourtModel" 35 ∈ wz := wz_c tq_29_in 8 rfl rfl
theorem wt_705 : Cond.methodLink "StepCourtLaw" 50 ⟨"StepCourtModel", "<init>", "()V"⟩ ∈ wz := wz_c tq_29_in 9 rfl rfl
theorem wt_706 : Cond.instanceMethod ⟨"StepCourtModel", "<init>", "()V"⟩ ∈ wz := wz_c tq_29_in 10 rfl rfl
theorem wt_707 : Cond.code ⟨"StepCourtModel", "<init>", "()V"⟩ prog_11_method_1_code 1 none ∈ wz := wz_c tq_29_in 11 rfl rfl
theorem wt_840 : Cond.methodLink "StepCourtLaw" 61 ⟨"StepCourtModel", "thrown", "()I"⟩ ∈ wz := wz_c tq_35_in 0 rfl rfl
theorem wt_841 : Cond.instanceMethod ⟨"StepCourtModel", "thrown", "()I"⟩ ∈ wz := wz_c tq_35_in 1 rfl rfl
theorem wt_842 : Cond.selects "StepCourtModel" ⟨"StepCourtModel", "thrown", "()I"⟩ ⟨"StepCourtModel", "thrown", "()I"⟩ ∈ wz := wz_c tq_35_in 2 rfl rfl
theorem wt_843 : Cond.code ⟨"StepCourtModel", "thrown", "()I"⟩ prog_11_method_2_code 1 (some .int) ∈ wz := wz_c tq_35_in 3 rfl rfl
theorem wt_844 : Cond.methodLink "StepCourtLaw" 54 ⟨"StepCourtModel", "code", "(III)Z"⟩ ∈ wz := wz_c tq_35_in 4 rfl rfl
theorem wt_845 : Cond.instanceMethod ⟨"StepCourtModel", "code", "(III)Z"⟩ ∈ wz := wz_c tq_35_in 5 rfl rfl
theorem wt_846 : Cond.selects "StepCourtModel" ⟨"StepCourtModel", "code", "(III)Z"⟩ ⟨"StepCourtModel", "code", "(III)Z"⟩ ∈ wz := wz_c tq_35_in 6 rfl rfl
theorem wt_847 : Cond.code ⟨"StepCourtModel", "code", "(III)Z"⟩ prog_11_method_15_code 4 (some .boolean) ∈ wz := wz_c tq_35_in 7 rfl rfl
theorem wt_848 : Cond.methodLink "StepCourtLaw" 60 ⟨"StepCourtModel", "deposit", "(II)I"⟩ ∈ wz := wz_c tq_35_in 8 rfl rfl
theorem wt_849 : Cond.instanceMethod ⟨"StepCourtModel", "deposit", "(II)I"⟩ ∈ wz := wz_c tq_35_in 9 rfl rfl
theorem wt_850 : Cond.selects "StepCourtModel" ⟨"StepCourtModel", "deposit", "(II)I"⟩ ⟨"StepCourtModel", "deposit", "(II)I"⟩ ∈ wz := wz_c tq_35_in 10 rfl rfl
theorem wt_851 : Cond.code ⟨"StepCourtModel", "deposit", "(II)I"⟩ prog_11_method_17_code 3 (some .int) ∈ wz := wz_c tq_35_in 11 rfl rfl
theorem wt_863 : Cond.methodLink "StepCourtLaw" 68 ⟨"StepCourtModel", "send", "(I)I"⟩ ∈ wz := wz_c tq_35_in 23 rfl rfl
theorem wt_864 : Cond.instanceMethod ⟨"StepCourtModel", "send", "(I)I"⟩ ∈ wz := wz_c tq_36_in 0 rfl rfl
theorem wt_865 : Cond.selects "StepCourtModel" ⟨"StepCourtModel", "send", "(I)I"⟩ ⟨"StepCourtModel", "send", "(I)I"⟩ ∈ wz := wz_c tq_36_in 1 rfl rfl
theorem wt_866 : Cond.code ⟨"StepCourtModel", "send", "(I)I"⟩ prog_11_method_18_code 2 (some .int) ∈ wz := wz_c tq_36_in 2 rfl rfl
theorem wt_867 : Cond.methodLink "StepCourtLaw" 74 ⟨"StepCourtModel", "claim", "(IIJ)J"⟩ ∈ wz := wz_c tq_36_in 3 rfl rfl
theorem wt_868 : Cond.instanceMethod ⟨"StepCourtModel", "claim", "(IIJ)J"⟩ ∈ wz := wz_c tq_36_in 4 rfl rfl
theorem wt_869 : Cond.selects "StepCourtModel" ⟨"StepCourtModel", "claim", "(IIJ)J"⟩ ⟨"StepCourtModel", "claim", "(IIJ)J"⟩ ∈ wz := wz_c tq_36_in 5 rfl rfl
theorem wt_870 : Cond.code ⟨"StepCourtModel", "claim", "(IIJ)J"⟩ prog_11_method_19_code 5 (some .long) ∈ wz := wz_c tq_36_in 6 rfl rfl
theorem wt_887 : Cond.methodLink "StepCourtLaw" 77 ⟨"StepCourtModel", "challenge", "(I)I"⟩ ∈ wz := wz_c tq_36_in 23 rfl rfl
theorem wt_888 : Cond.instanceMethod ⟨"StepCourtModel", "challenge", "(I)I"⟩ ∈ wz := wz_c tq_37_in 0 rfl rfl
theorem wt_889 : Cond.selects "StepCourtModel" ⟨"StepCourtModel", "challenge", "(I)I"⟩ ⟨"StepCourtModel", "challenge", "(I)I"⟩ ∈ wz := wz_c tq_37_in 1 rfl rfl
theorem wt_890 : Cond.code ⟨"StepCourtModel", "challenge", "(I)I"⟩ prog_11_method_20_code 4 (some .int) ∈ wz := wz_c tq_37_in 2 rfl rfl
theorem wt_891 : Cond.methodLink "StepCourtLaw" 81 ⟨"StepCourtModel", "post", "(IJ)J"⟩ ∈ wz := wz_c tq_37_in 3 rfl rfl
theorem wt_892 : Cond.instanceMethod ⟨"StepCourtModel", "post", "(IJ)J"⟩ ∈ wz := wz_c tq_37_in 4 rfl rfl
theorem wt_893 : Cond.selects "StepCourtModel" ⟨"StepCourtModel", "post", "(IJ)J"⟩ ⟨"StepCourtModel", "post", "(IJ)J"⟩ ∈ wz := wz_c tq_37_in 5 rfl rfl
theorem wt_894 : Cond.code ⟨"StepCourtModel", "post", "(IJ)J"⟩ prog_11_method_28_code 4 (some .long) ∈ wz := wz_c tq_37_in 6 rfl rfl
theorem wt_903 : Cond.methodLink "StepCourtLaw" 85 ⟨"StepCourtModel", "pick", "(IZ)I"⟩ ∈ wz := wz_c tq_37_in 15 rfl rfl
theorem wt_904 : Cond.instanceMethod ⟨"StepCourtModel", "pick", "(IZ)I"⟩ ∈ wz := wz_c tq_37_in 16 rfl rfl
theorem wt_905 : Cond.selects "StepCourtModel" ⟨"StepCourtModel", "pick", "(IZ)I"⟩ ⟨"StepCourtModel", "pick", "(IZ)I"⟩ ∈ wz := wz_c tq_37_in 17 rfl rfl
theorem wt_906 : Cond.code ⟨"StepCourtModel", "pick", "(IZ)I"⟩ prog_11_method_29_code 4 (some .int) ∈ wz := wz_c tq_37_in 18 rfl rfl
theorem wt_907 : Cond.methodLink "StepCourtLaw" 89 ⟨"StepCourtModel", "prove", "(III)Z"⟩ ∈ wz := wz_c tq_37_in 19 rfl rfl
theorem wt_908 : Cond.instanceMethod ⟨"StepCourtModel", "prove", "(III)Z"⟩ ∈ wz := wz_c tq_37_in 20 rfl rfl
theorem wt_909 : Cond.selects "StepCourtModel" ⟨"StepCourtModel", "prove", "(III)Z"⟩ ⟨"StepCourtModel", "prove", "(III)Z"⟩ ∈ wz := wz_c tq_37_in 21 rfl rfl
theorem wt_910 : Cond.code ⟨"StepCourtModel", "prove", "(III)Z"⟩ prog_11_method_32_code 4 (some .boolean) ∈ wz := wz_c tq_37_in 22 rfl rfl
theorem wt_935 : Cond.methodLink "StepCourtLaw" 93 ⟨"StepCourtModel", "block", "()I"⟩ ∈ wz := wz_c tq_38_in 23 rfl rfl
theorem wt_936 : Cond.instanceMethod ⟨"StepCourtModel", "block", "()I"⟩ ∈ wz := wz_c tq_39_in 0 rfl rfl
theorem wt_937 : Cond.selects "StepCourtModel" ⟨"StepCourtModel", "block", "()I"⟩ ⟨"StepCourtModel", "block", "()I"⟩ ∈ wz := wz_c tq_39_in 1 rfl rfl
theorem wt_938 : Cond.code ⟨"StepCourtModel", "block", "()I"⟩ prog_11_method_33_code 2 (some .int) ∈ wz := wz_c tq_39_in 2 rfl rfl
theorem wt_943 : Cond.methodLink "StepCourtLaw" 96 ⟨"StepCourtModel", "draw", "(I)I"⟩ ∈ wz := wz_c tq_39_in 7 rfl rfl
theorem wt_944 : Cond.instanceMethod ⟨"StepCourtModel", "draw", "(I)I"⟩ ∈ wz := wz_c tq_39_in 8 rfl rfl
theorem wt_945 : Cond.selects "StepCourtModel" ⟨"StepCourtModel", "draw", "(I)I"⟩ ⟨"StepCourtModel", "draw", "(I)I"⟩ ∈ wz := wz_c tq_39_in 9 rfl rfl
theorem wt_946 : Cond.code ⟨"StepCourtModel", "draw", "(I)I"⟩ prog_11_method_35_code 2 (some .int) ∈ wz := wz_c tq_39_in 10 rfl rfl
theorem wt_951 : Cond.methodLink "StepCourtLaw" 100 ⟨"StepCourtModel", "balance", "(I)I"⟩ ∈ wz := wz_c tq_39_in 15 rfl rfl
theorem wt_952 : Cond.instanceMethod ⟨"StepCourtModel", "balance", "(I)I"⟩ ∈ wz := wz_c tq_39_in 16 rfl rfl
theorem wt_953 : Cond.selects "StepCourtModel" ⟨"StepCourtModel", "balance", "(I)I"⟩ ⟨"StepCourtModel", "balance", "(I)I"⟩ ∈ wz := wz_c tq_39_in 17 rfl rfl
theorem wt_954 : Cond.code ⟨"StepCourtModel", "balance", "(I)I"⟩ prog_11_method_36_code 2 (some .int) ∈ wz := wz_c tq_39_in 18 rfl rfl
theorem wt_955 : Cond.methodLink "StepCourtLaw" 104 ⟨"StepCourtModel", "pot", "()I"⟩ ∈ wz := wz_c tq_39_in 19 rfl rfl
theorem wt_956 : Cond.instanceMethod ⟨"StepCourtModel", "pot", "()I"⟩ ∈ wz := wz_c tq_39_in 20 rfl rfl
theorem wt_957 : Cond.selects "StepCourtModel" ⟨"StepCourtModel", "pot", "()I"⟩ ⟨"StepCourtModel", "pot", "()I"⟩ ∈ wz := wz_c tq_39_in 21 rfl rfl
theorem wt_958 : Cond.code ⟨"StepCourtModel", "pot", "()I"⟩ prog_11_method_37_code 1 (some .int) ∈ wz := wz_c tq_39_in 22 rfl rfl
theorem wt_959 : Cond.methodLink "StepCourtLaw" 108 ⟨"StepCourtModel", "word", "(I)I"⟩ ∈ wz := wz_c tq_39_in 23 rfl rfl
theorem wt_960 : Cond.instanceMethod ⟨"StepCourtModel", "word", "(I)I"⟩ ∈ wz := wz_c tq_40_in 0 rfl rfl
theorem wt_961 : Cond.selects "StepCourtModel" ⟨"StepCourtModel", "word", "(I)I"⟩ ⟨"StepCourtModel", "word", "(I)I"⟩ ∈ wz := wz_c tq_40_in 1 rfl rfl
theorem wt_962 : Cond.code ⟨"StepCourtModel", "word", "(I)I"⟩ prog_11_method_38_code 2 (some .int) ∈ wz := wz_c tq_40_in 2 rfl rfl
theorem wt_963 : Cond.methodLink "StepCourtLaw" 113 ⟨"StepCourtModel", "truth", "(I)J"⟩ ∈ wz := wz_c tq_40_in 3 rfl rfl
theorem wt_964 : Cond.instanceMethod ⟨"StepCourtModel", "truth", "(I)J"⟩ ∈ wz := wz_c tq_40_in 4 rfl rfl
theorem wt_965 : Cond.selects "StepCourtModel" ⟨"StepCourtModel", "truth", "(I)J"⟩ ⟨"StepCourtModel", "truth", "(I)J"⟩ ∈ wz := wz_c tq_40_in 5 rfl rfl
theorem wt_966 : Cond.code ⟨"StepCourtModel", "truth", "(I)J"⟩ prog_11_method_39_code 2 (some .long) ∈ wz := wz_c tq_40_in 6 rfl rfl
theorem wt_967 : Cond.methodLink "StepCourtLaw" 118 ⟨"StepCourtModel", "base", "()J"⟩ ∈ wz := wz_c tq_40_in 7 rfl rfl
theorem wt_968 : Cond.instanceMethod ⟨"StepCourtModel", "base", "()J"⟩ ∈ wz := wz_c tq_40_in 8 rfl rfl
theorem wt_969 : Cond.selects "StepCourtModel" ⟨"StepCourtModel", "base", "()J"⟩ ⟨"StepCourtModel", "base", "()J"⟩ ∈ wz := wz_c tq_40_in 9 rfl rfl
theorem wt_970 : Cond.code ⟨"StepCourtModel", "base", "()J"⟩ prog_11_method_40_code 1 (some .long) ∈ wz := wz_c tq_40_in 10 rfl rfl
theorem wt_971 : Cond.methodLink "StepCourtLaw" 122 ⟨"StepCourtModel", "state", "(I)J"⟩ ∈ wz := wz_c tq_40_in 11 rfl rfl
theorem wt_972 : Cond.instanceMethod ⟨"StepCourtModel", "state", "(I)J"⟩ ∈ wz := wz_c tq_40_in 12 rfl rfl
theorem wt_973 : Cond.selects "StepCourtModel" ⟨"StepCourtModel", "state", "(I)J"⟩ ⟨"StepCourtModel", "state", "(I)J"⟩ ∈ wz := wz_c tq_40_in 13 rfl rfl
theorem wt_974 : Cond.code ⟨"StepCourtModel", "state", "(I)J"⟩ prog_11_method_41_code 2 (some .long) ∈ wz := wz_c tq_40_in 14 rfl rfl
theorem wt_975 : Cond.methodLink "StepCourtLaw" 126 ⟨"StepCourtModel", "assertion", "(I)J"⟩ ∈ wz := wz_c tq_40_in 15 rfl rfl
theorem wt_976 : Cond.instanceMethod ⟨"StepCourtModel", "assertion", "(I)J"⟩ ∈ wz := wz_c tq_40_in 16 rfl rfl
theorem wt_977 : Cond.selects "StepCourtModel" ⟨"StepCourtModel", "assertion", "(I)J"⟩ ⟨"StepCourtModel", "assertion", "(I)J"⟩ ∈ wz := wz_c tq_40_in 17 rfl rfl
theorem wt_978 : Cond.code ⟨"StepCourtModel", "assertion", "(I)J"⟩ prog_11_method_42_code 2 (some .long) ∈ wz := wz_c tq_40_in 18 rfl rfl
theorem wt_980 : Cond.methodLink "StepCourtLaw" 131 ⟨"StepCourtModel", "game", "(II)J"⟩ ∈ wz := wz_c tq_40_in 20 rfl rfl
theorem wt_981 : Cond.instanceMethod ⟨"StepCourtModel", "game", "(II)J"⟩ ∈ wz := wz_c tq_40_in 21 rfl rfl
theorem wt_982 : Cond.selects "StepCourtModel" ⟨"StepCourtModel", "game", "(II)J"⟩ ⟨"StepCourtModel", "game", "(II)J"⟩ ∈ wz := wz_c tq_40_in 22 rfl rfl
theorem wt_983 : Cond.code ⟨"StepCourtModel", "game", "(II)J"⟩ prog_11_method_43_code 3 (some .long) ∈ wz := wz_c tq_40_in 23 rfl rfl
theorem wt_984 : Cond.constantLong "StepCourtLaw" 69 (4294967295) ∈ wz := wz_c tq_41_in 0 rfl rfl
theorem dqLa_law_0 : decode cLa_law 0 = .ok (.new 8, 3) ∧ decode cLa_law 3 = .ok (.dup, 1) ∧ decode cLa_law 4 = .ok (.invokespecial 47, 3) ∧ decode cLa_law 7 = .ok (.astore_n 1, 1) ∧ decode cLa_law 8 = .ok (.new 48, 3) ∧ decode cLa_law 11 = .ok (.dup, 1) ∧ decode cLa_law 12 = .ok (.invokespecial 50, 3) ∧ decode cLa_law 15 = .ok (.astore_n 2, 1) ∧ decode cLa_law 16 = .ok (.iconst 1, 1) ∧ decode cLa_law 17 = .ok (.newarray .long, 2) ∧ decode cLa_law 19 = .ok (.astore_n 3, 1) ∧ decode cLa_law 20 = .ok (.iconst 0, 1) ∧ decode cLa_law 21 = .ok (.istore 4, 2) ∧ decode cLa_law 23 = .ok (.iload 4, 2) ∧ decode cLa_law 25 = .ok (.aload_n 0, 1) ∧ decode cLa_law 26 = .ok (.arraylength, 1) := by decide +kernel
theorem dLa_law_0 : decode cLa_law 0 = .ok (.new 8, 3) := dqLa_law_0.1
theorem dLa_law_3 : decode cLa_law 3 = .ok (.dup, 1) := dqLa_law_0.2.1
theorem dLa_law_4 : decode cLa_law 4 = .ok (.invokespecial 47, 3) := dqLa_law_0.2.2.1
theorem dLa_law_7 : decode cLa_law 7 = .ok (.astore_n 1, 1) := dqLa_law_0.2.2.2.1
theorem dLa_law_8 : decode cLa_law 8 = .ok (.new 48, 3) := dqLa_law_0.2.2.2.2.1
theorem dLa_law_11 : decode cLa_law 11 = .ok (.dup, 1) := dqLa_law_0.2.2.2.2.2.1
theorem dLa_law_12 : decode cLa_law 12 = .ok (.invokespecial 50, 3) := dqLa_law_0.2.2.2.2.2.2.1
theorem dLa_law_15 : decode cLa_law 15 = .ok (.astore_n 2, 1) := dqLa_law_0.2.2.2.2.2.2.2.1
theorem dLa_law_16 : decode cLa_law 16 = .ok (.iconst 1, 1) := dqLa_law_0.2.2.2.2.2.2.2.2.1
theorem dLa_law_17 : decode cLa_law 17 = .ok (.newarray .long, 2) := dqLa_law_0.2.2.2.2.2.2.2.2.2.1
theorem dLa_law_19 : decode cLa_law 19 = .ok (.astore_n 3, 1) := dqLa_law_0.2.2.2.2.2.2.2.2.2.2.1
theorem dLa_law_20 : decode cLa_law 20 = .ok (.iconst 0, 1) := dqLa_law_0.2.2.2.2.2.2.2.2.2.2.2.1
theorem dLa_law_21 : decode cLa_law 21 = .ok (.istore 4, 2) := dqLa_law_0.2.2.2.2.2.2.2.2.2.2.2.2.1
theorem dLa_law_23 : decode cLa_law 23 = .ok (.iload 4, 2) := dqLa_law_0.2.2.2.2.2.2.2.2.2.2.2.2.2.1
theorem dLa_law_25 : decode cLa_law 25 = .ok (.aload_n 0, 1) := dqLa_law_0.2.2.2.2.2.2.2.2.2.2.2.2.2.2.1
theorem dLa_law_26 : decode cLa_law 26 = .ok (.arraylength, 1) := dqLa_law_0.2.2.2.2.2.2.2.2.2.2.2.2.2.2.2
theorem dqLa_law_16 : decode cLa_law 27 = .ok (.iconst 5, 1) ∧ decode cLa_law 28 = .ok (.isub, 1) ∧ decode cLa_law 29 = .ok (.if_icmp .gt 973, 3) ∧ decode cLa_law 32 = .ok (.aload_n 0, 1) ∧ decode cLa_law 33 = .ok (.iload 4, 2) ∧ decode cLa_law 35 = .ok (.iaload, 1) ∧ decode cLa_law 36 = .ok (.bipush 31, 2) ∧ decode cLa_law 38 = .ok (.iand, 1) ∧ decode cLa_law 39 = .ok (.tableswitch 957 0 17 #[85, 134, 202, 258, 369, 425, 524, 608, 695, 708, 764, 789, 802, 827, 853, 867, 893, 919], 85) ∧ decode cLa_law 124 = .ok (.aload_n 1, 1) ∧ decode cLa_law 125 = .ok (.aload_n 0, 1) ∧ decode cLa_law 126 = .ok (.iload 4, 2) ∧ decode cLa_law 128 = .ok (.iconst 1, 1) ∧ decode cLa_law 129 = .ok (.iadd, 1) ∧ decode cLa_law 130 = .ok (.iaload, 1) ∧ decode cLa_law 131 = .ok (.aload_n 0, 1) := by decide +kernel
theorem dLa_law_27 : decode cLa_law 27 = .ok (.iconst 5, 1) := dqLa_law_16.1
theorem dLa_law_28 : decode cLa_law 28 = .ok (.isub, 1) := dqLa_law_16.2.1
theorem dLa_law_29 : decode cLa_law 29 = .ok (.if_icmp .gt 973, 3) := dqLa_law_16.2.2.1
theorem dLa_law_32 : decode cLa_law 32 = .ok (.aload_n 0, 1) := dqLa_law_16.2.2.2.1
theorem dLa_law_33 : decode cLa_law 33 = .ok (.iload 4, 2) := dqLa_law_16.2.2.2.2.1
theorem dLa_law_35 : decode cLa_law 35 = .ok (.iaload, 1) := dqLa_law_16.2.2.2.2.2.1
theorem dLa_law_36 : decode cLa_law 36 = .ok (.bipush 31, 2) := dqLa_law_16.2.2.2.2.2.2.1
theorem dLa_law_38 : decode cLa_law 38 = .ok (.iand, 1) := dqLa_law_16.2.2.2.2.2.2.2.1
theorem dLa_law_39 : decode cLa_law 39 = .ok (.tableswitch 957 0 17 #[85, 134, 202, 258, 369, 425, 524, 608, 695, 708, 764, 789, 802, 827, 853, 867, 893, 919], 85) := dqLa_law_16.2.2.2.2.2.2.2.2.1
theorem dLa_law_124 : decode cLa_law 124 = .ok (.aload_n 1, 1) := dqLa_law_16.2.2.2.2.2.2.2.2.2.1
theorem dLa_law_125 : decode cLa_law 125 = .ok (.aload_n 0, 1) := dqLa_law_16.2.2.2.2.2.2.2.2.2.2.1
theorem dLa_law_126 : decode cLa_law 126 = .ok (.iload 4, 2) := dqLa_law_16.2.2.2.2.2.2.2.2.2.2.2.1
theorem dLa_law_128 : decode cLa_law 128 = .ok (.iconst 1, 1) := dqLa_law_16.2.2.2.2.2.2.2.2.2.2.2.2.1
theorem dLa_law_129 : decode cLa_law 129 = .ok (.iadd, 1) := dqLa_law_16.2.2.2.2.2.2.2.2.2.2.2.2.2.1
theorem dLa_law_130 : decode cLa_law 130 = .ok (.iaload, 1) := dqLa_law_16.2.2.2.2.2.2.2.2.2.2.2.2.2.2.1
theorem dLa_law_131 : decode cLa_law 131 = .ok (.aload_n 0, 1) := dqLa_law_16.2.2.2.2.2.2.2.2.2.2.2.2.2.2.2
theorem dqLa_law_32 : decode cLa_law 132 = .ok (.iload 4, 2) ∧ decode cLa_law 134 = .ok (.iconst 2, 1) ∧ decode cLa_law 135 = .ok (.iadd, 1) ∧ decode cLa_law 136 = .ok (.iaload, 1) ∧ decode cLa_law 137 = .ok (.aload_n 0, 1) ∧ decode cLa_law 138 = .ok (.iload 4, 2) ∧ decode cLa_law 140 = .ok (.iconst 3, 1) ∧ decode cLa_law 141 = .ok (.iadd, 1) ∧ decode cLa_law 142 = .ok (.iaload, 1) ∧ decode cLa_law 143 = .ok (.invokevirtual 51, 3) ∧ decode cLa_law 146 = .ok (.aload_n 2, 1) ∧ decode cLa_law 147 = .ok (.aload_n 0, 1) ∧ decode cLa_law 148 = .ok (.iload 4, 2) ∧ decode cLa_law 150 = .ok (.iconst 1, 1) ∧ decode cLa_law 151 = .ok (.iadd, 1) ∧ decode cLa_law 152 = .ok (.iaload, 1) := by decide +kernel
theorem dLa_law_132 : decode cLa_law 132 = .ok (.iload 4, 2) := dqLa_law_32.1
theorem dLa_law_134 : decode cLa_law 134 = .ok (.iconst 2, 1) := dqLa_law_32.2.1
theorem dLa_law_135 : decode cLa_law 135 = .ok (.iadd, 1) := dqLa_law_32.2.2.1
theorem dLa_law_136 : decode cLa_law 136 = .ok (.iaload, 1) := dqLa_law_32.2.2.2.1
theorem dLa_law_137 : decode cLa_law 137 = .ok (.aload_n 0, 1) := dqLa_law_32.2.2.2.2.1
theorem dLa_law_138 : decode cLa_law 138 = .ok (.iload 4, 2) := dqLa_law_32.2.2.2.2.2.1
theorem dLa_law_140 : decode cLa_law 140 = .ok (.iconst 3, 1) := dqLa_law_32.2.2.2.2.2.2.1
theorem dLa_law_141 : decode cLa_law 141 = .ok (.iadd, 1) := dqLa_law_32.2.2.2.2.2.2.2.1
theorem dLa_law_142 : decode cLa_law 142 = .ok (.iaload, 1) := dqLa_law_32.2.2.2.2.2.2.2.2.1
theorem dLa_law_143 : decode cLa_law 143 = .ok (.invokevirtual 51, 3) := dqLa_law_32.2.2.2.2.2.2.2.2.2.1
theorem dLa_law_146 : decode cLa_law 146 = .ok (.aload_n 2, 1) := dqLa_law_32.2.2.2.2.2.2.2.2.2.2.1
theorem dLa_law_147 : decode cLa_law 147 = .ok (.aload_n 0, 1) := dqLa_law_32.2.2.2.2.2.2.2.2.2.2.2.1
theorem dLa_law_148 : decode cLa_law 148 = .ok (.iload 4, 2) := dqLa_law_32.2.2.2.2.2.2.2.2.2.2.2.2.1
theorem dLa_law_150 : decode cLa_law 150 = .ok (.iconst 1, 1) := dqLa_law_32.2.2.2.2.2.2.2.2.2.2.2.2.2.1
theorem dLa_law_151 : decode cLa_law 151 = .ok (.iadd, 1) := dqLa_law_32.2.2.2.2.2.2.2.2.2.2.2.2.2.2.1
theorem dLa_law_152 : decode cLa_law 152 = .ok (.iaload, 1) := dqLa_law_32.2.2.2.2.2.2.2.2.2.2.2.2.2.2.2
theorem dqLa_law_48 : decode cLa_law 153 = .ok (.aload_n 0, 1) ∧ decode cLa_law 154 = .ok (.iload 4, 2) ∧ decode cLa_law 156 = .ok (.iconst 2, 1) ∧ decode cLa_law 157 = .ok (.iadd, 1) ∧ decode cLa_law 158 = .ok (.iaload, 1) ∧ decode cLa_law 159 = .ok (.aload_n 0, 1) ∧ decode cLa_law 160 = .ok (.iload 4, 2) ∧ decode cLa_law 162 = .ok (.iconst 3, 1) ∧ decode cLa_law 163 = .ok (.iadd, 1) ∧ decode cLa_law 164 = .ok (.iaload, 1) ∧ decode cLa_law 165 = .ok (.invokevirtual 54, 3) ∧ decode cLa_law 168 = .ok (.if_icmp .eq 828, 3) ∧ decode cLa_law 171 = .ok (.iconst 0, 1) ∧ decode cLa_law 172 = .ok (.ireturn, 1) ∧ decode cLa_law 173 = .ok (.aload_n 1, 1) ∧ decode cLa_law 174 = .ok (.aload_n 0, 1) := by decide +kernel
theorem dLa_law_153 : decode cLa_law 153 = .ok (.aload_n 0, 1) := dqLa_law_48.1
theorem dLa_law_154 : decode cLa_law 154 = .ok (.iload 4, 2) := dqLa_law_48.2.1
theorem dLa_law_156 : decode cLa_law 156 = .ok (.iconst 2, 1) := dqLa_law_48.2.2.1
theorem dLa_law_157 : decode cLa_law 157 = .ok (.iadd, 1) := dqLa_law_48.2.2.2.1
theorem dLa_law_158 : decode cLa_law 158 = .ok (.iaload, 1) := dqLa_law_48.2.2.2.2.1
theorem dLa_law_159 : decode cLa_law 159 = .ok (.aload_n 0, 1) := dqLa_law_48.2.2.2.2.2.1
theorem dLa_law_160 : decode cLa_law 160 = .ok (.iload 4, 2) := dqLa_law_48.2.2.2.2.2.2.1
theorem dLa_law_162 : decode cLa_law 162 = .ok (.iconst 3, 1) := dqLa_law_48.2.2.2.2.2.2.2.1
theorem dLa_law_163 : decode cLa_law 163 = .ok (.iadd, 1) := dqLa_law_48.2.2.2.2.2.2.2.2.1
theorem dLa_law_164 : decode cLa_law 164 = .ok (.iaload, 1) := dqLa_law_48.2.2.2.2.2.2.2.2.2.1
theorem dLa_law_165 : decode cLa_law 165 = .ok (.invokevirtual 54, 3) := dqLa_law_48.2.2.2.2.2.2.2.2.2.2.1
theorem dLa_law_168 : decode cLa_law 168 = .ok (.if_icmp .eq 828, 3) := dqLa_law_48.2.2.2.2.2.2.2.2.2.2.2.1
theorem dLa_law_171 : decode cLa_law 171 = .ok (.iconst 0, 1) := dqLa_law_48.2.2.2.2.2.2.2.2.2.2.2.2.1
theorem dLa_law_172 : decode cLa_law 172 = .ok (.ireturn, 1) := dqLa_law_48.2.2.2.2.2.2.2.2.2.2.2.2.2.1
theorem dLa_law_173 : decode cLa_law 173 = .ok (.aload_n 1, 1) := dqLa_law_48.2.2.2.2.2.2.2.2.2.2.2.2.2.2.1
theorem dLa_law_174 : decode cLa_law 174 = .ok (.aload_n 0, 1) := dqLa_law_48.2.2.2.2.2.2.2.2.2.2.2.2.2.2.2
theorem dqLa_law_64 : decode cLa_law 175 = .ok (.iload 4, 2) ∧ decode cLa_law 177 = .ok (.iconst 1, 1) ∧ decode cLa_law 178 = .ok (.iadd, 1) ∧ decode cLa_law 179 = .ok (.iaload, 1) ∧ decode cLa_law 180 = .ok (.aload_n 0, 1) ∧ decode cLa_law 181 = .ok (.iload 4, 2) ∧ decode cLa_law 183 = .ok (.iconst 2, 1) ∧ decode cLa_law 184 = .ok (.iadd, 1) ∧ decode cLa_law 185 = .ok (.iaload, 1) ∧ decode cLa_law 186 = .ok (.aload_n 3, 1) ∧ decode cLa_law 187 = .ok (.invokestatic 55, 3) ∧ decode cLa_law 190 = .ok (.istore 5, 2) ∧ decode cLa_law 192 = .ok (.aload_n 2, 1) ∧ decode cLa_law 193 = .ok (.aload_n 0, 1) ∧ decode cLa_law 194 = .ok (.iload 4, 2) ∧ decode cLa_law 196 = .ok (.iconst 1, 1) := by decide +kernel
theorem dLa_law_175 : decode cLa_law 175 = .ok (.iload 4, 2) := dqLa_law_64.1
theorem dLa_law_177 : decode cLa_law 177 = .ok (.iconst 1, 1) := dqLa_law_64.2.1
theorem dLa_law_178 : decode cLa_law 178 = .ok (.iadd, 1) := dqLa_law_64.2.2.1
theorem dLa_law_179 : decode cLa_law 179 = .ok (.iaload, 1) := dqLa_law_64.2.2.2.1
theorem dLa_law_180 : decode cLa_law 180 = .ok (.aload_n 0, 1) := dqLa_law_64.2.2.2.2.1
theorem dLa_law_181 : decode cLa_law 181 = .ok (.iload 4, 2) := dqLa_law_64.2.2.2.2.2.1
theorem dLa_law_183 : decode cLa_law 183 = .ok (.iconst 2, 1) := dqLa_law_64.2.2.2.2.2.2.1
theorem dLa_law_184 : decode cLa_law 184 = .ok (.iadd, 1) := dqLa_law_64.2.2.2.2.2.2.2.1
theorem dLa_law_185 : decode cLa_law 185 = .ok (.iaload, 1) := dqLa_law_64.2.2.2.2.2.2.2.2.1
theorem dLa_law_186 : decode cLa_law 186 = .ok (.aload_n 3, 1) := dqLa_law_64.2.2.2.2.2.2.2.2.2.1
theorem dLa_law_187 : decode cLa_law 187 = .ok (.invokestatic 55, 3) := dqLa_law_64.2.2.2.2.2.2.2.2.2.2.1
theorem dLa_law_190 : decode cLa_law 190 = .ok (.istore 5, 2) := dqLa_law_64.2.2.2.2.2.2.2.2.2.2.2.1
theorem dLa_law_192 : decode cLa_law 192 = .ok (.aload_n 2, 1) := dqLa_law_64.2.2.2.2.2.2.2.2.2.2.2.2.1
theorem dLa_law_193 : decode cLa_law 193 = .ok (.aload_n 0, 1) := dqLa_law_64.2.2.2.2.2.2.2.2.2.2.2.2.2.1
theorem dLa_law_194 : decode cLa_law 194 = .ok (.iload 4, 2) := dqLa_law_64.2.2.2.2.2.2.2.2.2.2.2.2.2.2.1
theorem dLa_law_196 : decode cLa_law 196 = .ok (.iconst 1, 1) := dqLa_law_64.2.2.2.2.2.2.2.2.2.2.2.2.2.2.2
theorem dqLa_law_80 : decode cLa_law 197 = .ok (.iadd, 1) ∧ decode cLa_law 198 = .ok (.iaload, 1) ∧ decode cLa_law 199 = .ok (.aload_n 0, 1) ∧ decode cLa_law 200 = .ok (.iload 4, 2) ∧ decode cLa_law 202 = .ok (.iconst 2, 1) ∧ decode cLa_law 203 = .ok (.iadd, 1) ∧ decode cLa_law 204 = .ok (.iaload, 1) ∧ decode cLa_law 205 = .ok (.invokevirtual 60, 3) ∧ decode cLa_law 208 = .ok (.istore 6, 2) ∧ decode cLa_law 210 = .ok (.aload_n 2, 1) ∧ decode cLa_law 211 = .ok (.invokevirtual 61, 3) ∧ decode cLa_law 214 = .ok (.iload 5, 2) ∧ decode cLa_law 216 = .ok (.if_icmp .eq 5, 3) ∧ decode cLa_law 219 = .ok (.iconst 0, 1) ∧ decode cLa_law 220 = .ok (.ireturn, 1) ∧ decode cLa_law 221 = .ok (.iload 5, 2) := by decide +kernel
theorem dLa_law_197 : decode cLa_law 197 = .ok (.iadd, 1) := dqLa_law_80.1
theorem dLa_law_198 : decode cLa_law 198 = .ok (.iaload, 1) := dqLa_law_80.2.1
theorem dLa_law_199 : decode cLa_law 199 = .ok (.aload_n 0, 1) := dqLa_law_80.2.2.1
theorem dLa_law_200 : decode cLa_law 200 = .ok (.iload 4, 2) := dqLa_law_80.2.2.2.1
theorem dLa_law_202 : decode cLa_law 202 = .ok (.iconst 2, 1) := dqLa_law_80.2.2.2.2.1
theorem dLa_law_203 : decode cLa_law 203 = .ok (.iadd, 1) := dqLa_law_80.2.2.2.2.2.1
theorem dLa_law_204 : decode cLa_law 204 = .ok (.iaload, 1) := dqLa_law_80.2.2.2.2.2.2.1
theorem dLa_law_205 : decode cLa_law 205 = .ok (.invokevirtual 60, 3) := dqLa_law_80.2.2.2.2.2.2.2.1
theorem dLa_law_208 : decode cLa_law 208 = .ok (.istore 6, 2) := dqLa_law_80.2.2.2.2.2.2.2.2.1
theorem dLa_law_210 : decode cLa_law 210 = .ok (.aload_n 2, 1) := dqLa_law_80.2.2.2.2.2.2.2.2.2.1
theorem dLa_law_211 : decode cLa_law 211 = .ok (.invokevirtual 61, 3) := dqLa_law_80.2.2.2.2.2.2.2.2.2.2.1
theorem dLa_law_214 : decode cLa_law 214 = .ok (.iload 5, 2) := dqLa_law_80.2.2.2.2.2.2.2.2.2.2.2.1
theorem dLa_law_216 : decode cLa_law 216 = .ok (.if_icmp .eq 5, 3) := dqLa_law_80.2.2.2.2.2.2.2.2.2.2.2.2.1
theorem dLa_law_219 : decode cLa_law 219 = .ok (.iconst 0, 1) := dqLa_law_80.2.2.2.2.2.2.2.2.2.2.2.2.2.1
theorem dLa_law_220 : decode cLa_law 220 = .ok (.ireturn, 1) := dqLa_law_80.2.2.2.2.2.2.2.2.2.2.2.2.2.2.1
theorem dLa_law_221 : decode cLa_law 221 = .ok (.iload 5, 2) := dqLa_law_80.2.2.2.2.2.2.2.2.2.2.2.2.2.2.2
theorem dqLa_law_96 : decode cLa_law 223 = .ok (.ifCond .ne 15, 3) ∧ decode cLa_law 226 = .ok (.aload_n 3, 1) ∧ decode cLa_law 227 = .ok (.iconst 0, 1) ∧ decode cLa_law 228 = .ok (.laload, 1) ∧ decode cLa_law 229 = .ok (.iload 6, 2) ∧ decode cLa_law 231 = .ok (.i2l, 1) ∧ decode cLa_law 232 = .ok (.lcmp, 1) ∧ decode cLa_law 233 = .ok (.ifCond .eq 5, 3) ∧ decode cLa_law 236 = .ok (.iconst 0, 1) ∧ decode cLa_law 237 = .ok (.ireturn, 1) ∧ decode cLa_law 238 = .ok (.goto 758, 3) ∧ decode cLa_law 241 = .ok (.aload_n 1, 1) ∧ decode cLa_law 242 = .ok (.aload_n 0, 1) ∧ decode cLa_law 243 = .ok (.iload 4, 2) ∧ decode cLa_law 245 = .ok (.iconst 1, 1) ∧ decode cLa_law 246 = .ok (.iadd, 1) := by decide +kernel
theorem dLa_law_223 : decode cLa_law 223 = .ok (.ifCond .ne 15, 3) := dqLa_law_96.1
theorem dLa_law_226 : decode cLa_law 226 = .ok (.aload_n 3, 1) := dqLa_law_96.2.1
theorem dLa_law_227 : decode cLa_law 227 = .ok (.iconst 0, 1) := dqLa_law_96.2.2.1
theorem dLa_law_228 : decode cLa_law 228 = .ok (.laload, 1) := dqLa_law_96.2.2.2.1
theorem dLa_law_229 : decode cLa_law 229 = .ok (.iload 6, 2) := dqLa_law_96.2.2.2.2.1
theorem dLa_law_231 : decode cLa_law 231 = .ok (.i2l, 1) := dqLa_law_96.2.2.2.2.2.1
theorem dLa_law_232 : decode cLa_law 232 = .ok (.lcmp, 1) := dqLa_law_96.2.2.2.2.2.2.1
theorem dLa_law_233 : decode cLa_law 233 = .ok (.ifCond .eq 5, 3) := dqLa_law_96.2.2.2.2.2.2.2.1
theorem dLa_law_236 : decode cLa_law 236 = .ok (.iconst 0, 1) := dqLa_law_96.2.2.2.2.2.2.2.2.1
theorem dLa_law_237 : decode cLa_law 237 = .ok (.ireturn, 1) := dqLa_law_96.2.2.2.2.2.2.2.2.2.1
theorem dLa_law_238 : decode cLa_law 238 = .ok (.goto 758, 3) := dqLa_law_96.2.2.2.2.2.2.2.2.2.2.1
theorem dLa_law_241 : decode cLa_law 241 = .ok (.aload_n 1, 1) := dqLa_law_96.2.2.2.2.2.2.2.2.2.2.2.1
theorem dLa_law_242 : decode cLa_law 242 = .ok (.aload_n 0, 1) := dqLa_law_96.2.2.2.2.2.2.2.2.2.2.2.2.1
theorem dLa_law_243 : decode cLa_law 243 = .ok (.iload 4, 2) := dqLa_law_96.2.2.2.2.2.2.2.2.2.2.2.2.2.1
theorem dLa_law_245 : decode cLa_law 245 = .ok (.iconst 1, 1) := dqLa_law_96.2.2.2.2.2.2.2.2.2.2.2.2.2.2.1
theorem dLa_law_246 : decode cLa_law 246 = .ok (.iadd, 1) := dqLa_law_96.2.2.2.2.2.2.2.2.2.2.2.2.2.2.2
theorem dqLa_law_112 : decode cLa_law 247 = .ok (.iaload, 1) ∧ decode cLa_law 248 = .ok (.aload_n 3, 1) ∧ decode cLa_law 249 = .ok (.invokestatic 65, 3) ∧ decode cLa_law 252 = .ok (.istore 5, 2) ∧ decode cLa_law 254 = .ok (.aload_n 2, 1) ∧ decode cLa_law 255 = .ok (.aload_n 0, 1) ∧ decode cLa_law 256 = .ok (.iload 4, 2) ∧ decode cLa_law 258 = .ok (.iconst 1, 1) ∧ decode cLa_law 259 = .ok (.iadd, 1) ∧ decode cLa_law 260 = .ok (.iaload, 1) ∧ decode cLa_law 261 = .ok (.invokevirtual 68, 3) ∧ decode cLa_law 264 = .ok (.istore 6, 2) ∧ decode cLa_law 266 = .ok (.aload_n 2, 1) ∧ decode cLa_law 267 = .ok (.invokevirtual 61, 3) ∧ decode cLa_law 270 = .ok (.iload 5, 2) ∧ decode cLa_law 272 = .ok (.if_icmp .eq 5, 3) := by decide +kernel
theorem dLa_law_247 : decode cLa_law 247 = .ok (.iaload, 1) := dqLa_law_112.1
theorem dLa_law_248 : decode cLa_law 248 = .ok (.aload_n 3, 1) := dqLa_law_112.2.1
theorem dLa_law_249 : decode cLa_law 249 = .ok (.invokestatic 65, 3) := dqLa_law_112.2.2.1
theorem dLa_law_252 : decode cLa_law 252 = .ok (.istore 5, 2) := dqLa_law_112.2.2.2.1
theorem dLa_law_254 : decode cLa_law 254 = .ok (.aload_n 2, 1) := dqLa_law_112.2.2.2.2.1
theorem dLa_law_255 : decode cLa_law 255 = .ok (.aload_n 0, 1) := dqLa_law_112.2.2.2.2.2.1
theorem dLa_law_256 : decode cLa_law 256 = .ok (.iload 4, 2) := dqLa_law_112.2.2.2.2.2.2.1
theorem dLa_law_258 : decode cLa_law 258 = .ok (.iconst 1, 1) := dqLa_law_112.2.2.2.2.2.2.2.1
theorem dLa_law_259 : decode cLa_law 259 = .ok (.iadd, 1) := dqLa_law_112.2.2.2.2.2.2.2.2.1
theorem dLa_law_260 : decode cLa_law 260 = .ok (.iaload, 1) := dqLa_law_112.2.2.2.2.2.2.2.2.2.1
theorem dLa_law_261 : decode cLa_law 261 = .ok (.invokevirtual 68, 3) := dqLa_law_112.2.2.2.2.2.2.2.2.2.2.1
theorem dLa_law_264 : decode cLa_law 264 = .ok (.istore 6, 2) := dqLa_law_112.2.2.2.2.2.2.2.2.2.2.2.1
theorem dLa_law_266 : decode cLa_law 266 = .ok (.aload_n 2, 1) := dqLa_law_112.2.2.2.2.2.2.2.2.2.2.2.2.1
theorem dLa_law_267 : decode cLa_law 267 = .ok (.invokevirtual 61, 3) := dqLa_law_112.2.2.2.2.2.2.2.2.2.2.2.2.2.1
theorem dLa_law_270 : decode cLa_law 270 = .ok (.iload 5, 2) := dqLa_law_112.2.2.2.2.2.2.2.2.2.2.2.2.2.2.1
theorem dLa_law_272 : decode cLa_law 272 = .ok (.if_icmp .eq 5, 3) := dqLa_law_112.2.2.2.2.2.2.2.2.2.2.2.2.2.2.2
theorem dqLa_law_128 : decode cLa_law 275 = .ok (.iconst 0, 1) ∧ decode cLa_law 276 = .ok (.ireturn, 1) ∧ decode cLa_law 277 = .ok (.iload 5, 2) ∧ decode cLa_law 279 = .ok (.ifCond .ne 15, 3) ∧ decode cLa_law 282 = .ok (.aload_n 3, 1) ∧ decode cLa_law 283 = .ok (.iconst 0, 1) ∧ decode cLa_law 284 = .ok (.laload, 1) ∧ decode cLa_law 285 = .ok (.iload 6, 2) ∧ decode cLa_law 287 = .ok (.i2l, 1) ∧ decode cLa_law 288 = .ok (.lcmp, 1) ∧ decode cLa_law 289 = .ok (.ifCond .eq 5, 3) ∧ decode cLa_law 292 = .ok (.iconst 0, 1) ∧ decode cLa_law 293 = .ok (.ireturn, 1) ∧ decode cLa_law 294 = .ok (.goto 702, 3) ∧ decode cLa_law 297 = .ok (.aload_n 1, 1) ∧ decode cLa_law 298 = .ok (.aload_n 0, 1) := by decide +kernel
theorem dLa_law_275 : decode cLa_law 275 = .ok (.iconst 0, 1) := dqLa_law_128.1
theorem dLa_law_276 : decode cLa_law 276 = .ok (.ireturn, 1) := dqLa_law_128.2.1
theorem dLa_law_277 : decode cLa_law 277 = .ok (.iload 5, 2) := dqLa_law_128.2.2.1
theorem dLa_law_279 : decode cLa_law 279 = .ok (.ifCond .ne 15, 3) := dqLa_law_128.2.2.2.1
theorem dLa_law_282 : decode cLa_law 282 = .ok (.aload_n 3, 1) := dqLa_law_128.2.2.2.2.1
theorem dLa_law_283 : decode cLa_law 283 = .ok (.iconst 0, 1) := dqLa_law_128.2.2.2.2.2.1
theorem dLa_law_284 : decode cLa_law 284 = .ok (.laload, 1) := dqLa_law_128.2.2.2.2.2.2.1
theorem dLa_law_285 : decode cLa_law 285 = .ok (.iload 6, 2) := dqLa_law_128.2.2.2.2.2.2.2.1
theorem dLa_law_287 : decode cLa_law 287 = .ok (.i2l, 1) := dqLa_law_128.2.2.2.2.2.2.2.2.1
theorem dLa_law_288 : decode cLa_law 288 = .ok (.lcmp, 1) := dqLa_law_128.2.2.2.2.2.2.2.2.2.1
theorem dLa_law_289 : decode cLa_law 289 = .ok (.ifCond .eq 5, 3) := dqLa_law_128.2.2.2.2.2.2.2.2.2.2.1
theorem dLa_law_292 : decode cLa_law 292 = .ok (.iconst 0, 1) := dqLa_law_128.2.2.2.2.2.2.2.2.2.2.2.1
theorem dLa_law_293 : decode cLa_law 293 = .ok (.ireturn, 1) := dqLa_law_128.2.2.2.2.2.2.2.2.2.2.2.2.1
theorem dLa_law_294 : decode cLa_law 294 = .ok (.goto 702, 3) := dqLa_law_128.2.2.2.2.2.2.2.2.2.2.2.2.2.1
theorem dLa_law_297 : decode cLa_law 297 = .ok (.aload_n 1, 1) := dqLa_law_128.2.2.2.2.2.2.2.2.2.2.2.2.2.2.1
theorem dLa_law_298 : decode cLa_law 298 = .ok (.aload_n 0, 1) := dqLa_law_128.2.2.2.2.2.2.2.2.2.2.2.2.2.2.2
theorem dqLa_law_144 : decode cLa_law 299 = .ok (.iload 4, 2) ∧ decode cLa_law 301 = .ok (.iconst 1, 1) ∧ decode cLa_law 302 = .ok (.iadd, 1) ∧ decode cLa_law 303 = .ok (.iaload, 1) ∧ decode cLa_law 304 = .ok (.aload_n 0, 1) ∧ decode cLa_law 305 = .ok (.iload 4, 2) ∧ decode cLa_law 307 = .ok (.iconst 2, 1) ∧ decode cLa_law 308 = .ok (.iadd, 1) ∧ decode cLa_law 309 = .ok (.iaload, 1) ∧ decode cLa_law 310 = .ok (.aload_n 0, 1) ∧ decode cLa_law 311 = .ok (.iload 4, 2) ∧ decode cLa_law 313 = .ok (.iconst 3, 1) ∧ decode cLa_law 314 = .ok (.iadd, 1) ∧ decode cLa_law 315 = .ok (.iaload, 1) ∧ decode cLa_law 316 = .ok (.i2l, 1) ∧ decode cLa_law 317 = .ok (.bipush 32, 2) := by decide +kernel
theorem dLa_law_299 : decode cLa_law 299 = .ok (.iload 4, 2) := dqLa_law_144.1
theorem dLa_law_301 : decode cLa_law 301 = .ok (.iconst 1, 1) := dqLa_law_144.2.1
theorem dLa_law_302 : decode cLa_law 302 = .ok (.iadd, 1) := dqLa_law_144.2.2.1
theorem dLa_law_303 : decode cLa_law 303 = .ok (.iaload, 1) := dqLa_law_144.2.2.2.1
theorem dLa_law_304 : decode cLa_law 304 = .ok (.aload_n 0, 1) := dqLa_law_144.2.2.2.2.1
theorem dLa_law_305 : decode cLa_law 305 = .ok (.iload 4, 2) := dqLa_law_144.2.2.2.2.2.1
theorem dLa_law_307 : decode cLa_law 307 = .ok (.iconst 2, 1) := dqLa_law_144.2.2.2.2.2.2.1
theorem dLa_law_308 : decode cLa_law 308 = .ok (.iadd, 1) := dqLa_law_144.2.2.2.2.2.2.2.1
theorem dLa_law_309 : decode cLa_law 309 = .ok (.iaload, 1) := dqLa_law_144.2.2.2.2.2.2.2.2.1
theorem dLa_law_310 : decode cLa_law 310 = .ok (.aload_n 0, 1) := dqLa_law_144.2.2.2.2.2.2.2.2.2.1
theorem dLa_law_311 : decode cLa_law 311 = .ok (.iload 4, 2) := dqLa_law_144.2.2.2.2.2.2.2.2.2.2.1
theorem dLa_law_313 : decode cLa_law 313 = .ok (.iconst 3, 1) := dqLa_law_144.2.2.2.2.2.2.2.2.2.2.2.1
theorem dLa_law_314 : decode cLa_law 314 = .ok (.iadd, 1) := dqLa_law_144.2.2.2.2.2.2.2.2.2.2.2.2.1
theorem dLa_law_315 : decode cLa_law 315 = .ok (.iaload, 1) := dqLa_law_144.2.2.2.2.2.2.2.2.2.2.2.2.2.1
theorem dLa_law_316 : decode cLa_law 316 = .ok (.i2l, 1) := dqLa_law_144.2.2.2.2.2.2.2.2.2.2.2.2.2.2.1
theorem dLa_law_317 : decode cLa_law 317 = .ok (.bipush 32, 2) := dqLa_law_144.2.2.2.2.2.2.2.2.2.2.2.2.2.2.2
theorem dqLa_law_160 : decode cLa_law 319 = .ok (.lshl, 1) ∧ decode cLa_law 320 = .ok (.aload_n 0, 1) ∧ decode cLa_law 321 = .ok (.iload 4, 2) ∧ decode cLa_law 323 = .ok (.iconst 4, 1) ∧ decode cLa_law 324 = .ok (.iadd, 1) ∧ decode cLa_law 325 = .ok (.iaload, 1) ∧ decode cLa_law 326 = .ok (.i2l, 1) ∧ decode cLa_law 327 = .ok (.ldc2_w 69, 3) ∧ decode cLa_law 330 = .ok (.land, 1) ∧ decode cLa_law 331 = .ok (.lor, 1) ∧ decode cLa_law 332 = .ok (.aload_n 3, 1) ∧ decode cLa_law 333 = .ok (.invokestatic 71, 3) ∧ decode cLa_law 336 = .ok (.istore 5, 2) ∧ decode cLa_law 338 = .ok (.aload_n 2, 1) ∧ decode cLa_law 339 = .ok (.aload_n 0, 1) ∧ decode cLa_law 340 = .ok (.iload 4, 2) := by decide +kernel
theorem dLa_law_319 : decode cLa_law 319 = .ok (.lshl, 1) := dqLa_law_160.1
theorem dLa_law_320 : decode cLa_law 320 = .ok (.aload_n 0, 1) := dqLa_law_160.2.1
theorem dLa_law_321 : decode cLa_law 321 = .ok (.iload 4, 2) := dqLa_law_160.2.2.1
theorem dLa_law_323 : decode cLa_law 323 = .ok (.iconst 4, 1) := dqLa_law_160.2.2.2.1
theorem dLa_law_324 : decode cLa_law 324 = .ok (.iadd, 1) := dqLa_law_160.2.2.2.2.1
theorem dLa_law_325 : decode cLa_law 325 = .ok (.iaload, 1) := dqLa_law_160.2.2.2.2.2.1
theorem dLa_law_326 : decode cLa_law 326 = .ok (.i2l, 1) := dqLa_law_160.2.2.2.2.2.2.1
theorem dLa_law_327 : decode cLa_law 327 = .ok (.ldc2_w 69, 3) := dqLa_law_160.2.2.2.2.2.2.2.1
theorem dLa_law_330 : decode cLa_law 330 = .ok (.land, 1) := dqLa_law_160.2.2.2.2.2.2.2.2.1
theorem dLa_law_331 : decode cLa_law 331 = .ok (.lor, 1) := dqLa_law_160.2.2.2.2.2.2.2.2.2.1
theorem dLa_law_332 : decode cLa_law 332 = .ok (.aload_n 3, 1) := dqLa_law_160.2.2.2.2.2.2.2.2.2.2.1
theorem dLa_law_333 : decode cLa_law 333 = .ok (.invokestatic 71, 3) := dqLa_law_160.2.2.2.2.2.2.2.2.2.2.2.1
theorem dLa_law_336 : decode cLa_law 336 = .ok (.istore 5, 2) := dqLa_law_160.2.2.2.2.2.2.2.2.2.2.2.2.1
theorem dLa_law_338 : decode cLa_law 338 = .ok (.aload_n 2, 1) := dqLa_law_160.2.2.2.2.2.2.2.2.2.2.2.2.2.1
theorem dLa_law_339 : decode cLa_law 339 = .ok (.aload_n 0, 1) := dqLa_law_160.2.2.2.2.2.2.2.2.2.2.2.2.2.2.1
theorem dLa_law_340 : decode cLa_law 340 = .ok (.iload 4, 2) := dqLa_law_160.2.2.2.2.2.2.2.2.2.2.2.2.2.2.2
theorem dqLa_law_176 : decode cLa_law 342 = .ok (.iconst 1, 1) ∧ decode cLa_law 343 = .ok (.iadd, 1) ∧ decode cLa_law 344 = .ok (.iaload, 1) ∧ decode cLa_law 345 = .ok (.aload_n 0, 1) ∧ decode cLa_law 346 = .ok (.iload 4, 2) ∧ decode cLa_law 348 = .ok (.iconst 2, 1) ∧ decode cLa_law 349 = .ok (.iadd, 1) ∧ decode cLa_law 350 = .ok (.iaload, 1) ∧ decode cLa_law 351 = .ok (.aload_n 0, 1) ∧ decode cLa_law 352 = .ok (.iload 4, 2) ∧ decode cLa_law 354 = .ok (.iconst 3, 1) ∧ decode cLa_law 355 = .ok (.iadd, 1) ∧ decode cLa_law 356 = .ok (.iaload, 1) ∧ decode cLa_law 357 = .ok (.i2l, 1) ∧ decode cLa_law 358 = .ok (.bipush 32, 2) ∧ decode cLa_law 360 = .ok (.lshl, 1) := by decide +kernel
theorem dLa_law_342 : decode cLa_law 342 = .ok (.iconst 1, 1) := dqLa_law_176.1
theorem dLa_law_343 : decode cLa_law 343 = .ok (.iadd, 1) := dqLa_law_176.2.1
theorem dLa_law_344 : decode cLa_law 344 = .ok (.iaload, 1) := dqLa_law_176.2.2.1
theorem dLa_law_345 : decode cLa_law 345 = .ok (.aload_n 0, 1) := dqLa_law_176.2.2.2.1
theorem dLa_law_346 : decode cLa_law 346 = .ok (.iload 4, 2) := dqLa_law_176.2.2.2.2.1
theorem dLa_law_348 : decode cLa_law 348 = .ok (.iconst 2, 1) := dqLa_law_176.2.2.2.2.2.1
theorem dLa_law_349 : decode cLa_law 349 = .ok (.iadd, 1) := dqLa_law_176.2.2.2.2.2.2.1
theorem dLa_law_350 : decode cLa_law 350 = .ok (.iaload, 1) := dqLa_law_176.2.2.2.2.2.2.2.1
theorem dLa_law_351 : decode cLa_law 351 = .ok (.aload_n 0, 1) := dqLa_law_176.2.2.2.2.2.2.2.2.1
theorem dLa_law_352 : decode cLa_law 352 = .ok (.iload 4, 2) := dqLa_law_176.2.2.2.2.2.2.2.2.2.1
theorem dLa_law_354 : decode cLa_law 354 = .ok (.iconst 3, 1) := dqLa_law_176.2.2.2.2.2.2.2.2.2.2.1
theorem dLa_law_355 : decode cLa_law 355 = .ok (.iadd, 1) := dqLa_law_176.2.2.2.2.2.2.2.2.2.2.2.1
theorem dLa_law_356 : decode cLa_law 356 = .ok (.iaload, 1) := dqLa_law_176.2.2.2.2.2.2.2.2.2.2.2.2.1
theorem dLa_law_357 : decode cLa_law 357 = .ok (.i2l, 1) := dqLa_law_176.2.2.2.2.2.2.2.2.2.2.2.2.2.1
theorem dLa_law_358 : decode cLa_law 358 = .ok (.bipush 32, 2) := dqLa_law_176.2.2.2.2.2.2.2.2.2.2.2.2.2.2.1
theorem dLa_law_360 : decode cLa_law 360 = .ok (.lshl, 1) := dqLa_law_176.2.2.2.2.2.2.2.2.2.2.2.2.2.2.2
theorem dqLa_law_192 : decode cLa_law 361 = .ok (.aload_n 0, 1) ∧ decode cLa_law 362 = .ok (.iload 4, 2) ∧ decode cLa_law 364 = .ok (.iconst 4, 1) ∧ decode cLa_law 365 = .ok (.iadd, 1) ∧ decode cLa_law 366 = .ok (.iaload, 1) ∧ decode cLa_law 367 = .ok (.i2l, 1) ∧ decode cLa_law 368 = .ok (.ldc2_w 69, 3) ∧ decode cLa_law 371 = .ok (.land, 1) ∧ decode cLa_law 372 = .ok (.lor, 1) ∧ decode cLa_law 373 = .ok (.invokevirtual 74, 3) ∧ decode cLa_law 376 = .ok (.lstore 6, 2) ∧ decode cLa_law 378 = .ok (.aload_n 2, 1) ∧ decode cLa_law 379 = .ok (.invokevirtual 61, 3) ∧ decode cLa_law 382 = .ok (.iload 5, 2) ∧ decode cLa_law 384 = .ok (.if_icmp .eq 5, 3) ∧ decode cLa_law 387 = .ok (.iconst 0, 1) := by decide +kernel
theorem dLa_law_361 : decode cLa_law 361 = .ok (.aload_n 0, 1) := dqLa_law_192.1
theorem dLa_law_362 : decode cLa_law 362 = .ok (.iload 4, 2) := dqLa_law_192.2.1
theorem dLa_law_364 : decode cLa_law 364 = .ok (.iconst 4, 1) := dqLa_law_192.2.2.1
theorem dLa_law_365 : decode cLa_law 365 = .ok (.iadd, 1) := dqLa_law_192.2.2.2.1
theorem dLa_law_366 : decode cLa_law 366 = .ok (.iaload, 1) := dqLa_law_192.2.2.2.2.1
theorem dLa_law_367 : decode cLa_law 367 = .ok (.i2l, 1) := dqLa_law_192.2.2.2.2.2.1
theorem dLa_law_368 : decode cLa_law 368 = .ok (.ldc2_w 69, 3) := dqLa_law_192.2.2.2.2.2.2.1
theorem dLa_law_371 : decode cLa_law 371 = .ok (.land, 1) := dqLa_law_192.2.2.2.2.2.2.2.1
theorem dLa_law_372 : decode cLa_law 372 = .ok (.lor, 1) := dqLa_law_192.2.2.2.2.2.2.2.2.1
theorem dLa_law_373 : decode cLa_law 373 = .ok (.invokevirtual 74, 3) := dqLa_law_192.2.2.2.2.2.2.2.2.2.1
theorem dLa_law_376 : decode cLa_law 376 = .ok (.lstore 6, 2) := dqLa_law_192.2.2.2.2.2.2.2.2.2.2.1
theorem dLa_law_378 : decode cLa_law 378 = .ok (.aload_n 2, 1) := dqLa_law_192.2.2.2.2.2.2.2.2.2.2.2.1
theorem dLa_law_379 : decode cLa_law 379 = .ok (.invokevirtual 61, 3) := dqLa_law_192.2.2.2.2.2.2.2.2.2.2.2.2.1
theorem dLa_law_382 : decode cLa_law 382 = .ok (.iload 5, 2) := dqLa_law_192.2.2.2.2.2.2.2.2.2.2.2.2.2.1
theorem dLa_law_384 : decode cLa_law 384 = .ok (.if_icmp .eq 5, 3) := dqLa_law_192.2.2.2.2.2.2.2.2.2.2.2.2.2.2.1
theorem dLa_law_387 : decode cLa_law 387 = .ok (.iconst 0, 1) := dqLa_law_192.2.2.2.2.2.2.2.2.2.2.2.2.2.2.2
theorem dqLa_law_208 : decode cLa_law 388 = .ok (.ireturn, 1) ∧ decode cLa_law 389 = .ok (.iload 5, 2) ∧ decode cLa_law 391 = .ok (.ifCond .ne 14, 3) ∧ decode cLa_law 394 = .ok (.aload_n 3, 1) ∧ decode cLa_law 395 = .ok (.iconst 0, 1) ∧ decode cLa_law 396 = .ok (.laload, 1) ∧ decode cLa_law 397 = .ok (.lload 6, 2) ∧ decode cLa_law 399 = .ok (.lcmp, 1) ∧ decode cLa_law 400 = .ok (.ifCond .eq 5, 3) ∧ decode cLa_law 403 = .ok (.iconst 0, 1) ∧ decode cLa_law 404 = .ok (.ireturn, 1) ∧ decode cLa_law 405 = .ok (.goto 591, 3) ∧ decode cLa_law 408 = .ok (.aload_n 1, 1) ∧ decode cLa_law 409 = .ok (.aload_n 0, 1) ∧ decode cLa_law 410 = .ok (.iload 4, 2) ∧ decode cLa_law 412 = .ok (.iconst 1, 1) := by decide +kernel
theorem dLa_law_388 : decode cLa_law 388 = .ok (.ireturn, 1) := dqLa_law_208.1
theorem dLa_law_389 : decode cLa_law 389 = .ok (.iload 5, 2) := dqLa_law_208.2.1
theorem dLa_law_391 : decode cLa_law 391 = .ok (.ifCond .ne 14, 3) := dqLa_law_208.2.2.1
theorem dLa_law_394 : decode cLa_law 394 = .ok (.aload_n 3, 1) := dqLa_law_208.2.2.2.1
theorem dLa_law_395 : decode cLa_law 395 = .ok (.iconst 0, 1) := dqLa_law_208.2.2.2.2.1
theorem dLa_law_396 : decode cLa_law 396 = .ok (.laload, 1) := dqLa_law_208.2.2.2.2.2.1
theorem dLa_law_397 : decode cLa_law 397 = .ok (.lload 6, 2) := dqLa_law_208.2.2.2.2.2.2.1
theorem dLa_law_399 : decode cLa_law 399 = .ok (.lcmp, 1) := dqLa_law_208.2.2.2.2.2.2.2.1
theorem dLa_law_400 : decode cLa_law 400 = .ok (.ifCond .eq 5, 3) := dqLa_law_208.2.2.2.2.2.2.2.2.1
theorem dLa_law_403 : decode cLa_law 403 = .ok (.iconst 0, 1) := dqLa_law_208.2.2.2.2.2.2.2.2.2.1
theorem dLa_law_404 : decode cLa_law 404 = .ok (.ireturn, 1) := dqLa_law_208.2.2.2.2.2.2.2.2.2.2.1
theorem dLa_law_405 : decode cLa_law 405 = .ok (.goto 591, 3) := dqLa_law_208.2.2.2.2.2.2.2.2.2.2.2.1
theorem dLa_law_408 : decode cLa_law 408 = .ok (.aload_n 1, 1) := dqLa_law_208.2.2.2.2.2.2.2.2.2.2.2.2.1
theorem dLa_law_409 : decode cLa_law 409 = .ok (.aload_n 0, 1) := dqLa_law_208.2.2.2.2.2.2.2.2.2.2.2.2.2.1
theorem dLa_law_410 : decode cLa_law 410 = .ok (.iload 4, 2) := dqLa_law_208.2.2.2.2.2.2.2.2.2.2.2.2.2.2.1
theorem dLa_law_412 : decode cLa_law 412 = .ok (.iconst 1, 1) := dqLa_law_208.2.2.2.2.2.2.2.2.2.2.2.2.2.2.2
theorem dqLa_law_224 : decode cLa_law 413 = .ok (.iadd, 1) ∧ decode cLa_law 414 = .ok (.iaload, 1) ∧ decode cLa_law 415 = .ok (.aload_n 3, 1) ∧ decode cLa_law 416 = .ok (.invokestatic 75, 3) ∧ decode cLa_law 419 = .ok (.istore 5, 2) ∧ decode cLa_law 421 = .ok (.aload_n 2, 1) ∧ decode cLa_law 422 = .ok (.aload_n 0, 1) ∧ decode cLa_law 423 = .ok (.iload 4, 2) ∧ decode cLa_law 425 = .ok (.iconst 1, 1) ∧ decode cLa_law 426 = .ok (.iadd, 1) ∧ decode cLa_law 427 = .ok (.iaload, 1) ∧ decode cLa_law 428 = .ok (.invokevirtual 77, 3) ∧ decode cLa_law 431 = .ok (.istore 6, 2) ∧ decode cLa_law 433 = .ok (.aload_n 2, 1) ∧ decode cLa_law 434 = .ok (.invokevirtual 61, 3) ∧ decode cLa_law 437 = .ok (.iload 5, 2) := by decide +kernel
theorem dLa_law_413 : decode cLa_law 413 = .ok (.iadd, 1) := dqLa_law_224.1
theorem dLa_law_414 : decode cLa_law 414 = .ok (.iaload, 1) := dqLa_law_224.2.1
theorem dLa_law_415 : decode cLa_law 415 = .ok (.aload_n 3, 1) := dqLa_law_224.2.2.1
theorem dLa_law_416 : decode cLa_law 416 = .ok (.invokestatic 75, 3) := dqLa_law_224.2.2.2.1
theorem dLa_law_419 : decode cLa_law 419 = .ok (.istore 5, 2) := dqLa_law_224.2.2.2.2.1
theorem dLa_law_421 : decode cLa_law 421 = .ok (.aload_n 2, 1) := dqLa_law_224.2.2.2.2.2.1
theorem dLa_law_422 : decode cLa_law 422 = .ok (.aload_n 0, 1) := dqLa_law_224.2.2.2.2.2.2.1
theorem dLa_law_423 : decode cLa_law 423 = .ok (.iload 4, 2) := dqLa_law_224.2.2.2.2.2.2.2.1
theorem dLa_law_425 : decode cLa_law 425 = .ok (.iconst 1, 1) := dqLa_law_224.2.2.2.2.2.2.2.2.1
theorem dLa_law_426 : decode cLa_law 426 = .ok (.iadd, 1) := dqLa_law_224.2.2.2.2.2.2.2.2.2.1
theorem dLa_law_427 : decode cLa_law 427 = .ok (.iaload, 1) := dqLa_law_224.2.2.2.2.2.2.2.2.2.2.1
theorem dLa_law_428 : decode cLa_law 428 = .ok (.invokevirtual 77, 3) := dqLa_law_224.2.2.2.2.2.2.2.2.2.2.2.1
theorem dLa_law_431 : decode cLa_law 431 = .ok (.istore 6, 2) := dqLa_law_224.2.2.2.2.2.2.2.2.2.2.2.2.1
theorem dLa_law_433 : decode cLa_law 433 = .ok (.aload_n 2, 1) := dqLa_law_224.2.2.2.2.2.2.2.2.2.2.2.2.2.1
theorem dLa_law_434 : decode cLa_law 434 = .ok (.invokevirtual 61, 3) := dqLa_law_224.2.2.2.2.2.2.2.2.2.2.2.2.2.2.1
theorem dLa_law_437 : decode cLa_law 437 = .ok (.iload 5, 2) := dqLa_law_224.2.2.2.2.2.2.2.2.2.2.2.2.2.2.2
theorem dqLa_law_240 : decode cLa_law 439 = .ok (.if_icmp .eq 5, 3) ∧ decode cLa_law 442 = .ok (.iconst 0, 1) ∧ decode cLa_law 443 = .ok (.ireturn, 1) ∧ decode cLa_law 444 = .ok (.iload 5, 2) ∧ decode cLa_law 446 = .ok (.ifCond .ne 15, 3) ∧ decode cLa_law 449 = .ok (.aload_n 3, 1) ∧ decode cLa_law 450 = .ok (.iconst 0, 1) ∧ decode cLa_law 451 = .ok (.laload, 1) ∧ decode cLa_law 452 = .ok (.iload 6, 2) ∧ decode cLa_law 454 = .ok (.i2l, 1) ∧ decode cLa_law 455 = .ok (.lcmp, 1) ∧ decode cLa_law 456 = .ok (.ifCond .eq 5, 3) ∧ decode cLa_law 459 = .ok (.iconst 0, 1) ∧ decode cLa_law 460 = .ok (.ireturn, 1) ∧ decode cLa_law 461 = .ok (.goto 535, 3) ∧ decode cLa_law 464 = .ok (.aload_n 1, 1) := by decide +kernel
theorem dLa_law_439 : decode cLa_law 439 = .ok (.if_icmp .eq 5, 3) := dqLa_law_240.1
theorem dLa_law_442 : decode cLa_law 442 = .ok (.iconst 0, 1) := dqLa_law_240.2.1
theorem dLa_law_443 : decode cLa_law 443 = .ok (.ireturn, 1) := dqLa_law_240.2.2.1
theorem dLa_law_444 : decode cLa_law 444 = .ok (.iload 5, 2) := dqLa_law_240.2.2.2.1
theorem dLa_law_446 : decode cLa_law 446 = .ok (.ifCond .ne 15, 3) := dqLa_law_240.2.2.2.2.1
theorem dLa_law_449 : decode cLa_law 449 = .ok (.aload_n 3, 1) := dqLa_law_240.2.2.2.2.2.1
theorem dLa_law_450 : decode cLa_law 450 = .ok (.iconst 0, 1) := dqLa_law_240.2.2.2.2.2.2.1
theorem dLa_law_451 : decode cLa_law 451 = .ok (.laload, 1) := dqLa_law_240.2.2.2.2.2.2.2.1
theorem dLa_law_452 : decode cLa_law 452 = .ok (.iload 6, 2) := dqLa_law_240.2.2.2.2.2.2.2.2.1
theorem dLa_law_454 : decode cLa_law 454 = .ok (.i2l, 1) := dqLa_law_240.2.2.2.2.2.2.2.2.2.1
theorem dLa_law_455 : decode cLa_law 455 = .ok (.lcmp, 1) := dqLa_law_240.2.2.2.2.2.2.2.2.2.2.1
theorem dLa_law_456 : decode cLa_law 456 = .ok (.ifCond .eq 5, 3) := dqLa_law_240.2.2.2.2.2.2.2.2.2.2.2.1
theorem dLa_law_459 : decode cLa_law 459 = .ok (.iconst 0, 1) := dqLa_law_240.2.2.2.2.2.2.2.2.2.2.2.2.1
theorem dLa_law_460 : decode cLa_law 460 = .ok (.ireturn, 1) := dqLa_law_240.2.2.2.2.2.2.2.2.2.2.2.2.2.1
theorem dLa_law_461 : decode cLa_law 461 = .ok (.goto 535, 3) := dqLa_law_240.2.2.2.2.2.2.2.2.2.2.2.2.2.2.1
theorem dLa_law_464 : decode cLa_law 464 = .ok (.aload_n 1, 1) := dqLa_law_240.2.2.2.2.2.2.2.2.2.2.2.2.2.2.2
theorem dqLa_law_256 : decode cLa_law 465 = .ok (.aload_n 0, 1) ∧ decode cLa_law 466 = .ok (.iload 4, 2) ∧ decode cLa_law 468 = .ok (.iconst 1, 1) ∧ decode cLa_law 469 = .ok (.iadd, 1) ∧ decode cLa_law 470 = .ok (.iaload, 1) ∧ decode cLa_law 471 = .ok (.aload_n 0, 1) ∧ decode cLa_law 472 = .ok (.iload 4, 2) ∧ decode cLa_law 474 = .ok (.iconst 2, 1) ∧ decode cLa_law 475 = .ok (.iadd, 1) ∧ decode cLa_law 476 = .ok (.iaload, 1) ∧ decode cLa_law 477 = .ok (.i2l, 1) ∧ decode cLa_law 478 = .ok (.bipush 32, 2) ∧ decode cLa_law 480 = .ok (.lshl, 1) ∧ decode cLa_law 481 = .ok (.aload_n 0, 1) ∧ decode cLa_law 482 = .ok (.iload 4, 2) ∧ decode cLa_law 484 = .ok (.iconst 3, 1) := by decide +kernel
theorem dLa_law_465 : decode cLa_law 465 = .ok (.aload_n 0, 1) := dqLa_law_256.1
theorem dLa_law_466 : decode cLa_law 466 = .ok (.iload 4, 2) := dqLa_law_256.2.1
theorem dLa_law_468 : decode cLa_law 468 = .ok (.iconst 1, 1) := dqLa_law_256.2.2.1
theorem dLa_law_469 : decode cLa_law 469 = .ok (.iadd, 1) := dqLa_law_256.2.2.2.1
theorem dLa_law_470 : decode cLa_law 470 = .ok (.iaload, 1) := dqLa_law_256.2.2.2.2.1
theorem dLa_law_471 : decode cLa_law 471 = .ok (.aload_n 0, 1) := dqLa_law_256.2.2.2.2.2.1
theorem dLa_law_472 : decode cLa_law 472 = .ok (.iload 4, 2) := dqLa_law_256.2.2.2.2.2.2.1
theorem dLa_law_474 : decode cLa_law 474 = .ok (.iconst 2, 1) := dqLa_law_256.2.2.2.2.2.2.2.1
theorem dLa_law_475 : decode cLa_law 475 = .ok (.iadd, 1) := dqLa_law_256.2.2.2.2.2.2.2.2.1
theorem dLa_law_476 : decode cLa_law 476 = .ok (.iaload, 1) := dqLa_law_256.2.2.2.2.2.2.2.2.2.1
theorem dLa_law_477 : decode cLa_law 477 = .ok (.i2l, 1) := dqLa_law_256.2.2.2.2.2.2.2.2.2.2.1
theorem dLa_law_478 : decode cLa_law 478 = .ok (.bipush 32, 2) := dqLa_law_256.2.2.2.2.2.2.2.2.2.2.2.1
theorem dLa_law_480 : decode cLa_law 480 = .ok (.lshl, 1) := dqLa_law_256.2.2.2.2.2.2.2.2.2.2.2.2.1
theorem dLa_law_481 : decode cLa_law 481 = .ok (.aload_n 0, 1) := dqLa_law_256.2.2.2.2.2.2.2.2.2.2.2.2.2.1
theorem dLa_law_482 : decode cLa_law 482 = .ok (.iload 4, 2) := dqLa_law_256.2.2.2.2.2.2.2.2.2.2.2.2.2.2.1
theorem dLa_law_484 : decode cLa_law 484 = .ok (.iconst 3, 1) := dqLa_law_256.2.2.2.2.2.2.2.2.2.2.2.2.2.2.2
theorem dqLa_law_272 : decode cLa_law 485 = .ok (.iadd, 1) ∧ decode cLa_law 486 = .ok (.iaload, 1) ∧ decode cLa_law 487 = .ok (.i2l, 1) ∧ decode cLa_law 488 = .ok (.ldc2_w 69, 3) ∧ decode cLa_law 491 = .ok (.land, 1) ∧ decode cLa_law 492 = .ok (.lor, 1) ∧ decode cLa_law 493 = .ok (.aload_n 3, 1) ∧ decode cLa_law 494 = .ok (.invokestatic 78, 3) ∧ decode cLa_law 497 = .ok (.istore 5, 2) ∧ decode cLa_law 499 = .ok (.aload_n 2, 1) ∧ decode cLa_law 500 = .ok (.aload_n 0, 1) ∧ decode cLa_law 501 = .ok (.iload 4, 2) ∧ decode cLa_law 503 = .ok (.iconst 1, 1) ∧ decode cLa_law 504 = .ok (.iadd, 1) ∧ decode cLa_law 505 = .ok (.iaload, 1) ∧ decode cLa_law 506 = .ok (.aload_n 0, 1) := by decide +kernel
theorem dLa_law_485 : decode cLa_law 485 = .ok (.iadd, 1) := dqLa_law_272.1
theorem dLa_law_486 : decode cLa_law 486 = .ok (.iaload, 1) := dqLa_law_272.2.1
theorem dLa_law_487 : decode cLa_law 487 = .ok (.i2l, 1) := dqLa_law_272.2.2.1
theorem dLa_law_488 : decode cLa_law 488 = .ok (.ldc2_w 69, 3) := dqLa_law_272.2.2.2.1
theorem dLa_law_491 : decode cLa_law 491 = .ok (.land, 1) := dqLa_law_272.2.2.2.2.1
theorem dLa_law_492 : decode cLa_law 492 = .ok (.lor, 1) := dqLa_law_272.2.2.2.2.2.1
theorem dLa_law_493 : decode cLa_law 493 = .ok (.aload_n 3, 1) := dqLa_law_272.2.2.2.2.2.2.1
theorem dLa_law_494 : decode cLa_law 494 = .ok (.invokestatic 78, 3) := dqLa_law_272.2.2.2.2.2.2.2.1
theorem dLa_law_497 : decode cLa_law 497 = .ok (.istore 5, 2) := dqLa_law_272.2.2.2.2.2.2.2.2.1
theorem dLa_law_499 : decode cLa_law 499 = .ok (.aload_n 2, 1) := dqLa_law_272.2.2.2.2.2.2.2.2.2.1
theorem dLa_law_500 : decode cLa_law 500 = .ok (.aload_n 0, 1) := dqLa_law_272.2.2.2.2.2.2.2.2.2.2.1
theorem dLa_law_501 : decode cLa_law 501 = .ok (.iload 4, 2) := dqLa_law_272.2.2.2.2.2.2.2.2.2.2.2.1
theorem dLa_law_503 : decode cLa_law 503 = .ok (.iconst 1, 1) := dqLa_law_272.2.2.2.2.2.2.2.2.2.2.2.2.1
theorem dLa_law_504 : decode cLa_law 504 = .ok (.iadd, 1) := dqLa_law_272.2.2.2.2.2.2.2.2.2.2.2.2.2.1
theorem dLa_law_505 : decode cLa_law 505 = .ok (.iaload, 1) := dqLa_law_272.2.2.2.2.2.2.2.2.2.2.2.2.2.2.1
theorem dLa_law_506 : decode cLa_law 506 = .ok (.aload_n 0, 1) := dqLa_law_272.2.2.2.2.2.2.2.2.2.2.2.2.2.2.2
theorem dqLa_law_288 : decode cLa_law 507 = .ok (.iload 4, 2) ∧ decode cLa_law 509 = .ok (.iconst 2, 1) ∧ decode cLa_law 510 = .ok (.iadd, 1) ∧ decode cLa_law 511 = .ok (.iaload, 1) ∧ decode cLa_law 512 = .ok (.i2l, 1) ∧ decode cLa_law 513 = .ok (.bipush 32, 2) ∧ decode cLa_law 515 = .ok (.lshl, 1) ∧ decode cLa_law 516 = .ok (.aload_n 0, 1) ∧ decode cLa_law 517 = .ok (.iload 4, 2) ∧ decode cLa_law 519 = .ok (.iconst 3, 1) ∧ decode cLa_law 520 = .ok (.iadd, 1) ∧ decode cLa_law 521 = .ok (.iaload, 1) ∧ decode cLa_law 522 = .ok (.i2l, 1) ∧ decode cLa_law 523 = .ok (.ldc2_w 69, 3) ∧ decode cLa_law 526 = .ok (.land, 1) ∧ decode cLa_law 527 = .ok (.lor, 1) := by decide +kernel
theorem dLa_law_507 : decode cLa_law 507 = .ok (.iload 4, 2) := dqLa_law_288.1
theorem dLa_law_509 : decode cLa_law 509 = .ok (.iconst 2, 1) := dqLa_law_288.2.1
theorem dLa_law_510 : decode cLa_law 510 = .ok (.iadd, 1) := dqLa_law_288.2.2.1
theorem dLa_law_511 : decode cLa_law 511 = .ok (.iaload, 1) := dqLa_law_288.2.2.2.1
theorem dLa_law_512 : decode cLa_law 512 = .ok (.i2l, 1) := dqLa_law_288.2.2.2.2.1
theorem dLa_law_513 : decode cLa_law 513 = .ok (.bipush 32, 2) := dqLa_law_288.2.2.2.2.2.1
theorem dLa_law_515 : decode cLa_law 515 = .ok (.lshl, 1) := dqLa_law_288.2.2.2.2.2.2.1
theorem dLa_law_516 : decode cLa_law 516 = .ok (.aload_n 0, 1) := dqLa_law_288.2.2.2.2.2.2.2.1
theorem dLa_law_517 : decode cLa_law 517 = .ok (.iload 4, 2) := dqLa_law_288.2.2.2.2.2.2.2.2.1
theorem dLa_law_519 : decode cLa_law 519 = .ok (.iconst 3, 1) := dqLa_law_288.2.2.2.2.2.2.2.2.2.1
theorem dLa_law_520 : decode cLa_law 520 = .ok (.iadd, 1) := dqLa_law_288.2.2.2.2.2.2.2.2.2.2.1
theorem dLa_law_521 : decode cLa_law 521 = .ok (.iaload, 1) := dqLa_law_288.2.2.2.2.2.2.2.2.2.2.2.1
theorem dLa_law_522 : decode cLa_law 522 = .ok (.i2l, 1) := dqLa_law_288.2.2.2.2.2.2.2.2.2.2.2.2.1
theorem dLa_law_523 : decode cLa_law 523 = .ok (.ldc2_w 69, 3) := dqLa_law_288.2.2.2.2.2.2.2.2.2.2.2.2.2.1
theorem dLa_law_526 : decode cLa_law 526 = .ok (.land, 1) := dqLa_law_288.2.2.2.2.2.2.2.2.2.2.2.2.2.2.1
theorem dLa_law_527 : decode cLa_law 527 = .ok (.lor, 1) := dqLa_law_288.2.2.2.2.2.2.2.2.2.2.2.2.2.2.2
theorem dqLa_law_304 : decode cLa_law 528 = .ok (.invokevirtual 81, 3) ∧ decode cLa_law 531 = .ok (.lstore 6, 2) ∧ decode cLa_law 533 = .ok (.aload_n 2, 1) ∧ decode cLa_law 534 = .ok (.invokevirtual 61, 3) ∧ decode cLa_law 537 = .ok (.iload 5, 2) ∧ decode cLa_law 539 = .ok (.if_icmp .eq 5, 3) ∧ decode cLa_law 542 = .ok (.iconst 0, 1) ∧ decode cLa_law 543 = .ok (.ireturn, 1) ∧ decode cLa_law 544 = .ok (.iload 5, 2) ∧ decode cLa_law 546 = .ok (.ifCond .ne 14, 3) ∧ decode cLa_law 549 = .ok (.aload_n 3, 1) ∧ decode cLa_law 550 = .ok (.iconst 0, 1) ∧ decode cLa_law 551 = .ok (.laload, 1) ∧ decode cLa_law 552 = .ok (.lload 6, 2) ∧ decode cLa_law 554 = .ok (.lcmp, 1) ∧ decode cLa_law 555 = .ok (.ifCond .eq 5, 3) := by decide +kernel
theorem dLa_law_528 : decode cLa_law 528 = .ok (.invokevirtual 81, 3) := dqLa_law_304.1
theorem dLa_law_531 : decode cLa_law 531 = .ok (.lstore 6, 2) := dqLa_law_304.2.1
theorem dLa_law_533 : decode cLa_law 533 = .ok (.aload_n 2, 1) := dqLa_law_304.2.2.1
theorem dLa_law_534 : decode cLa_law 534 = .ok (.invokevirtual 61, 3) := dqLa_law_304.2.2.2.1
theorem dLa_law_537 : decode cLa_law 537 = .ok (.iload 5, 2) := dqLa_law_304.2.2.2.2.1
theorem dLa_law_539 : decode cLa_law 539 = .ok (.if_icmp .eq 5, 3) := dqLa_law_304.2.2.2.2.2.1
theorem dLa_law_542 : decode cLa_law 542 = .ok (.iconst 0, 1) := dqLa_law_304.2.2.2.2.2.2.1
theorem dLa_law_543 : decode cLa_law 543 = .ok (.ireturn, 1) := dqLa_law_304.2.2.2.2.2.2.2.1
theorem dLa_law_544 : decode cLa_law 544 = .ok (.iload 5, 2) := dqLa_law_304.2.2.2.2.2.2.2.2.1
theorem dLa_law_546 : decode cLa_law 546 = .ok (.ifCond .ne 14, 3) := dqLa_law_304.2.2.2.2.2.2.2.2.2.1
theorem dLa_law_549 : decode cLa_law 549 = .ok (.aload_n 3, 1) := dqLa_law_304.2.2.2.2.2.2.2.2.2.2.1
theorem dLa_law_550 : decode cLa_law 550 = .ok (.iconst 0, 1) := dqLa_law_304.2.2.2.2.2.2.2.2.2.2.2.1
theorem dLa_law_551 : decode cLa_law 551 = .ok (.laload, 1) := dqLa_law_304.2.2.2.2.2.2.2.2.2.2.2.2.1
theorem dLa_law_552 : decode cLa_law 552 = .ok (.lload 6, 2) := dqLa_law_304.2.2.2.2.2.2.2.2.2.2.2.2.2.1
theorem dLa_law_554 : decode cLa_law 554 = .ok (.lcmp, 1) := dqLa_law_304.2.2.2.2.2.2.2.2.2.2.2.2.2.2.1
theorem dLa_law_555 : decode cLa_law 555 = .ok (.ifCond .eq 5, 3) := dqLa_law_304.2.2.2.2.2.2.2.2.2.2.2.2.2.2.2
theorem dqLa_law_320 : decode cLa_law 558 = .ok (.iconst 0, 1) ∧ decode cLa_law 559 = .ok (.ireturn, 1) ∧ decode cLa_law 560 = .ok (.goto 436, 3) ∧ decode cLa_law 563 = .ok (.aload_n 1, 1) ∧ decode cLa_law 564 = .ok (.aload_n 0, 1) ∧ decode cLa_law 565 = .ok (.iload 4, 2) ∧ decode cLa_law 567 = .ok (.iconst 1, 1) ∧ decode cLa_law 568 = .ok (.iadd, 1) ∧ decode cLa_law 569 = .ok (.iaload, 1) ∧ decode cLa_law 570 = .ok (.aload_n 0, 1) ∧ decode cLa_law 571 = .ok (.iload 4, 2) ∧ decode cLa_law 573 = .ok (.iconst 2, 1) ∧ decode cLa_law 574 = .ok (.iadd, 1) ∧ decode cLa_law 575 = .ok (.iaload, 1) ∧ decode cLa_law 576 = .ok (.ifCond .eq 7, 3) ∧ decode cLa_law 579 = .ok (.iconst 1, 1) := by decide +kernel
theorem dLa_law_558 : decode cLa_law 558 = .ok (.iconst 0, 1) := dqLa_law_320.1
theorem dLa_law_559 : decode cLa_law 559 = .ok (.ireturn, 1) := dqLa_law_320.2.1
theorem dLa_law_560 : decode cLa_law 560 = .ok (.goto 436, 3) := dqLa_law_320.2.2.1
theorem dLa_law_563 : decode cLa_law 563 = .ok (.aload_n 1, 1) := dqLa_law_320.2.2.2.1
theorem dLa_law_564 : decode cLa_law 564 = .ok (.aload_n 0, 1) := dqLa_law_320.2.2.2.2.1
theorem dLa_law_565 : decode cLa_law 565 = .ok (.iload 4, 2) := dqLa_law_320.2.2.2.2.2.1
theorem dLa_law_567 : decode cLa_law 567 = .ok (.iconst 1, 1) := dqLa_law_320.2.2.2.2.2.2.1
theorem dLa_law_568 : decode cLa_law 568 = .ok (.iadd, 1) := dqLa_law_320.2.2.2.2.2.2.2.1
theorem dLa_law_569 : decode cLa_law 569 = .ok (.iaload, 1) := dqLa_law_320.2.2.2.2.2.2.2.2.1
theorem dLa_law_570 : decode cLa_law 570 = .ok (.aload_n 0, 1) := dqLa_law_320.2.2.2.2.2.2.2.2.2.1
theorem dLa_law_571 : decode cLa_law 571 = .ok (.iload 4, 2) := dqLa_law_320.2.2.2.2.2.2.2.2.2.2.1
theorem dLa_law_573 : decode cLa_law 573 = .ok (.iconst 2, 1) := dqLa_law_320.2.2.2.2.2.2.2.2.2.2.2.1
theorem dLa_law_574 : decode cLa_law 574 = .ok (.iadd, 1) := dqLa_law_320.2.2.2.2.2.2.2.2.2.2.2.2.1
theorem dLa_law_575 : decode cLa_law 575 = .ok (.iaload, 1) := dqLa_law_320.2.2.2.2.2.2.2.2.2.2.2.2.2.1
theorem dLa_law_576 : decode cLa_law 576 = .ok (.ifCond .eq 7, 3) := dqLa_law_320.2.2.2.2.2.2.2.2.2.2.2.2.2.2.1
theorem dLa_law_579 : decode cLa_law 579 = .ok (.iconst 1, 1) := dqLa_law_320.2.2.2.2.2.2.2.2.2.2.2.2.2.2.2
theorem dqLa_law_336 : decode cLa_law 580 = .ok (.goto 4, 3) ∧ decode cLa_law 583 = .ok (.iconst 0, 1) ∧ decode cLa_law 584 = .ok (.aload_n 3, 1) ∧ decode cLa_law 585 = .ok (.invokestatic 82, 3) ∧ decode cLa_law 588 = .ok (.istore 5, 2) ∧ decode cLa_law 590 = .ok (.aload_n 2, 1) ∧ decode cLa_law 591 = .ok (.aload_n 0, 1) ∧ decode cLa_law 592 = .ok (.iload 4, 2) ∧ decode cLa_law 594 = .ok (.iconst 1, 1) ∧ decode cLa_law 595 = .ok (.iadd, 1) ∧ decode cLa_law 596 = .ok (.iaload, 1) ∧ decode cLa_law 597 = .ok (.aload_n 0, 1) ∧ decode cLa_law 598 = .ok (.iload 4, 2) ∧ decode cLa_law 600 = .ok (.iconst 2, 1) ∧ decode cLa_law 601 = .ok (.iadd, 1) ∧ decode cLa_law 602 = .ok (.iaload, 1) := by decide +kernel
theorem dLa_law_580 : decode cLa_law 580 = .ok (.goto 4, 3) := dqLa_law_336.1
theorem dLa_law_583 : decode cLa_law 583 = .ok (.iconst 0, 1) := dqLa_law_336.2.1
theorem dLa_law_584 : decode cLa_law 584 = .ok (.aload_n 3, 1) := dqLa_law_336.2.2.1
theorem dLa_law_585 : decode cLa_law 585 = .ok (.invokestatic 82, 3) := dqLa_law_336.2.2.2.1
theorem dLa_law_588 : decode cLa_law 588 = .ok (.istore 5, 2) := dqLa_law_336.2.2.2.2.1
theorem dLa_law_590 : decode cLa_law 590 = .ok (.aload_n 2, 1) := dqLa_law_336.2.2.2.2.2.1
theorem dLa_law_591 : decode cLa_law 591 = .ok (.aload_n 0, 1) := dqLa_law_336.2.2.2.2.2.2.1
theorem dLa_law_592 : decode cLa_law 592 = .ok (.iload 4, 2) := dqLa_law_336.2.2.2.2.2.2.2.1
theorem dLa_law_594 : decode cLa_law 594 = .ok (.iconst 1, 1) := dqLa_law_336.2.2.2.2.2.2.2.2.1
theorem dLa_law_595 : decode cLa_law 595 = .ok (.iadd, 1) := dqLa_law_336.2.2.2.2.2.2.2.2.2.1
theorem dLa_law_596 : decode cLa_law 596 = .ok (.iaload, 1) := dqLa_law_336.2.2.2.2.2.2.2.2.2.2.1
theorem dLa_law_597 : decode cLa_law 597 = .ok (.aload_n 0, 1) := dqLa_law_336.2.2.2.2.2.2.2.2.2.2.2.1
theorem dLa_law_598 : decode cLa_law 598 = .ok (.iload 4, 2) := dqLa_law_336.2.2.2.2.2.2.2.2.2.2.2.2.1
theorem dLa_law_600 : decode cLa_law 600 = .ok (.iconst 2, 1) := dqLa_law_336.2.2.2.2.2.2.2.2.2.2.2.2.2.1
theorem dLa_law_601 : decode cLa_law 601 = .ok (.iadd, 1) := dqLa_law_336.2.2.2.2.2.2.2.2.2.2.2.2.2.2.1
theorem dLa_law_602 : decode cLa_law 602 = .ok (.iaload, 1) := dqLa_law_336.2.2.2.2.2.2.2.2.2.2.2.2.2.2.2
theorem dqLa_law_352 : decode cLa_law 603 = .ok (.ifCond .eq 7, 3) ∧ decode cLa_law 606 = .ok (.iconst 1, 1) ∧ decode cLa_law 607 = .ok (.goto 4, 3) ∧ decode cLa_law 610 = .ok (.iconst 0, 1) ∧ decode cLa_law 611 = .ok (.invokevirtual 85, 3) ∧ decode cLa_law 614 = .ok (.istore 6, 2) ∧ decode cLa_law 616 = .ok (.aload_n 2, 1) ∧ decode cLa_law 617 = .ok (.invokevirtual 61, 3) ∧ decode cLa_law 620 = .ok (.iload 5, 2) ∧ decode cLa_law 622 = .ok (.if_icmp .eq 5, 3) ∧ decode cLa_law 625 = .ok (.iconst 0, 1) ∧ decode cLa_law 626 = .ok (.ireturn, 1) ∧ decode cLa_law 627 = .ok (.iload 5, 2) ∧ decode cLa_law 629 = .ok (.ifCond .ne 15, 3) ∧ decode cLa_law 632 = .ok (.aload_n 3, 1) ∧ decode cLa_law 633 = .ok (.iconst 0, 1) := by decide +kernel
theorem dLa_law_603 : decode cLa_law 603 = .ok (.ifCond .eq 7, 3) := dqLa_law_352.1
theorem dLa_law_606 : decode cLa_law 606 = .ok (.iconst 1, 1) := dqLa_law_352.2.1
theorem dLa_law_607 : decode cLa_law 607 = .ok (.goto 4, 3) := dqLa_law_352.2.2.1
theorem dLa_law_610 : decode cLa_law 610 = .ok (.iconst 0, 1) := dqLa_law_352.2.2.2.1
theorem dLa_law_611 : decode cLa_law 611 = .ok (.invokevirtual 85, 3) := dqLa_law_352.2.2.2.2.1
theorem dLa_law_614 : decode cLa_law 614 = .ok (.istore 6, 2) := dqLa_law_352.2.2.2.2.2.1
theorem dLa_law_616 : decode cLa_law 616 = .ok (.aload_n 2, 1) := dqLa_law_352.2.2.2.2.2.2.1
theorem dLa_law_617 : decode cLa_law 617 = .ok (.invokevirtual 61, 3) := dqLa_law_352.2.2.2.2.2.2.2.1
theorem dLa_law_620 : decode cLa_law 620 = .ok (.iload 5, 2) := dqLa_law_352.2.2.2.2.2.2.2.2.1
theorem dLa_law_622 : decode cLa_law 622 = .ok (.if_icmp .eq 5, 3) := dqLa_law_352.2.2.2.2.2.2.2.2.2.1
theorem dLa_law_625 : decode cLa_law 625 = .ok (.iconst 0, 1) := dqLa_law_352.2.2.2.2.2.2.2.2.2.2.1
theorem dLa_law_626 : decode cLa_law 626 = .ok (.ireturn, 1) := dqLa_law_352.2.2.2.2.2.2.2.2.2.2.2.1
theorem dLa_law_627 : decode cLa_law 627 = .ok (.iload 5, 2) := dqLa_law_352.2.2.2.2.2.2.2.2.2.2.2.2.1
theorem dLa_law_629 : decode cLa_law 629 = .ok (.ifCond .ne 15, 3) := dqLa_law_352.2.2.2.2.2.2.2.2.2.2.2.2.2.1
theorem dLa_law_632 : decode cLa_law 632 = .ok (.aload_n 3, 1) := dqLa_law_352.2.2.2.2.2.2.2.2.2.2.2.2.2.2.1
theorem dLa_law_633 : decode cLa_law 633 = .ok (.iconst 0, 1) := dqLa_law_352.2.2.2.2.2.2.2.2.2.2.2.2.2.2.2
theorem dqLa_law_368 : decode cLa_law 634 = .ok (.laload, 1) ∧ decode cLa_law 635 = .ok (.iload 6, 2) ∧ decode cLa_law 637 = .ok (.i2l, 1) ∧ decode cLa_law 638 = .ok (.lcmp, 1) ∧ decode cLa_law 639 = .ok (.ifCond .eq 5, 3) ∧ decode cLa_law 642 = .ok (.iconst 0, 1) ∧ decode cLa_law 643 = .ok (.ireturn, 1) ∧ decode cLa_law 644 = .ok (.goto 352, 3) ∧ decode cLa_law 647 = .ok (.aload_n 1, 1) ∧ decode cLa_law 648 = .ok (.aload_n 0, 1) ∧ decode cLa_law 649 = .ok (.iload 4, 2) ∧ decode cLa_law 651 = .ok (.iconst 1, 1) ∧ decode cLa_law 652 = .ok (.iadd, 1) ∧ decode cLa_law 653 = .ok (.iaload, 1) ∧ decode cLa_law 654 = .ok (.aload_n 0, 1) ∧ decode cLa_law 655 = .ok (.iload 4, 2) := by decide +kernel
theorem dLa_law_634 : decode cLa_law 634 = .ok (.laload, 1) := dqLa_law_368.1
theorem dLa_law_635 : decode cLa_law 635 = .ok (.iload 6, 2) := dqLa_law_368.2.1
theorem dLa_law_637 : decode cLa_law 637 = .ok (.i2l, 1) := dqLa_law_368.2.2.1
theorem dLa_law_638 : decode cLa_law 638 = .ok (.lcmp, 1) := dqLa_law_368.2.2.2.1
theorem dLa_law_639 : decode cLa_law 639 = .ok (.ifCond .eq 5, 3) := dqLa_law_368.2.2.2.2.1
theorem dLa_law_642 : decode cLa_law 642 = .ok (.iconst 0, 1) := dqLa_law_368.2.2.2.2.2.1
theorem dLa_law_643 : decode cLa_law 643 = .ok (.ireturn, 1) := dqLa_law_368.2.2.2.2.2.2.1
theorem dLa_law_644 : decode cLa_law 644 = .ok (.goto 352, 3) := dqLa_law_368.2.2.2.2.2.2.2.1
theorem dLa_law_647 : decode cLa_law 647 = .ok (.aload_n 1, 1) := dqLa_law_368.2.2.2.2.2.2.2.2.1
theorem dLa_law_648 : decode cLa_law 648 = .ok (.aload_n 0, 1) := dqLa_law_368.2.2.2.2.2.2.2.2.2.1
theorem dLa_law_649 : decode cLa_law 649 = .ok (.iload 4, 2) := dqLa_law_368.2.2.2.2.2.2.2.2.2.2.1
theorem dLa_law_651 : decode cLa_law 651 = .ok (.iconst 1, 1) := dqLa_law_368.2.2.2.2.2.2.2.2.2.2.2.1
theorem dLa_law_652 : decode cLa_law 652 = .ok (.iadd, 1) := dqLa_law_368.2.2.2.2.2.2.2.2.2.2.2.2.1
theorem dLa_law_653 : decode cLa_law 653 = .ok (.iaload, 1) := dqLa_law_368.2.2.2.2.2.2.2.2.2.2.2.2.2.1
theorem dLa_law_654 : decode cLa_law 654 = .ok (.aload_n 0, 1) := dqLa_law_368.2.2.2.2.2.2.2.2.2.2.2.2.2.2.1
theorem dLa_law_655 : decode cLa_law 655 = .ok (.iload 4, 2) := dqLa_law_368.2.2.2.2.2.2.2.2.2.2.2.2.2.2.2
theorem dqLa_law_384 : decode cLa_law 657 = .ok (.iconst 2, 1) ∧ decode cLa_law 658 = .ok (.iadd, 1) ∧ decode cLa_law 659 = .ok (.iaload, 1) ∧ decode cLa_law 660 = .ok (.aload_n 0, 1) ∧ decode cLa_law 661 = .ok (.iload 4, 2) ∧ decode cLa_law 663 = .ok (.iconst 3, 1) ∧ decode cLa_law 664 = .ok (.iadd, 1) ∧ decode cLa_law 665 = .ok (.iaload, 1) ∧ decode cLa_law 666 = .ok (.aload_n 3, 1) ∧ decode cLa_law 667 = .ok (.invokestatic 86, 3) ∧ decode cLa_law 670 = .ok (.istore 5, 2) ∧ decode cLa_law 672 = .ok (.aload_n 2, 1) ∧ decode cLa_law 673 = .ok (.aload_n 0, 1) ∧ decode cLa_law 674 = .ok (.iload 4, 2) ∧ decode cLa_law 676 = .ok (.iconst 1, 1) ∧ decode cLa_law 677 = .ok (.iadd, 1) := by decide +kernel
theorem dLa_law_657 : decode cLa_law 657 = .ok (.iconst 2, 1) := dqLa_law_384.1
theorem dLa_law_658 : decode cLa_law 658 = .ok (.iadd, 1) := dqLa_law_384.2.1
theorem dLa_law_659 : decode cLa_law 659 = .ok (.iaload, 1) := dqLa_law_384.2.2.1
theorem dLa_law_660 : decode cLa_law 660 = .ok (.aload_n 0, 1) := dqLa_law_384.2.2.2.1
theorem dLa_law_661 : decode cLa_law 661 = .ok (.iload 4, 2) := dqLa_law_384.2.2.2.2.1
theorem dLa_law_663 : decode cLa_law 663 = .ok (.iconst 3, 1) := dqLa_law_384.2.2.2.2.2.1
theorem dLa_law_664 : decode cLa_law 664 = .ok (.iadd, 1) := dqLa_law_384.2.2.2.2.2.2.1
theorem dLa_law_665 : decode cLa_law 665 = .ok (.iaload, 1) := dqLa_law_384.2.2.2.2.2.2.2.1
theorem dLa_law_666 : decode cLa_law 666 = .ok (.aload_n 3, 1) := dqLa_law_384.2.2.2.2.2.2.2.2.1
theorem dLa_law_667 : decode cLa_law 667 = .ok (.invokestatic 86, 3) := dqLa_law_384.2.2.2.2.2.2.2.2.2.1
theorem dLa_law_670 : decode cLa_law 670 = .ok (.istore 5, 2) := dqLa_law_384.2.2.2.2.2.2.2.2.2.2.1
theorem dLa_law_672 : decode cLa_law 672 = .ok (.aload_n 2, 1) := dqLa_law_384.2.2.2.2.2.2.2.2.2.2.2.1
theorem dLa_law_673 : decode cLa_law 673 = .ok (.aload_n 0, 1) := dqLa_law_384.2.2.2.2.2.2.2.2.2.2.2.2.1
theorem dLa_law_674 : decode cLa_law 674 = .ok (.iload 4, 2) := dqLa_law_384.2.2.2.2.2.2.2.2.2.2.2.2.2.1
theorem dLa_law_676 : decode cLa_law 676 = .ok (.iconst 1, 1) := dqLa_law_384.2.2.2.2.2.2.2.2.2.2.2.2.2.2.1
theorem dLa_law_677 : decode cLa_law 677 = .ok (.iadd, 1) := dqLa_law_384.2.2.2.2.2.2.2.2.2.2.2.2.2.2.2
theorem dqLa_law_400 : decode cLa_law 678 = .ok (.iaload, 1) ∧ decode cLa_law 679 = .ok (.aload_n 0, 1) ∧ decode cLa_law 680 = .ok (.iload 4, 2) ∧ decode cLa_law 682 = .ok (.iconst 2, 1) ∧ decode cLa_law 683 = .ok (.iadd, 1) ∧ decode cLa_law 684 = .ok (.iaload, 1) ∧ decode cLa_law 685 = .ok (.aload_n 0, 1) ∧ decode cLa_law 686 = .ok (.iload 4, 2) ∧ decode cLa_law 688 = .ok (.iconst 3, 1) ∧ decode cLa_law 689 = .ok (.iadd, 1) ∧ decode cLa_law 690 = .ok (.iaload, 1) ∧ decode cLa_law 691 = .ok (.invokevirtual 89, 3) ∧ decode cLa_law 694 = .ok (.istore 6, 2) ∧ decode cLa_law 696 = .ok (.aload_n 2, 1) ∧ decode cLa_law 697 = .ok (.invokevirtual 61, 3) ∧ decode cLa_law 700 = .ok (.iload 5, 2) := by decide +kernel
theorem dLa_law_678 : decode cLa_law 678 = .ok (.iaload, 1) := dqLa_law_400.1
theorem dLa_law_679 : decode cLa_law 679 = .ok (.aload_n 0, 1) := dqLa_law_400.2.1
theorem dLa_law_680 : decode cLa_law 680 = .ok (.iload 4, 2) := dqLa_law_400.2.2.1
theorem dLa_law_682 : decode cLa_law 682 = .ok (.iconst 2, 1) := dqLa_law_400.2.2.2.1
theorem dLa_law_683 : decode cLa_law 683 = .ok (.iadd, 1) := dqLa_law_400.2.2.2.2.1
theorem dLa_law_684 : decode cLa_law 684 = .ok (.iaload, 1) := dqLa_law_400.2.2.2.2.2.1
theorem dLa_law_685 : decode cLa_law 685 = .ok (.aload_n 0, 1) := dqLa_law_400.2.2.2.2.2.2.1
theorem dLa_law_686 : decode cLa_law 686 = .ok (.iload 4, 2) := dqLa_law_400.2.2.2.2.2.2.2.1
theorem dLa_law_688 : decode cLa_law 688 = .ok (.iconst 3, 1) := dqLa_law_400.2.2.2.2.2.2.2.2.1
theorem dLa_law_689 : decode cLa_law 689 = .ok (.iadd, 1) := dqLa_law_400.2.2.2.2.2.2.2.2.2.1
theorem dLa_law_690 : decode cLa_law 690 = .ok (.iaload, 1) := dqLa_law_400.2.2.2.2.2.2.2.2.2.2.1
theorem dLa_law_691 : decode cLa_law 691 = .ok (.invokevirtual 89, 3) := dqLa_law_400.2.2.2.2.2.2.2.2.2.2.2.1
theorem dLa_law_694 : decode cLa_law 694 = .ok (.istore 6, 2) := dqLa_law_400.2.2.2.2.2.2.2.2.2.2.2.2.1
theorem dLa_law_696 : decode cLa_law 696 = .ok (.aload_n 2, 1) := dqLa_law_400.2.2.2.2.2.2.2.2.2.2.2.2.2.1
theorem dLa_law_697 : decode cLa_law 697 = .ok (.invokevirtual 61, 3) := dqLa_law_400.2.2.2.2.2.2.2.2.2.2.2.2.2.2.1
theorem dLa_law_700 : decode cLa_law 700 = .ok (.iload 5, 2) := dqLa_law_400.2.2.2.2.2.2.2.2.2.2.2.2.2.2.2
theorem dqLa_law_416 : decode cLa_law 702 = .ok (.if_icmp .eq 5, 3) ∧ decode cLa_law 705 = .ok (.iconst 0, 1) ∧ decode cLa_law 706 = .ok (.ireturn, 1) ∧ decode cLa_law 707 = .ok (.iload 5, 2) ∧ decode cLa_law 709 = .ok (.ifCond .ne 22, 3) ∧ decode cLa_law 712 = .ok (.aload_n 3, 1) ∧ decode cLa_law 713 = .ok (.iconst 0, 1) ∧ decode cLa_law 714 = .ok (.laload, 1) ∧ decode cLa_law 715 = .ok (.iload 6, 2) ∧ decode cLa_law 717 = .ok (.ifCond .eq 7, 3) ∧ decode cLa_law 720 = .ok (.lconst 1, 1) ∧ decode cLa_law 721 = .ok (.goto 4, 3) ∧ decode cLa_law 724 = .ok (.lconst 0, 1) ∧ decode cLa_law 725 = .ok (.lcmp, 1) ∧ decode cLa_law 726 = .ok (.ifCond .eq 5, 3) ∧ decode cLa_law 729 = .ok (.iconst 0, 1) := by decide +kernel
theorem dLa_law_702 : decode cLa_law 702 = .ok (.if_icmp .eq 5, 3) := dqLa_law_416.1
theorem dLa_law_705 : decode cLa_law 705 = .ok (.iconst 0, 1) := dqLa_law_416.2.1
theorem dLa_law_706 : decode cLa_law 706 = .ok (.ireturn, 1) := dqLa_law_416.2.2.1
theorem dLa_law_707 : decode cLa_law 707 = .ok (.iload 5, 2) := dqLa_law_416.2.2.2.1
theorem dLa_law_709 : decode cLa_law 709 = .ok (.ifCond .ne 22, 3) := dqLa_law_416.2.2.2.2.1
theorem dLa_law_712 : decode cLa_law 712 = .ok (.aload_n 3, 1) := dqLa_law_416.2.2.2.2.2.1
theorem dLa_law_713 : decode cLa_law 713 = .ok (.iconst 0, 1) := dqLa_law_416.2.2.2.2.2.2.1
theorem dLa_law_714 : decode cLa_law 714 = .ok (.laload, 1) := dqLa_law_416.2.2.2.2.2.2.2.1
theorem dLa_law_715 : decode cLa_law 715 = .ok (.iload 6, 2) := dqLa_law_416.2.2.2.2.2.2.2.2.1
theorem dLa_law_717 : decode cLa_law 717 = .ok (.ifCond .eq 7, 3) := dqLa_law_416.2.2.2.2.2.2.2.2.2.1
theorem dLa_law_720 : decode cLa_law 720 = .ok (.lconst 1, 1) := dqLa_law_416.2.2.2.2.2.2.2.2.2.2.1
theorem dLa_law_721 : decode cLa_law 721 = .ok (.goto 4, 3) := dqLa_law_416.2.2.2.2.2.2.2.2.2.2.2.1
theorem dLa_law_724 : decode cLa_law 724 = .ok (.lconst 0, 1) := dqLa_law_416.2.2.2.2.2.2.2.2.2.2.2.2.1
theorem dLa_law_725 : decode cLa_law 725 = .ok (.lcmp, 1) := dqLa_law_416.2.2.2.2.2.2.2.2.2.2.2.2.2.1
theorem dLa_law_726 : decode cLa_law 726 = .ok (.ifCond .eq 5, 3) := dqLa_law_416.2.2.2.2.2.2.2.2.2.2.2.2.2.2.1
theorem dLa_law_729 : decode cLa_law 729 = .ok (.iconst 0, 1) := dqLa_law_416.2.2.2.2.2.2.2.2.2.2.2.2.2.2.2
theorem dqLa_law_432 : decode cLa_law 730 = .ok (.ireturn, 1) ∧ decode cLa_law 731 = .ok (.goto 265, 3) ∧ decode cLa_law 734 = .ok (.aload_n 1, 1) ∧ decode cLa_law 735 = .ok (.invokevirtual 90, 3) ∧ decode cLa_law 738 = .ok (.aload_n 2, 1) ∧ decode cLa_law 739 = .ok (.invokevirtual 93, 3) ∧ decode cLa_law 742 = .ok (.if_icmp .eq 254, 3) ∧ decode cLa_law 745 = .ok (.iconst 0, 1) ∧ decode cLa_law 746 = .ok (.ireturn, 1) ∧ decode cLa_law 747 = .ok (.aload_n 1, 1) ∧ decode cLa_law 748 = .ok (.aload_n 0, 1) ∧ decode cLa_law 749 = .ok (.iload 4, 2) ∧ decode cLa_law 751 = .ok (.iconst 1, 1) ∧ decode cLa_law 752 = .ok (.iadd, 1) ∧ decode cLa_law 753 = .ok (.iaload, 1) ∧ decode cLa_law 754 = .ok (.aload_n 3, 1) := by decide +kernel
theorem dLa_law_730 : decode cLa_law 730 = .ok (.ireturn, 1) := dqLa_law_432.1
theorem dLa_law_731 : decode cLa_law 731 = .ok (.goto 265, 3) := dqLa_law_432.2.1
theorem dLa_law_734 : decode cLa_law 734 = .ok (.aload_n 1, 1) := dqLa_law_432.2.2.1
theorem dLa_law_735 : decode cLa_law 735 = .ok (.invokevirtual 90, 3) := dqLa_law_432.2.2.2.1
theorem dLa_law_738 : decode cLa_law 738 = .ok (.aload_n 2, 1) := dqLa_law_432.2.2.2.2.1
theorem dLa_law_739 : decode cLa_law 739 = .ok (.invokevirtual 93, 3) := dqLa_law_432.2.2.2.2.2.1
theorem dLa_law_742 : decode cLa_law 742 = .ok (.if_icmp .eq 254, 3) := dqLa_law_432.2.2.2.2.2.2.1
theorem dLa_law_745 : decode cLa_law 745 = .ok (.iconst 0, 1) := dqLa_law_432.2.2.2.2.2.2.2.1
theorem dLa_law_746 : decode cLa_law 746 = .ok (.ireturn, 1) := dqLa_law_432.2.2.2.2.2.2.2.2.1
theorem dLa_law_747 : decode cLa_law 747 = .ok (.aload_n 1, 1) := dqLa_law_432.2.2.2.2.2.2.2.2.2.1
theorem dLa_law_748 : decode cLa_law 748 = .ok (.aload_n 0, 1) := dqLa_law_432.2.2.2.2.2.2.2.2.2.2.1
theorem dLa_law_749 : decode cLa_law 749 = .ok (.iload 4, 2) := dqLa_law_432.2.2.2.2.2.2.2.2.2.2.2.1
theorem dLa_law_751 : decode cLa_law 751 = .ok (.iconst 1, 1) := dqLa_law_432.2.2.2.2.2.2.2.2.2.2.2.2.1
theorem dLa_law_752 : decode cLa_law 752 = .ok (.iadd, 1) := dqLa_law_432.2.2.2.2.2.2.2.2.2.2.2.2.2.1
theorem dLa_law_753 : decode cLa_law 753 = .ok (.iaload, 1) := dqLa_law_432.2.2.2.2.2.2.2.2.2.2.2.2.2.2.1
theorem dLa_law_754 : decode cLa_law 754 = .ok (.aload_n 3, 1) := dqLa_law_432.2.2.2.2.2.2.2.2.2.2.2.2.2.2.2
theorem dqLa_law_448 : decode cLa_law 755 = .ok (.invokestatic 94, 3) ∧ decode cLa_law 758 = .ok (.istore 5, 2) ∧ decode cLa_law 760 = .ok (.aload_n 2, 1) ∧ decode cLa_law 761 = .ok (.aload_n 0, 1) ∧ decode cLa_law 762 = .ok (.iload 4, 2) ∧ decode cLa_law 764 = .ok (.iconst 1, 1) ∧ decode cLa_law 765 = .ok (.iadd, 1) ∧ decode cLa_law 766 = .ok (.iaload, 1) ∧ decode cLa_law 767 = .ok (.invokevirtual 96, 3) ∧ decode cLa_law 770 = .ok (.istore 6, 2) ∧ decode cLa_law 772 = .ok (.aload_n 2, 1) ∧ decode cLa_law 773 = .ok (.invokevirtual 61, 3) ∧ decode cLa_law 776 = .ok (.iload 5, 2) ∧ decode cLa_law 778 = .ok (.if_icmp .eq 5, 3) ∧ decode cLa_law 781 = .ok (.iconst 0, 1) ∧ decode cLa_law 782 = .ok (.ireturn, 1) := by decide +kernel
theorem dLa_law_755 : decode cLa_law 755 = .ok (.invokestatic 94, 3) := dqLa_law_448.1
theorem dLa_law_758 : decode cLa_law 758 = .ok (.istore 5, 2) := dqLa_law_448.2.1
theorem dLa_law_760 : decode cLa_law 760 = .ok (.aload_n 2, 1) := dqLa_law_448.2.2.1
theorem dLa_law_761 : decode cLa_law 761 = .ok (.aload_n 0, 1) := dqLa_law_448.2.2.2.1
theorem dLa_law_762 : decode cLa_law 762 = .ok (.iload 4, 2) := dqLa_law_448.2.2.2.2.1
theorem dLa_law_764 : decode cLa_law 764 = .ok (.iconst 1, 1) := dqLa_law_448.2.2.2.2.2.1
theorem dLa_law_765 : decode cLa_law 765 = .ok (.iadd, 1) := dqLa_law_448.2.2.2.2.2.2.1
theorem dLa_law_766 : decode cLa_law 766 = .ok (.iaload, 1) := dqLa_law_448.2.2.2.2.2.2.2.1
theorem dLa_law_767 : decode cLa_law 767 = .ok (.invokevirtual 96, 3) := dqLa_law_448.2.2.2.2.2.2.2.2.1
theorem dLa_law_770 : decode cLa_law 770 = .ok (.istore 6, 2) := dqLa_law_448.2.2.2.2.2.2.2.2.2.1
theorem dLa_law_772 : decode cLa_law 772 = .ok (.aload_n 2, 1) := dqLa_law_448.2.2.2.2.2.2.2.2.2.2.1
theorem dLa_law_773 : decode cLa_law 773 = .ok (.invokevirtual 61, 3) := dqLa_law_448.2.2.2.2.2.2.2.2.2.2.2.1
theorem dLa_law_776 : decode cLa_law 776 = .ok (.iload 5, 2) := dqLa_law_448.2.2.2.2.2.2.2.2.2.2.2.2.1
theorem dLa_law_778 : decode cLa_law 778 = .ok (.if_icmp .eq 5, 3) := dqLa_law_448.2.2.2.2.2.2.2.2.2.2.2.2.2.1
theorem dLa_law_781 : decode cLa_law 781 = .ok (.iconst 0, 1) := dqLa_law_448.2.2.2.2.2.2.2.2.2.2.2.2.2.2.1
theorem dLa_law_782 : decode cLa_law 782 = .ok (.ireturn, 1) := dqLa_law_448.2.2.2.2.2.2.2.2.2.2.2.2.2.2.2
theorem dqLa_law_464 : decode cLa_law 783 = .ok (.iload 5, 2) ∧ decode cLa_law 785 = .ok (.ifCond .ne 15, 3) ∧ decode cLa_law 788 = .ok (.aload_n 3, 1) ∧ decode cLa_law 789 = .ok (.iconst 0, 1) ∧ decode cLa_law 790 = .ok (.laload, 1) ∧ decode cLa_law 791 = .ok (.iload 6, 2) ∧ decode cLa_law 793 = .ok (.i2l, 1) ∧ decode cLa_law 794 = .ok (.lcmp, 1) ∧ decode cLa_law 795 = .ok (.ifCond .eq 5, 3) ∧ decode cLa_law 798 = .ok (.iconst 0, 1) ∧ decode cLa_law 799 = .ok (.ireturn, 1) ∧ decode cLa_law 800 = .ok (.goto 196, 3) ∧ decode cLa_law 803 = .ok (.aload_n 1, 1) ∧ decode cLa_law 804 = .ok (.aload_n 0, 1) ∧ decode cLa_law 805 = .ok (.iload 4, 2) ∧ decode cLa_law 807 = .ok (.iconst 1, 1) := by decide +kernel
theorem dLa_law_783 : decode cLa_law 783 = .ok (.iload 5, 2) := dqLa_law_464.1
theorem dLa_law_785 : decode cLa_law 785 = .ok (.ifCond .ne 15, 3) := dqLa_law_464.2.1
theorem dLa_law_788 : decode cLa_law 788 = .ok (.aload_n 3, 1) := dqLa_law_464.2.2.1
theorem dLa_law_789 : decode cLa_law 789 = .ok (.iconst 0, 1) := dqLa_law_464.2.2.2.1
theorem dLa_law_790 : decode cLa_law 790 = .ok (.laload, 1) := dqLa_law_464.2.2.2.2.1
theorem dLa_law_791 : decode cLa_law 791 = .ok (.iload 6, 2) := dqLa_law_464.2.2.2.2.2.1
theorem dLa_law_793 : decode cLa_law 793 = .ok (.i2l, 1) := dqLa_law_464.2.2.2.2.2.2.1
theorem dLa_law_794 : decode cLa_law 794 = .ok (.lcmp, 1) := dqLa_law_464.2.2.2.2.2.2.2.1
theorem dLa_law_795 : decode cLa_law 795 = .ok (.ifCond .eq 5, 3) := dqLa_law_464.2.2.2.2.2.2.2.2.1
theorem dLa_law_798 : decode cLa_law 798 = .ok (.iconst 0, 1) := dqLa_law_464.2.2.2.2.2.2.2.2.2.1
theorem dLa_law_799 : decode cLa_law 799 = .ok (.ireturn, 1) := dqLa_law_464.2.2.2.2.2.2.2.2.2.2.1
theorem dLa_law_800 : decode cLa_law 800 = .ok (.goto 196, 3) := dqLa_law_464.2.2.2.2.2.2.2.2.2.2.2.1
theorem dLa_law_803 : decode cLa_law 803 = .ok (.aload_n 1, 1) := dqLa_law_464.2.2.2.2.2.2.2.2.2.2.2.2.1
theorem dLa_law_804 : decode cLa_law 804 = .ok (.aload_n 0, 1) := dqLa_law_464.2.2.2.2.2.2.2.2.2.2.2.2.2.1
theorem dLa_law_805 : decode cLa_law 805 = .ok (.iload 4, 2) := dqLa_law_464.2.2.2.2.2.2.2.2.2.2.2.2.2.2.1
theorem dLa_law_807 : decode cLa_law 807 = .ok (.iconst 1, 1) := dqLa_law_464.2.2.2.2.2.2.2.2.2.2.2.2.2.2.2
theorem dqLa_law_480 : decode cLa_law 808 = .ok (.iadd, 1) ∧ decode cLa_law 809 = .ok (.iaload, 1) ∧ decode cLa_law 810 = .ok (.invokevirtual 97, 3) ∧ decode cLa_law 813 = .ok (.aload_n 2, 1) ∧ decode cLa_law 814 = .ok (.aload_n 0, 1) ∧ decode cLa_law 815 = .ok (.iload 4, 2) ∧ decode cLa_law 817 = .ok (.iconst 1, 1) ∧ decode cLa_law 818 = .ok (.iadd, 1) ∧ decode cLa_law 819 = .ok (.iaload, 1) ∧ decode cLa_law 820 = .ok (.invokevirtual 100, 3) ∧ decode cLa_law 823 = .ok (.if_icmp .eq 173, 3) ∧ decode cLa_law 826 = .ok (.iconst 0, 1) ∧ decode cLa_law 827 = .ok (.ireturn, 1) ∧ decode cLa_law 828 = .ok (.aload_n 1, 1) ∧ decode cLa_law 829 = .ok (.invokevirtual 101, 3) ∧ decode cLa_law 832 = .ok (.aload_n 2, 1) := by decide +kernel
theorem dLa_law_808 : decode cLa_law 808 = .ok (.iadd, 1) := dqLa_law_480.1
theorem dLa_law_809 : decode cLa_law 809 = .ok (.iaload, 1) := dqLa_law_480.2.1
theorem dLa_law_810 : decode cLa_law 810 = .ok (.invokevirtual 97, 3) := dqLa_law_480.2.2.1
theorem dLa_law_813 : decode cLa_law 813 = .ok (.aload_n 2, 1) := dqLa_law_480.2.2.2.1
theorem dLa_law_814 : decode cLa_law 814 = .ok (.aload_n 0, 1) := dqLa_law_480.2.2.2.2.1
theorem dLa_law_815 : decode cLa_law 815 = .ok (.iload 4, 2) := dqLa_law_480.2.2.2.2.2.1
theorem dLa_law_817 : decode cLa_law 817 = .ok (.iconst 1, 1) := dqLa_law_480.2.2.2.2.2.2.1
theorem dLa_law_818 : decode cLa_law 818 = .ok (.iadd, 1) := dqLa_law_480.2.2.2.2.2.2.2.1
theorem dLa_law_819 : decode cLa_law 819 = .ok (.iaload, 1) := dqLa_law_480.2.2.2.2.2.2.2.2.1
theorem dLa_law_820 : decode cLa_law 820 = .ok (.invokevirtual 100, 3) := dqLa_law_480.2.2.2.2.2.2.2.2.2.1
theorem dLa_law_823 : decode cLa_law 823 = .ok (.if_icmp .eq 173, 3) := dqLa_law_480.2.2.2.2.2.2.2.2.2.2.1
theorem dLa_law_826 : decode cLa_law 826 = .ok (.iconst 0, 1) := dqLa_law_480.2.2.2.2.2.2.2.2.2.2.2.1
theorem dLa_law_827 : decode cLa_law 827 = .ok (.ireturn, 1) := dqLa_law_480.2.2.2.2.2.2.2.2.2.2.2.2.1
theorem dLa_law_828 : decode cLa_law 828 = .ok (.aload_n 1, 1) := dqLa_law_480.2.2.2.2.2.2.2.2.2.2.2.2.2.1
theorem dLa_law_829 : decode cLa_law 829 = .ok (.invokevirtual 101, 3) := dqLa_law_480.2.2.2.2.2.2.2.2.2.2.2.2.2.2.1
theorem dLa_law_832 : decode cLa_law 832 = .ok (.aload_n 2, 1) := dqLa_law_480.2.2.2.2.2.2.2.2.2.2.2.2.2.2.2
theorem dqLa_law_496 : decode cLa_law 833 = .ok (.invokevirtual 104, 3) ∧ decode cLa_law 836 = .ok (.if_icmp .eq 160, 3) ∧ decode cLa_law 839 = .ok (.iconst 0, 1) ∧ decode cLa_law 840 = .ok (.ireturn, 1) ∧ decode cLa_law 841 = .ok (.aload_n 1, 1) ∧ decode cLa_law 842 = .ok (.aload_n 0, 1) ∧ decode cLa_law 843 = .ok (.iload 4, 2) ∧ decode cLa_law 845 = .ok (.iconst 1, 1) ∧ decode cLa_law 846 = .ok (.iadd, 1) ∧ decode cLa_law 847 = .ok (.iaload, 1) ∧ decode cLa_law 848 = .ok (.invokevirtual 105, 3) ∧ decode cLa_law 851 = .ok (.aload_n 2, 1) ∧ decode cLa_law 852 = .ok (.aload_n 0, 1) ∧ decode cLa_law 853 = .ok (.iload 4, 2) ∧ decode cLa_law 855 = .ok (.iconst 1, 1) ∧ decode cLa_law 856 = .ok (.iadd, 1) := by decide +kernel
theorem dLa_law_833 : decode cLa_law 833 = .ok (.invokevirtual 104, 3) := dqLa_law_496.1
theorem dLa_law_836 : decode cLa_law 836 = .ok (.if_icmp .eq 160, 3) := dqLa_law_496.2.1
theorem dLa_law_839 : decode cLa_law 839 = .ok (.iconst 0, 1) := dqLa_law_496.2.2.1
theorem dLa_law_840 : decode cLa_law 840 = .ok (.ireturn, 1) := dqLa_law_496.2.2.2.1
theorem dLa_law_841 : decode cLa_law 841 = .ok (.aload_n 1, 1) := dqLa_law_496.2.2.2.2.1
theorem dLa_law_842 : decode cLa_law 842 = .ok (.aload_n 0, 1) := dqLa_law_496.2.2.2.2.2.1
theorem dLa_law_843 : decode cLa_law 843 = .ok (.iload 4, 2) := dqLa_law_496.2.2.2.2.2.2.1
theorem dLa_law_845 : decode cLa_law 845 = .ok (.iconst 1, 1) := dqLa_law_496.2.2.2.2.2.2.2.1
theorem dLa_law_846 : decode cLa_law 846 = .ok (.iadd, 1) := dqLa_law_496.2.2.2.2.2.2.2.2.1
theorem dLa_law_847 : decode cLa_law 847 = .ok (.iaload, 1) := dqLa_law_496.2.2.2.2.2.2.2.2.2.1
theorem dLa_law_848 : decode cLa_law 848 = .ok (.invokevirtual 105, 3) := dqLa_law_496.2.2.2.2.2.2.2.2.2.2.1
theorem dLa_law_851 : decode cLa_law 851 = .ok (.aload_n 2, 1) := dqLa_law_496.2.2.2.2.2.2.2.2.2.2.2.1
theorem dLa_law_852 : decode cLa_law 852 = .ok (.aload_n 0, 1) := dqLa_law_496.2.2.2.2.2.2.2.2.2.2.2.2.1
theorem dLa_law_853 : decode cLa_law 853 = .ok (.iload 4, 2) := dqLa_law_496.2.2.2.2.2.2.2.2.2.2.2.2.2.1
theorem dLa_law_855 : decode cLa_law 855 = .ok (.iconst 1, 1) := dqLa_law_496.2.2.2.2.2.2.2.2.2.2.2.2.2.2.1
theorem dLa_law_856 : decode cLa_law 856 = .ok (.iadd, 1) := dqLa_law_496.2.2.2.2.2.2.2.2.2.2.2.2.2.2.2
theorem dqLa_law_512 : decode cLa_law 857 = .ok (.iaload, 1) ∧ decode cLa_law 858 = .ok (.invokevirtual 108, 3) ∧ decode cLa_law 861 = .ok (.if_icmp .eq 135, 3) ∧ decode cLa_law 864 = .ok (.iconst 0, 1) ∧ decode cLa_law 865 = .ok (.ireturn, 1) ∧ decode cLa_law 866 = .ok (.aload_n 1, 1) ∧ decode cLa_law 867 = .ok (.aload_n 0, 1) ∧ decode cLa_law 868 = .ok (.iload 4, 2) ∧ decode cLa_law 870 = .ok (.iconst 1, 1) ∧ decode cLa_law 871 = .ok (.iadd, 1) ∧ decode cLa_law 872 = .ok (.iaload, 1) ∧ decode cLa_law 873 = .ok (.invokevirtual 109, 3) ∧ decode cLa_law 876 = .ok (.aload_n 2, 1) ∧ decode cLa_law 877 = .ok (.aload_n 0, 1) ∧ decode cLa_law 878 = .ok (.iload 4, 2) ∧ decode cLa_law 880 = .ok (.iconst 1, 1) := by decide +kernel
theorem dLa_law_857 : decode cLa_law 857 = .ok (.iaload, 1) := dqLa_law_512.1
theorem dLa_law_858 : decode cLa_law 858 = .ok (.invokevirtual 108, 3) := dqLa_law_512.2.1
theorem dLa_law_861 : decode cLa_law 861 = .ok (.if_icmp .eq 135, 3) := dqLa_law_512.2.2.1
theorem dLa_law_864 : decode cLa_law 864 = .ok (.iconst 0, 1) := dqLa_law_512.2.2.2.1
theorem dLa_law_865 : decode cLa_law 865 = .ok (.ireturn, 1) := dqLa_law_512.2.2.2.2.1
theorem dLa_law_866 : decode cLa_law 866 = .ok (.aload_n 1, 1) := dqLa_law_512.2.2.2.2.2.1
theorem dLa_law_867 : decode cLa_law 867 = .ok (.aload_n 0, 1) := dqLa_law_512.2.2.2.2.2.2.1
theorem dLa_law_868 : decode cLa_law 868 = .ok (.iload 4, 2) := dqLa_law_512.2.2.2.2.2.2.2.1
theorem dLa_law_870 : decode cLa_law 870 = .ok (.iconst 1, 1) := dqLa_law_512.2.2.2.2.2.2.2.2.1
theorem dLa_law_871 : decode cLa_law 871 = .ok (.iadd, 1) := dqLa_law_512.2.2.2.2.2.2.2.2.2.1
theorem dLa_law_872 : decode cLa_law 872 = .ok (.iaload, 1) := dqLa_law_512.2.2.2.2.2.2.2.2.2.2.1
theorem dLa_law_873 : decode cLa_law 873 = .ok (.invokevirtual 109, 3) := dqLa_law_512.2.2.2.2.2.2.2.2.2.2.2.1
theorem dLa_law_876 : decode cLa_law 876 = .ok (.aload_n 2, 1) := dqLa_law_512.2.2.2.2.2.2.2.2.2.2.2.2.1
theorem dLa_law_877 : decode cLa_law 877 = .ok (.aload_n 0, 1) := dqLa_law_512.2.2.2.2.2.2.2.2.2.2.2.2.2.1
theorem dLa_law_878 : decode cLa_law 878 = .ok (.iload 4, 2) := dqLa_law_512.2.2.2.2.2.2.2.2.2.2.2.2.2.2.1
theorem dLa_law_880 : decode cLa_law 880 = .ok (.iconst 1, 1) := dqLa_law_512.2.2.2.2.2.2.2.2.2.2.2.2.2.2.2
theorem dqLa_law_528 : decode cLa_law 881 = .ok (.iadd, 1) ∧ decode cLa_law 882 = .ok (.iaload, 1) ∧ decode cLa_law 883 = .ok (.invokevirtual 113, 3) ∧ decode cLa_law 886 = .ok (.lcmp, 1) ∧ decode cLa_law 887 = .ok (.ifCond .eq 109, 3) ∧ decode cLa_law 890 = .ok (.iconst 0, 1) ∧ decode cLa_law 891 = .ok (.ireturn, 1) ∧ decode cLa_law 892 = .ok (.aload_n 1, 1) ∧ decode cLa_law 893 = .ok (.invokevirtual 114, 3) ∧ decode cLa_law 896 = .ok (.aload_n 2, 1) ∧ decode cLa_law 897 = .ok (.invokevirtual 118, 3) ∧ decode cLa_law 900 = .ok (.lcmp, 1) ∧ decode cLa_law 901 = .ok (.ifCond .eq 95, 3) ∧ decode cLa_law 904 = .ok (.iconst 0, 1) ∧ decode cLa_law 905 = .ok (.ireturn, 1) ∧ decode cLa_law 906 = .ok (.aload_n 1, 1) := by decide +kernel
theorem dLa_law_881 : decode cLa_law 881 = .ok (.iadd, 1) := dqLa_law_528.1
theorem dLa_law_882 : decode cLa_law 882 = .ok (.iaload, 1) := dqLa_law_528.2.1
theorem dLa_law_883 : decode cLa_law 883 = .ok (.invokevirtual 113, 3) := dqLa_law_528.2.2.1
theorem dLa_law_886 : decode cLa_law 886 = .ok (.lcmp, 1) := dqLa_law_528.2.2.2.1
theorem dLa_law_887 : decode cLa_law 887 = .ok (.ifCond .eq 109, 3) := dqLa_law_528.2.2.2.2.1
theorem dLa_law_890 : decode cLa_law 890 = .ok (.iconst 0, 1) := dqLa_law_528.2.2.2.2.2.1
theorem dLa_law_891 : decode cLa_law 891 = .ok (.ireturn, 1) := dqLa_law_528.2.2.2.2.2.2.1
theorem dLa_law_892 : decode cLa_law 892 = .ok (.aload_n 1, 1) := dqLa_law_528.2.2.2.2.2.2.2.1
theorem dLa_law_893 : decode cLa_law 893 = .ok (.invokevirtual 114, 3) := dqLa_law_528.2.2.2.2.2.2.2.2.1
theorem dLa_law_896 : decode cLa_law 896 = .ok (.aload_n 2, 1) := dqLa_law_528.2.2.2.2.2.2.2.2.2.1
theorem dLa_law_897 : decode cLa_law 897 = .ok (.invokevirtual 118, 3) := dqLa_law_528.2.2.2.2.2.2.2.2.2.2.1
theorem dLa_law_900 : decode cLa_law 900 = .ok (.lcmp, 1) := dqLa_law_528.2.2.2.2.2.2.2.2.2.2.2.1
theorem dLa_law_901 : decode cLa_law 901 = .ok (.ifCond .eq 95, 3) := dqLa_law_528.2.2.2.2.2.2.2.2.2.2.2.2.1
theorem dLa_law_904 : decode cLa_law 904 = .ok (.iconst 0, 1) := dqLa_law_528.2.2.2.2.2.2.2.2.2.2.2.2.2.1
theorem dLa_law_905 : decode cLa_law 905 = .ok (.ireturn, 1) := dqLa_law_528.2.2.2.2.2.2.2.2.2.2.2.2.2.2.1
theorem dLa_law_906 : decode cLa_law 906 = .ok (.aload_n 1, 1) := dqLa_law_528.2.2.2.2.2.2.2.2.2.2.2.2.2.2.2
theorem dqLa_law_544 : decode cLa_law 907 = .ok (.aload_n 0, 1) ∧ decode cLa_law 908 = .ok (.iload 4, 2) ∧ decode cLa_law 910 = .ok (.iconst 1, 1) ∧ decode cLa_law 911 = .ok (.iadd, 1) ∧ decode cLa_law 912 = .ok (.iaload, 1) ∧ decode cLa_law 913 = .ok (.invokevirtual 119, 3) ∧ decode cLa_law 916 = .ok (.aload_n 2, 1) ∧ decode cLa_law 917 = .ok (.aload_n 0, 1) ∧ decode cLa_law 918 = .ok (.iload 4, 2) ∧ decode cLa_law 920 = .ok (.iconst 1, 1) ∧ decode cLa_law 921 = .ok (.iadd, 1) ∧ decode cLa_law 922 = .ok (.iaload, 1) ∧ decode cLa_law 923 = .ok (.invokevirtual 122, 3) ∧ decode cLa_law 926 = .ok (.lcmp, 1) ∧ decode cLa_law 927 = .ok (.ifCond .eq 69, 3) ∧ decode cLa_law 930 = .ok (.iconst 0, 1) := by decide +kernel
theorem dLa_law_907 : decode cLa_law 907 = .ok (.aload_n 0, 1) := dqLa_law_544.1
theorem dLa_law_908 : decode cLa_law 908 = .ok (.iload 4, 2) := dqLa_law_544.2.1
theorem dLa_law_910 : decode cLa_law 910 = .ok (.iconst 1, 1) := dqLa_law_544.2.2.1
theorem dLa_law_911 : decode cLa_law 911 = .ok (.iadd, 1) := dqLa_law_544.2.2.2.1
theorem dLa_law_912 : decode cLa_law 912 = .ok (.iaload, 1) := dqLa_law_544.2.2.2.2.1
theorem dLa_law_913 : decode cLa_law 913 = .ok (.invokevirtual 119, 3) := dqLa_law_544.2.2.2.2.2.1
theorem dLa_law_916 : decode cLa_law 916 = .ok (.aload_n 2, 1) := dqLa_law_544.2.2.2.2.2.2.1
theorem dLa_law_917 : decode cLa_law 917 = .ok (.aload_n 0, 1) := dqLa_law_544.2.2.2.2.2.2.2.1
theorem dLa_law_918 : decode cLa_law 918 = .ok (.iload 4, 2) := dqLa_law_544.2.2.2.2.2.2.2.2.1
theorem dLa_law_920 : decode cLa_law 920 = .ok (.iconst 1, 1) := dqLa_law_544.2.2.2.2.2.2.2.2.2.1
theorem dLa_law_921 : decode cLa_law 921 = .ok (.iadd, 1) := dqLa_law_544.2.2.2.2.2.2.2.2.2.2.1
theorem dLa_law_922 : decode cLa_law 922 = .ok (.iaload, 1) := dqLa_law_544.2.2.2.2.2.2.2.2.2.2.2.1
theorem dLa_law_923 : decode cLa_law 923 = .ok (.invokevirtual 122, 3) := dqLa_law_544.2.2.2.2.2.2.2.2.2.2.2.2.1
theorem dLa_law_926 : decode cLa_law 926 = .ok (.lcmp, 1) := dqLa_law_544.2.2.2.2.2.2.2.2.2.2.2.2.2.1
theorem dLa_law_927 : decode cLa_law 927 = .ok (.ifCond .eq 69, 3) := dqLa_law_544.2.2.2.2.2.2.2.2.2.2.2.2.2.2.1
theorem dLa_law_930 : decode cLa_law 930 = .ok (.iconst 0, 1) := dqLa_law_544.2.2.2.2.2.2.2.2.2.2.2.2.2.2.2
theorem dqLa_law_560 : decode cLa_law 931 = .ok (.ireturn, 1) ∧ decode cLa_law 932 = .ok (.aload_n 1, 1) ∧ decode cLa_law 933 = .ok (.aload_n 0, 1) ∧ decode cLa_law 934 = .ok (.iload 4, 2) ∧ decode cLa_law 936 = .ok (.iconst 1, 1) ∧ decode cLa_law 937 = .ok (.iadd, 1) ∧ decode cLa_law 938 = .ok (.iaload, 1) ∧ decode cLa_law 939 = .ok (.invokevirtual 123, 3) ∧ decode cLa_law 942 = .ok (.aload_n 2, 1) ∧ decode cLa_law 943 = .ok (.aload_n 0, 1) ∧ decode cLa_law 944 = .ok (.iload 4, 2) ∧ decode cLa_law 946 = .ok (.iconst 1, 1) ∧ decode cLa_law 947 = .ok (.iadd, 1) ∧ decode cLa_law 948 = .ok (.iaload, 1) ∧ decode cLa_law 949 = .ok (.invokevirtual 126, 3) ∧ decode cLa_law 952 = .ok (.lcmp, 1) := by decide +kernel
theorem dLa_law_931 : decode cLa_law 931 = .ok (.ireturn, 1) := dqLa_law_560.1
theorem dLa_law_932 : decode cLa_law 932 = .ok (.aload_n 1, 1) := dqLa_law_560.2.1
theorem dLa_law_933 : decode cLa_law 933 = .ok (.aload_n 0, 1) := dqLa_law_560.2.2.1
theorem dLa_law_934 : decode cLa_law 934 = .ok (.iload 4, 2) := dqLa_law_560.2.2.2.1
theorem dLa_law_936 : decode cLa_law 936 = .ok (.iconst 1, 1) := dqLa_law_560.2.2.2.2.1
theorem dLa_law_937 : decode cLa_law 937 = .ok (.iadd, 1) := dqLa_law_560.2.2.2.2.2.1
theorem dLa_law_938 : decode cLa_law 938 = .ok (.iaload, 1) := dqLa_law_560.2.2.2.2.2.2.1
theorem dLa_law_939 : decode cLa_law 939 = .ok (.invokevirtual 123, 3) := dqLa_law_560.2.2.2.2.2.2.2.1
theorem dLa_law_942 : decode cLa_law 942 = .ok (.aload_n 2, 1) := dqLa_law_560.2.2.2.2.2.2.2.2.1
theorem dLa_law_943 : decode cLa_law 943 = .ok (.aload_n 0, 1) := dqLa_law_560.2.2.2.2.2.2.2.2.2.1
theorem dLa_law_944 : decode cLa_law 944 = .ok (.iload 4, 2) := dqLa_law_560.2.2.2.2.2.2.2.2.2.2.1
theorem dLa_law_946 : decode cLa_law 946 = .ok (.iconst 1, 1) := dqLa_law_560.2.2.2.2.2.2.2.2.2.2.2.1
theorem dLa_law_947 : decode cLa_law 947 = .ok (.iadd, 1) := dqLa_law_560.2.2.2.2.2.2.2.2.2.2.2.2.1
theorem dLa_law_948 : decode cLa_law 948 = .ok (.iaload, 1) := dqLa_law_560.2.2.2.2.2.2.2.2.2.2.2.2.2.1
theorem dLa_law_949 : decode cLa_law 949 = .ok (.invokevirtual 126, 3) := dqLa_law_560.2.2.2.2.2.2.2.2.2.2.2.2.2.2.1
theorem dLa_law_952 : decode cLa_law 952 = .ok (.lcmp, 1) := dqLa_law_560.2.2.2.2.2.2.2.2.2.2.2.2.2.2.2
theorem dqLa_law_576 : decode cLa_law 953 = .ok (.ifCond .eq 43, 3) ∧ decode cLa_law 956 = .ok (.iconst 0, 1) ∧ decode cLa_law 957 = .ok (.ireturn, 1) ∧ decode cLa_law 958 = .ok (.aload_n 1, 1) ∧ decode cLa_law 959 = .ok (.aload_n 0, 1) ∧ decode cLa_law 960 = .ok (.iload 4, 2) ∧ decode cLa_law 962 = .ok (.iconst 1, 1) ∧ decode cLa_law 963 = .ok (.iadd, 1) ∧ decode cLa_law 964 = .ok (.iaload, 1) ∧ decode cLa_law 965 = .ok (.aload_n 0, 1) ∧ decode cLa_law 966 = .ok (.iload 4, 2) ∧ decode cLa_law 968 = .ok (.iconst 2, 1) ∧ decode cLa_law 969 = .ok (.iadd, 1) ∧ decode cLa_law 970 = .ok (.iaload, 1) ∧ decode cLa_law 971 = .ok (.invokevirtual 127, 3) ∧ decode cLa_law 974 = .ok (.aload_n 2, 1) := by decide +kernel
theorem dLa_law_953 : decode cLa_law 953 = .ok (.ifCond .eq 43, 3) := dqLa_law_576.1
theorem dLa_law_956 : decode cLa_law 956 = .ok (.iconst 0, 1) := dqLa_law_576.2.1
theorem dLa_law_957 : decode cLa_law 957 = .ok (.ireturn, 1) := dqLa_law_576.2.2.1
theorem dLa_law_958 : decode cLa_law 958 = .ok (.aload_n 1, 1) := dqLa_law_576.2.2.2.1
theorem dLa_law_959 : decode cLa_law 959 = .ok (.aload_n 0, 1) := dqLa_law_576.2.2.2.2.1
theorem dLa_law_960 : decode cLa_law 960 = .ok (.iload 4, 2) := dqLa_law_576.2.2.2.2.2.1
theorem dLa_law_962 : decode cLa_law 962 = .ok (.iconst 1, 1) := dqLa_law_576.2.2.2.2.2.2.1
theorem dLa_law_963 : decode cLa_law 963 = .ok (.iadd, 1) := dqLa_law_576.2.2.2.2.2.2.2.1
theorem dLa_law_964 : decode cLa_law 964 = .ok (.iaload, 1) := dqLa_law_576.2.2.2.2.2.2.2.2.1
theorem dLa_law_965 : decode cLa_law 965 = .ok (.aload_n 0, 1) := dqLa_law_576.2.2.2.2.2.2.2.2.2.1
theorem dLa_law_966 : decode cLa_law 966 = .ok (.iload 4, 2) := dqLa_law_576.2.2.2.2.2.2.2.2.2.2.1
theorem dLa_law_968 : decode cLa_law 968 = .ok (.iconst 2, 1) := dqLa_law_576.2.2.2.2.2.2.2.2.2.2.2.1
theorem dLa_law_969 : decode cLa_law 969 = .ok (.iadd, 1) := dqLa_law_576.2.2.2.2.2.2.2.2.2.2.2.2.1
theorem dLa_law_970 : decode cLa_law 970 = .ok (.iaload, 1) := dqLa_law_576.2.2.2.2.2.2.2.2.2.2.2.2.2.1
theorem dLa_law_971 : decode cLa_law 971 = .ok (.invokevirtual 127, 3) := dqLa_law_576.2.2.2.2.2.2.2.2.2.2.2.2.2.2.1
theorem dLa_law_974 : decode cLa_law 974 = .ok (.aload_n 2, 1) := dqLa_law_576.2.2.2.2.2.2.2.2.2.2.2.2.2.2.2
theorem dqLa_law_592 : decode cLa_law 975 = .ok (.aload_n 0, 1) ∧ decode cLa_law 976 = .ok (.iload 4, 2) ∧ decode cLa_law 978 = .ok (.iconst 1, 1) ∧ decode cLa_law 979 = .ok (.iadd, 1) ∧ decode cLa_law 980 = .ok (.iaload, 1) ∧ decode cLa_law 981 = .ok (.aload_n 0, 1) ∧ decode cLa_law 982 = .ok (.iload 4, 2) ∧ decode cLa_law 984 = .ok (.iconst 2, 1) ∧ decode cLa_law 985 = .ok (.iadd, 1) ∧ decode cLa_law 986 = .ok (.iaload, 1) ∧ decode cLa_law 987 = .ok (.invokevirtual 131, 3) ∧ decode cLa_law 990 = .ok (.lcmp, 1) ∧ decode cLa_law 991 = .ok (.ifCond .eq 5, 3) ∧ decode cLa_law 994 = .ok (.iconst 0, 1) ∧ decode cLa_law 995 = .ok (.ireturn, 1) ∧ decode cLa_law 996 = .ok (.iinc 4 5, 3) := by decide +kernel
theorem dLa_law_975 : decode cLa_law 975 = .ok (.aload_n 0, 1) := dqLa_law_592.1
theorem dLa_law_976 : decode cLa_law 976 = .ok (.iload 4, 2) := dqLa_law_592.2.1
theorem dLa_law_978 : decode cLa_law 978 = .ok (.iconst 1, 1) := dqLa_law_592.2.2.1
theorem dLa_law_979 : decode cLa_law 979 = .ok (.iadd, 1) := dqLa_law_592.2.2.2.1
theorem dLa_law_980 : decode cLa_law 980 = .ok (.iaload, 1) := dqLa_law_592.2.2.2.2.1
theorem dLa_law_981 : decode cLa_law 981 = .ok (.aload_n 0, 1) := dqLa_law_592.2.2.2.2.2.1
theorem dLa_law_982 : decode cLa_law 982 = .ok (.iload 4, 2) := dqLa_law_592.2.2.2.2.2.2.1
theorem dLa_law_984 : decode cLa_law 984 = .ok (.iconst 2, 1) := dqLa_law_592.2.2.2.2.2.2.2.1
theorem dLa_law_985 : decode cLa_law 985 = .ok (.iadd, 1) := dqLa_law_592.2.2.2.2.2.2.2.2.1
theorem dLa_law_986 : decode cLa_law 986 = .ok (.iaload, 1) := dqLa_law_592.2.2.2.2.2.2.2.2.2.1
theorem dLa_law_987 : decode cLa_law 987 = .ok (.invokevirtual 131, 3) := dqLa_law_592.2.2.2.2.2.2.2.2.2.2.1
theorem dLa_law_990 : decode cLa_law 990 = .ok (.lcmp, 1) := dqLa_law_592.2.2.2.2.2.2.2.2.2.2.2.1
theorem dLa_law_991 : decode cLa_law 991 = .ok (.ifCond .eq 5, 3) := dqLa_law_592.2.2.2.2.2.2.2.2.2.2.2.2.1
theorem dLa_law_994 : decode cLa_law 994 = .ok (.iconst 0, 1) := dqLa_law_592.2.2.2.2.2.2.2.2.2.2.2.2.2.1
theorem dLa_law_995 : decode cLa_law 995 = .ok (.ireturn, 1) := dqLa_law_592.2.2.2.2.2.2.2.2.2.2.2.2.2.2.1
theorem dLa_law_996 : decode cLa_law 996 = .ok (.iinc 4 5, 3) := dqLa_law_592.2.2.2.2.2.2.2.2.2.2.2.2.2.2.2
theorem dqLa_law_608 : decode cLa_law 999 = .ok (.goto (-976), 3) ∧ decode cLa_law 1002 = .ok (.iconst 1, 1) ∧ decode cLa_law 1003 = .ok (.ireturn, 1) := by decide +kernel
theorem dLa_law_999 : decode cLa_law 999 = .ok (.goto (-976), 3) := dqLa_law_608.1
theorem dLa_law_1002 : decode cLa_law 1002 = .ok (.iconst 1, 1) := dqLa_law_608.2.1
theorem dLa_law_1003 : decode cLa_law 1003 = .ok (.ireturn, 1) := dqLa_law_608.2.2
def wl_La_law_23 (L : Nat) (xs : Nat → Int32) : Nat → (Int32) → (ct_Sc) → (Nat → Int32) → (Nat → Int32) → (Nat → Int32) → (ct_In) → (Nat → Int32) → (ct_Ma) → (Nat → Int32) → (Nat → Int64) → (ct_Ma) → (Nat → Int32) → (Nat → Int64) → (ct_Pa) → (Nat → Int32) → (Nat → Int32) → (Nat → Int32) → (ct_Pr) → (ct_Ma) → (Nat → Int32) → (Nat → Int64) → (ct_As) → (ct_Ga) → (ct_Ga) → (ct_Ga) → (ct_Mo) → (Nat → Int32) → (Nat → Int32) → (Nat → Int32) → (Nat → Int32) → (Nat → Int32) → (Nat → Int32) → (Nat → Int32) → (Nat → Int32) → (Nat → Int32) → (Nat → Int32) → (Nat → Int32) → (Nat → Int32) → (Nat → Int64) → (Nat → Int64) → (Nat → Int32) → (Nat → Int64) → (Nat → Int32) → (Nat → Int32) → (Nat → Int64) → (Nat → Int64) → (Nat → Int64) → (Nat) → (Nat) → Prop
  | 0, _, _, _, _, _, _, _, _, _, _, _, _, _, _, _, _, _, _, _, _, _, _, _, _, _, _, _, _, _, _, _, _, _, _, _, _, _, _, _, _, _, _, _, _, _, _, _, _, _ => False
  | n324 + 1, v325, x326, x327, x328, x329, x330, x331, x332, x333, x334, x335, x336, x337, x338, x339, x340, x341, x342, x343, x344, x345, x346, x347, x348, x349, x350, x351, x352, x353, x354, x355, x356, x357, x358, x359, x360, x361, x362, x363, x364, x365, x366, x367, x368, x369, x370, x371, kc9, ks9 => kc9 ≤ 639275 ∧ ks9 ≤ 7178020 ∧ (((((Int32.ofNat L) - 5) < v325 → (False)) ∧ (¬ ((Int32.ofNat L) - 5) < v325 → (vp_in v325 L ∧ (∀ kk374 : Int32, kk374 = ((xs v325.toNatClampNeg) &&& 31) → (((kk374 < 0 → (wl_La_law_23 L xs n324 (v325 + 5) x326 x327 x328 x329 x330 x331 x332 x333 x334 x335 x336 x337 x338 x339 x340 x341 x342 x343 x344 x345 x346 x347 x348 x349 x350 x351 x352 x353 x354 x355 x356 x357 x358 x359 x360 x361 x362 x363 x364 x365 x366 x367 x368 x369 x370 x371 (kc9 + 10) (ks9 + 60))) ∧ (¬ kk374 < 0 → (((17 < kk374 → (wl_La_law_23 L xs n324 (v325 + 5) x326 x327 x328 x329 x330 x331 x332 x333 x334 x335 x336 x337 x338 x339 x340 x341 x342 x343 x344 x345 x346 x347 x348 x349 x350 x351 x352 x353 x354 x355 x356 x357 x358 x359 x360 x361 x362 x363 x364 x365 x366 x367 x368 x369 x370 x371 (kc9 + 10) (ks9 + 60))) ∧ (¬ 17 < kk374 → (((kk374 = 0 → (vp_in (v325 + 1) L ∧ (vp_in (v325 + 2) L ∧ (vp_in (v325 + 3) L ∧ (wp_Sc_code (fun r381 u382 => (vp_in (v325 + 1) L ∧ (vp_in (v325 + 2) L ∧ (vp_in (v325 + 3) L ∧ (wp_Mo_code (fun r386 u387 => (((r381 = r386 → (wl_La_law_23 L xs n324 (v325 + 5) u382.1 x327 u382.2.1 u382.2.2.1 x330 x331 x332 x333 x334 x335 x336 x337 x338 x339 x340 x341 x342 x343 x344 x345 u382.2.2.2 x347 x348 x349 u387.1 u387.2.1 u387.2.2 x353 x354 x355 x356 x357 x358 x359 x360 x361 x362 x363 x364 x365 x366 x367 x368 x369 x370 x371 (kc9 + 10) (ks9 + 60))) ∧ (¬ r381 = r386 → (True))))) (x350, x351, x352) (xs (v325 + 1).toNatClampNeg) (xs (v325 + 2).toNatClampNeg) (xs (v325 + 3).toNatClampNeg) ))))) (x326, x328, x329, x346) (xs (v325 + 1).toNatClampNeg) (xs (v325 + 2).toNatClampNeg) (xs (v325 + 3).toNatClampNeg) ))))) ∧ (¬ kk374 = 0 → (((kk374 = 1 → (vp_in (v325 + 1) L ∧ (vp_in (v325 + 2) L ∧ (wp_La_deposit (fun r392 u393 => (vp_in (v325 + 1) L ∧ (vp_in (v325 + 2) L ∧ (wp_Mo_deposit (fun r397 u398 => (wp_Mo_thrown (fun r399 u400 => (((r399 = r392 → (((r392 = 0 → ((((lg_cmp (u393.2.2.2.2 0) (r397.toInt64)) = 0 → (wl_La_law_23 L xs n324 (v325 + 5) u393.1 u393.2.1 x328 x329 u393.2.2.1 u393.2.2.2.1 x332 x333 x334 x335 x336 x337 x338 x339 x340 x341 x342 x343 x344 x345 x346 x347 x348 x349 u400 x351 x352 u398.2.1 u398.2.2 x355 x356 x357 x358 x359 x360 x361 x362 x363 x364 x365 x366 x367 x368 x369 x370 u393.2.2.2.2 (kc9 + 10) (ks9 + 60))) ∧ (¬ (lg_cmp (u393.2.2.2.2 0) (r397.toInt64)) = 0 → (True))))) ∧ (¬ r392 = 0 → (wl_La_law_23 L xs n324 (v325 + 5) u393.1 u393.2.1 x328 x329 u393.2.2.1 u393.2.2.2.1 x332 x333 x334 x335 x336 x337 x338 x339 x340 x341 x342 x343 x344 x345 x346 x347 x348 x349 u400 x351 x352 u398.2.1 u398.2.2 x355 x356 x357 x358 x359 x360 x361 x362 x363 x364 x365 x366 x367 x368 x369 x370 u393.2.2.2.2 (kc9 + 10) (ks9 + 60)))))) ∧ (¬ r399 = r392 → (True))))) u398.1 )) (x350, x353, x354) (xs (v325 + 1).toNatClampNeg) (xs (v325 + 2).toNatClampNeg) )))) (fun E9 u394 => (False)) (x326, x327, x330, x331, x371) (xs (v325 + 1).toNatClampNeg) (xs (v325 + 2).toNatClampNeg) )))) ∧ (¬ kk374 = 1 → (((kk374 = 2 → (vp_in (v325 + 1) L ∧ (wp_La_send (fun r406 u407 => (vp_in (v325 + 1) L ∧ (wp_Mo_send (fun r410 u411 => (wp_Mo_thrown (fun r412 u413 => (((r412 = r406 → (((r406 = 0 → ((((lg_cmp (u407.2.2.2 0) (r410.toInt64)) = 0 → (wl_La_law_23 L xs n324 (v325 + 5) u407.1 x327 x328 x329 u407.2.1 u407.2.2.1 x332 x333 x334 x335 x336 x337 x338 x339 x340 x341 x342 x343 x344 x345 x346 x347 x348 x349 u413 x351 x352 x353 u411.2 x355 x356 x357 x358 x359 x360 x361 x362 x363 x364 x365 x366 x367 x368 x369 x370 u407.2.2.2 (kc9 + 10) (ks9 + 60))) ∧ (¬ (lg_cmp (u407.2.2.2 0) (r410.toInt64)) = 0 → (True))))) ∧ (¬ r406 = 0 → (wl_La_law_23 L xs n324 (v325 + 5) u407.1 x327 x328 x329 u407.2.1 u407.2.2.1 x332 x333 x334 x335 x336 x337 x338 x339 x340 x341 x342 x343 x344 x345 x346 x347 x348 x349 u413 x351 x352 x353 u411.2 x355 x356 x357 x358 x359 x360 x361 x362 x363 x364 x365 x366 x367 x368 x369 x370 u407.2.2.2 (kc9 + 10) (ks9 + 60)))))) ∧ (¬ r412 = r406 → (True))))) u411.1 )) (x350, x354) (xs (v325 + 1).toNatClampNeg) ))) (fun E9 u408 => (False)) (x326, x330, x331, x371) (xs (v325 + 1).toNatClampNeg) ))) ∧ (¬ kk374 = 2 → (((kk374 = 3 → (vp_in (v325 + 1) L ∧ (vp_in (v325 + 2) L ∧ (vp_in (v325 + 3) L ∧ (vp_in (v325 + 4) L ∧ (wp_La_claim (fun r422 u423 => (vp_in (v325 + 1) L ∧ (vp_in (v325 + 2) L ∧ (vp_in (v325 + 3) L ∧ (vp_in (v325 + 4) L ∧ (wp_Mo_claim (fun r429 u430 => (wp_Mo_thrown (fun r431 u432 => (((r431 = r422 → (((r422 = 0 → ((((lg_cmp (u423.2.2.2.2.2.2.2.2.2.2.2.2 0) r429) = 0 → (wl_La_law_23 L xs n324 (v325 + 5) u423.1 u423.2.1 u423.2.2.1 u423.2.2.2.1 u423.2.2.2.2.1 u423.2.2.2.2.2.1 u423.2.2.2.2.2.2.1 u423.2.2.2.2.2.2.2.1 x334 u423.2.2.2.2.2.2.2.2.1 u423.2.2.2.2.2.2.2.2.2.1 u423.2.2.2.2.2.2.2.2.2.2.1 x338 x339 x340 x341 x342 x343 x344 x345 u423.2.2.2.2.2.2.2.2.2.2.2.1 x347 x348 x349 u432 u430.2.1 u430.2.2.1 u430.2.2.2.1 u430.2.2.2.2.1 u430.2.2.2.2.2.1 u430.2.2.2.2.2.2.1 x357 x358 x359 x360 x361 x362 x363 x364 x365 x366 x367 x368 u430.2.2.2.2.2.2.2 x370 u423.2.2.2.2.2.2.2.2.2.2.2.2 (kc9 + 10) (ks9 + 60))) ∧ (¬ (lg_cmp (u423.2.2.2.2.2.2.2.2.2.2.2.2 0) r429) = 0 → (True))))) ∧ (¬ r422 = 0 → (wl_La_law_23 L xs n324 (v325 + 5) u423.1 u423.2.1 u423.2.2.1 u423.2.2.2.1 u423.2.2.2.2.1 u423.2.2.2.2.2.1 u423.2.2.2.2.2.2.1 u423.2.2.2.2.2.2.2.1 x334 u423.2.2.2.2.2.2.2.2.1 u423.2.2.2.2.2.2.2.2.2.1 u423.2.2.2.2.2.2.2.2.2.2.1 x338 x339 x340 x341 x342 x343 x344 x345 u423.2.2.2.2.2.2.2.2.2.2.2.1 x347 x348 x349 u432 u430.2.1 u430.2.2.1 u430.2.2.2.1 u430.2.2.2.2.1 u430.2.2.2.2.2.1 u430.2.2.2.2.2.2.1 x357 x358 x359 x360 x361 x362 x363 x364 x365 x366 x367 x368 u430.2.2.2.2.2.2.2 x370 u423.2.2.2.2.2.2.2.2.2.2.2.2 (kc9 + 10) (ks9 + 60)))))) ∧ (¬ r431 = r422 → (True))))) u430.1 )) (x350, x351, x352, x353, x354, x355, x356, x369) (xs (v325 + 1).toNatClampNeg) (xs (v325 + 2).toNatClampNeg) ((((xs (v325 + 3).toNatClampNeg).toInt64) <<< ((32 : Int32).toInt64 &&& 63)) ||| (((xs (v325 + 4).toNatClampNeg).toInt64) &&& 4294967295)) )))))) (fun E9 u424 => (False)) (x326, x327, x328, x329, x330, x331, x332, x333, x335, x336, x337, x346, x371) (xs (v325 + 1).toNatClampNeg) (xs (v325 + 2).toNatClampNeg) ((((xs (v325 + 3).toNatClampNeg).toInt64) <<< ((32 : Int32).toInt64 &&& 63)) ||| (((xs (v325 + 4).toNatClampNeg).toInt64) &&& 4294967295)) )))))) ∧ (¬ kk374 = 3 → (((kk374 = 4 → (vp_in (v325 + 1) L ∧ (wp_La_challenge (fun r438 u439 => (vp_in (v325 + 1) L ∧ (wp_Mo_challenge (fun r442 u443 => (wp_Mo_thrown (fun r444 u445 => (((r444 = r438 → (((r438 = 0 → ((((lg_cmp (u439.2.2.2.2.2.2 0) (r442.toInt64)) = 0 → (wl_La_law_23 L xs n324 (v325 + 5) u439.1 u439.2.1 x328 x329 x330 x331 x332 x333 x334 x335 x336 x337 x338 x339 x340 x341 x342 x343 x344 x345 u439.2.2.1 u439.2.2.2.1 u439.2.2.2.2.1 u439.2.2.2.2.2.1 u445 x351 x352 u443.2.1 x354 x355 x356 x357 x358 x359 u443.2.2.1 u443.2.2.2.1 u443.2.2.2.2.1 u443.2.2.2.2.2.1 u443.2.2.2.2.2.2.1 u443.2.2.2.2.2.2.2.1 u443.2.2.2.2.2.2.2.2.1 u443.2.2.2.2.2.2.2.2.2.1 u443.2.2.2.2.2.2.2.2.2.2 x369 x370 u439.2.2.2.2.2.2 (kc9 + 10) (ks9 + 60))) ∧ (¬ (lg_cmp (u439.2.2.2.2.2.2 0) (r442.toInt64)) = 0 → (True))))) ∧ (¬ r438 = 0 → (wl_La_law_23 L xs n324 (v325 + 5) u439.1 u439.2.1 x328 x329 x330 x331 x332 x333 x334 x335 x336 x337 x338 x339 x340 x341 x342 x343 x344 x345 u439.2.2.1 u439.2.2.2.1 u439.2.2.2.2.1 u439.2.2.2.2.2.1 u445 x351 x352 u443.2.1 x354 x355 x356 x357 x358 x359 u443.2.2.1 u443.2.2.2.1 u443.2.2.2.2.1 u443.2.2.2.2.2.1 u443.2.2.2.2.2.2.1 u443.2.2.2.2.2.2.2.1 u443.2.2.2.2.2.2.2.2.1 u443.2.2.2.2.2.2.2.2.2.1 u443.2.2.2.2.2.2.2.2.2.2 x369 x370 u439.2.2.2.2.2.2 (kc9 + 10) (ks9 + 60)))))) ∧ (¬ r444 = r438 → (True))))) u443.1 )) (x350, x353, x360, x361, x362, x363, x364, x365, x366, x367, x368) (xs (v325 + 1).toNatClampNeg) ))) (fun E9 u440 => (False)) (x326, x327, x346, x347, x348, x349, x371) (xs (v325 + 1).toNatClampNeg) ))) ∧ (¬ kk374 = 4 → (((kk374 = 5 → (vp_in (v325 + 1) L ∧ (vp_in (v325 + 2) L ∧ (vp_in (v325 + 3) L ∧ (wp_La_post (fun r453 u454 => (vp_in (v325 + 1) L ∧ (vp_in (v325 + 2) L ∧ (vp_in (v325 + 3) L ∧ (wp_Mo_post (fun r459 u460 => (wp_Mo_thrown (fun r461 u462 => (((r461 = r453 → (((r453 = 0 → ((((lg_cmp (u454.2.2.2.2.2.2.2.2.2.2.2.2.2.2 0) r459) = 0 → (wl_La_law_23 L xs n324 (v325 + 5) u454.1 x327 u454.2.1 u454.2.2.1 u454.2.2.2.1 u454.2.2.2.2.1 u454.2.2.2.2.2.1 u454.2.2.2.2.2.2.1 x334 u454.2.2.2.2.2.2.2.1 u454.2.2.2.2.2.2.2.2.1 u454.2.2.2.2.2.2.2.2.2.1 x338 x339 x340 x341 x342 x343 x344 x345 u454.2.2.2.2.2.2.2.2.2.2.1 u454.2.2.2.2.2.2.2.2.2.2.2.1 u454.2.2.2.2.2.2.2.2.2.2.2.2.1 u454.2.2.2.2.2.2.2.2.2.2.2.2.2.1 u462 u460.2.1 u460.2.2.1 x353 u460.2.2.2.1 u460.2.2.2.2.1 u460.2.2.2.2.2.1 x357 x358 x359 x360 u460.2.2.2.2.2.2.1 u460.2.2.2.2.2.2.2.1 x363 x364 u460.2.2.2.2.2.2.2.2.1 u460.2.2.2.2.2.2.2.2.2.1 u460.2.2.2.2.2.2.2.2.2.2.1 u460.2.2.2.2.2.2.2.2.2.2.2.1 u460.2.2.2.2.2.2.2.2.2.2.2.2 x370 u454.2.2.2.2.2.2.2.2.2.2.2.2.2.2 (kc9 + 10) (ks9 + 60))) ∧ (¬ (lg_cmp (u454.2.2.2.2.2.2.2.2.2.2.2.2.2.2 0) r459) = 0 → (True))))) ∧ (¬ r453 = 0 → (wl_La_law_23 L xs n324 (v325 + 5) u454.1 x327 u454.2.1 u454.2.2.1 u454.2.2.2.1 u454.2.2.2.2.1 u454.2.2.2.2.2.1 u454.2.2.2.2.2.2.1 x334 u454.2.2.2.2.2.2.2.1 u454.2.2.2.2.2.2.2.2.1 u454.2.2.2.2.2.2.2.2.2.1 x338 x339 x340 x341 x342 x343 x344 x345 u454.2.2.2.2.2.2.2.2.2.2.1 u454.2.2.2.2.2.2.2.2.2.2.2.1 u454.2.2.2.2.2.2.2.2.2.2.2.2.1 u454.2.2.2.2.2.2.2.2.2.2.2.2.2.1 u462 u460.2.1 u460.2.2.1 x353 u460.2.2.2.1 u460.2.2.2.2.1 u460.2.2.2.2.2.1 x357 x358 x359 x360 u460.2.2.2.2.2.2.1 u460.2.2.2.2.2.2.2.1 x363 x364 u460.2.2.2.2.2.2.2.2.1 u460.2.2.2.2.2.2.2.2.2.1 u460.2.2.2.2.2.2.2.2.2.2.1 u460.2.2.2.2.2.2.2.2.2.2.2.1 u460.2.2.2.2.2.2.2.2.2.2.2.2 x370 u454.2.2.2.2.2.2.2.2.2.2.2.2.2.2 (kc9 + 10) (ks9 + 60)))))) ∧ (¬ r461 = r453 → (True))))) u460.1 )) (x350, x351, x352, x354, x355, x356, x361, x362, x365, x366, x367, x368, x369) (xs (v325 + 1).toNatClampNeg) ((((xs (v325 + 2).toNatClampNeg).toInt64) <<< ((32 : Int32).toInt64 &&& 63)) ||| (((xs (v325 + 3).toNatClampNeg).toInt64) &&& 4294967295)) ))))) (fun E9 u455 => (False)) (x326, x328, x329, x330, x331, x332, x333, x335, x336, x337, x346, x347, x348, x349, x371) (xs (v325 + 1).toNatClampNeg) ((((xs (v325 + 2).toNatClampNeg).toInt64) <<< ((32 : Int32).toInt64 &&& 63)) ||| (((xs (v325 + 3).toNatClampNeg).toInt64) &&& 4294967295)) ))))) ∧ (¬ kk374 = 5 → (((kk374 = 6 → (vp_in (v325 + 1) L ∧ (vp_in (v325 + 2) L ∧ ((((xs (v325 + 2).toNatClampNeg) = 0 → (wp_La_pick (fun r470 u471 => (vp_in (v325 + 1) L ∧ (vp_in (v325 + 2) L ∧ ((((xs (v325 + 2).toNatClampNeg) = 0 → (wp_Mo_pick (fun r476 u477 => (wp_Mo_thrown (fun r478 u479 => (((r478 = r470 → (((r470 = 0 → ((((lg_cmp (u471.2.2.2.2 0) (r476.toInt64)) = 0 → (wl_La_law_23 L xs n324 (v325 + 5) u471.1 x327 x328 x329 x330 x331 x332 x333 x334 x335 x336 x337 x338 x339 x340 x341 x342 x343 x344 x345 x346 u471.2.1 u471.2.2.1 u471.2.2.2.1 u479 x351 x352 x353 x354 x355 x356 x357 x358 x359 x360 u477.2.1 u477.2.2.1 u477.2.2.2.1 u477.2.2.2.2.1 u477.2.2.2.2.2.1 u477.2.2.2.2.2.2.1 u477.2.2.2.2.2.2.2.1 u477.2.2.2.2.2.2.2.2 x369 x370 u471.2.2.2.2 (kc9 + 10) (ks9 + 60))) ∧ (¬ (lg_cmp (u471.2.2.2.2 0) (r476.toInt64)) = 0 → (True))))) ∧ (¬ r470 = 0 → (wl_La_law_23 L xs n324 (v325 + 5) u471.1 x327 x328 x329 x330 x331 x332 x333 x334 x335 x336 x337 x338 x339 x340 x341 x342 x343 x344 x345 x346 u471.2.1 u471.2.2.1 u471.2.2.2.1 u479 x351 x352 x353 x354 x355 x356 x357 x358 x359 x360 u477.2.1 u477.2.2.1 u477.2.2.2.1 u477.2.2.2.2.1 u477.2.2.2.2.2.1 u477.2.2.2.2.2.2.1 u477.2.2.2.2.2.2.2.1 u477.2.2.2.2.2.2.2.2 x369 x370 u471.2.2.2.2 (kc9 + 10) (ks9 + 60)))))) ∧ (¬ r478 = r470 → (True))))) u477.1 )) (x350, x361, x362, x363, x364, x365, x366, x367, x368) (xs (v325 + 1).toNatClampNeg) 0 )) ∧ (¬ (xs (v325 + 2).toNatClampNeg) = 0 → (wp_Mo_pick (fun r483 u484 => (wp_Mo_thrown (fun r485 u486 => (((r485 = r470 → (((r470 = 0 → ((((lg_cmp (u471.2.2.2.2 0) (r483.toInt64)) = 0 → (wl_La_law_23 L xs n324 (v325 + 5) u471.1 x327 x328 x329 x330 x331 x332 x333 x334 x335 x336 x337 x338 x339 x340 x341 x342 x343 x344 x345 x346 u471.2.1 u471.2.2.1 u471.2.2.2.1 u486 x351 x352 x353 x354 x355 x356 x357 x358 x359 x360 u484.2.1 u484.2.2.1 u484.2.2.2.1 u484.2.2.2.2.1 u484.2.2.2.2.2.1 u484.2.2.2.2.2.2.1 u484.2.2.2.2.2.2.2.1 u484.2.2.2.2.2.2.2.2 x369 x370 u471.2.2.2.2 (kc9 + 10) (ks9 + 60))) ∧ (¬ (lg_cmp (u471.2.2.2.2 0) (r483.toInt64)) = 0 → (True))))) ∧ (¬ r470 = 0 → (wl_La_law_23 L xs n324 (v325 + 5) u471.1 x327 x328 x329 x330 x331 x332 x333 x334 x335 x336 x337 x338 x339 x340 x341 x342 x343 x344 x345 x346 u471.2.1 u471.2.2.1 u471.2.2.2.1 u486 x351 x352 x353 x354 x355 x356 x357 x358 x359 x360 u484.2.1 u484.2.2.1 u484.2.2.2.1 u484.2.2.2.2.1 u484.2.2.2.2.2.1 u484.2.2.2.2.2.2.1 u484.2.2.2.2.2.2.2.1 u484.2.2.2.2.2.2.2.2 x369 x370 u471.2.2.2.2 (kc9 + 10) (ks9 + 60)))))) ∧ (¬ r485 = r470 → (True))))) u484.1 )) (x350, x361, x362, x363, x364, x365, x366, x367, x368) (xs (v325 + 1).toNatClampNeg) 1 ))))))) (fun E9 u472 => (False)) (x326, x347, x348, x349, x371) (xs (v325 + 1).toNatClampNeg) 0 )) ∧ (¬ (xs (v325 + 2).toNatClampNeg) = 0 → (wp_La_pick (fun r490 u491 => (vp_in (v325 + 1) L ∧ (vp_in (v325 + 2) L ∧ ((((xs (v325 + 2).toNatClampNeg) = 0 → (wp_Mo_pick (fun r496 u497 => (wp_Mo_thrown (fun r498 u499 => (((r498 = r490 → (((r490 = 0 → ((((lg_cmp (u491.2.2.2.2 0) (r496.toInt64)) = 0 → (wl_La_law_23 L xs n324 (v325 + 5) u491.1 x327 x328 x329 x330 x331 x332 x333 x334 x335 x336 x337 x338 x339 x340 x341 x342 x343 x344 x345 x346 u491.2.1 u491.2.2.1 u491.2.2.2.1 u499 x351 x352 x353 x354 x355 x356 x357 x358 x359 x360 u497.2.1 u497.2.2.1 u497.2.2.2.1 u497.2.2.2.2.1 u497.2.2.2.2.2.1 u497.2.2.2.2.2.2.1 u497.2.2.2.2.2.2.2.1 u497.2.2.2.2.2.2.2.2 x369 x370 u491.2.2.2.2 (kc9 + 10) (ks9 + 60))) ∧ (¬ (lg_cmp (u491.2.2.2.2 0) (r496.toInt64)) = 0 → (True))))) ∧ (¬ r490 = 0 → (wl_La_law_23 L xs n324 (v325 + 5) u491.1 x327 x328 x329 x330 x331 x332 x333 x334 x335 x336 x337 x338 x339 x340 x341 x342 x343 x344 x345 x346 u491.2.1 u491.2.2.1 u491.2.2.2.1 u499 x351 x352 x353 x354 x355 x356 x357 x358 x359 x360 u497.2.1 u497.2.2.1 u497.2.2.2.1 u497.2.2.2.2.1 u497.2.2.2.2.2.1 u497.2.2.2.2.2.2.1 u497.2.2.2.2.2.2.2.1 u497.2.2.2.2.2.2.2.2 x369 x370 u491.2.2.2.2 (kc9 + 10) (ks9 + 60)))))) ∧ (¬ r498 = r490 → (True))))) u497.1 )) (x350, x361, x362, x363, x364, x365, x366, x367, x368) (xs (v325 + 1).toNatClampNeg) 0 )) ∧ (¬ (xs (v325 + 2).toNatClampNeg) = 0 → (wp_Mo_pick (fun r503 u504 => (wp_Mo_thrown (fun r505 u506 => (((r505 = r490 → (((r490 = 0 → ((((lg_cmp (u491.2.2.2.2 0) (r503.toInt64)) = 0 → (wl_La_law_23 L xs n324 (v325 + 5) u491.1 x327 x328 x329 x330 x331 x332 x333 x334 x335 x336 x337 x338 x339 x340 x341 x342 x343 x344 x345 x346 u491.2.1 u491.2.2.1 u491.2.2.2.1 u506 x351 x352 x353 x354 x355 x356 x357 x358 x359 x360 u504.2.1 u504.2.2.1 u504.2.2.2.1 u504.2.2.2.2.1 u504.2.2.2.2.2.1 u504.2.2.2.2.2.2.1 u504.2.2.2.2.2.2.2.1 u504.2.2.2.2.2.2.2.2 x369 x370 u491.2.2.2.2 (kc9 + 10) (ks9 + 60))) ∧ (¬ (lg_cmp (u491.2.2.2.2 0) (r503.toInt64)) = 0 → (True))))) ∧ (¬ r490 = 0 → (wl_La_law_23 L xs n324 (v325 + 5) u491.1 x327 x328 x329 x330 x331 x332 x333 x334 x335 x336 x337 x338 x339 x340 x341 x342 x343 x344 x345 x346 u491.2.1 u491.2.2.1 u491.2.2.2.1 u506 x351 x352 x353 x354 x355 x356 x357 x358 x359 x360 u504.2.1 u504.2.2.1 u504.2.2.2.1 u504.2.2.2.2.1 u504.2.2.2.2.2.1 u504.2.2.2.2.2.2.1 u504.2.2.2.2.2.2.2.1 u504.2.2.2.2.2.2.2.2 x369 x370 u491.2.2.2.2 (kc9 + 10) (ks9 + 60)))))) ∧ (¬ r505 = r490 → (True))))) u504.1 )) (x350, x361, x362, x363, x364, x365, x366, x367, x368) (xs (v325 + 1).toNatClampNeg) 1 ))))))) (fun E9 u492 => (False)) (x326, x347, x348, x349, x371) (xs (v325 + 1).toNatClampNeg) 1 ))))))) ∧ (¬ kk374 = 6 → (((kk374 = 7 → (vp_in (v325 + 1) L ∧ (vp_in (v325 + 2) L ∧ (vp_in (v325 + 3) L ∧ (wp_La_prove (fun r514 u515 => (vp_in (v325 + 1) L ∧ (vp_in (v325 + 2) L ∧ (vp_in (v325 + 3) L ∧ (wp_Mo_prove (fun r520 u521 => (wp_Mo_thrown (fun r522 u523 => (((r522 = r514 → (((r514 = 0 → (((r520 = 0 → ((((lg_cmp (u515.2.2.2.2.2.2.2.2.2.2.2.2.2.2.2.2.2.2.2.2.2.2 0) 0) = 0 → (wl_La_law_23 L xs n324 (v325 + 5) u515.1 u515.2.1 u515.2.2.1 u515.2.2.2.1 u515.2.2.2.2.1 u515.2.2.2.2.2.1 u515.2.2.2.2.2.2.1 u515.2.2.2.2.2.2.2.1 x334 u515.2.2.2.2.2.2.2.2.1 u515.2.2.2.2.2.2.2.2.2.1 u515.2.2.2.2.2.2.2.2.2.2.1 u515.2.2.2.2.2.2.2.2.2.2.2.1 u515.2.2.2.2.2.2.2.2.2.2.2.2.1 u515.2.2.2.2.2.2.2.2.2.2.2.2.2.1 x341 u515.2.2.2.2.2.2.2.2.2.2.2.2.2.2.1 u515.2.2.2.2.2.2.2.2.2.2.2.2.2.2.2.1 u515.2.2.2.2.2.2.2.2.2.2.2.2.2.2.2.2.1 u515.2.2.2.2.2.2.2.2.2.2.2.2.2.2.2.2.2.1 u515.2.2.2.2.2.2.2.2.2.2.2.2.2.2.2.2.2.2.1 u515.2.2.2.2.2.2.2.2.2.2.2.2.2.2.2.2.2.2.2.1 u515.2.2.2.2.2.2.2.2.2.2.2.2.2.2.2.2.2.2.2.2.1 u515.2.2.2.2.2.2.2.2.2.2.2.2.2.2.2.2.2.2.2.2.2.1 u523 u521.2.1 u521.2.2.1 u521.2.2.2.1 u521.2.2.2.2.1 u521.2.2.2.2.2.1 u521.2.2.2.2.2.2.1 u521.2.2.2.2.2.2.2.1 u521.2.2.2.2.2.2.2.2.1 x359 x360 u521.2.2.2.2.2.2.2.2.2.1 u521.2.2.2.2.2.2.2.2.2.2.1 u521.2.2.2.2.2.2.2.2.2.2.2.1 u521.2.2.2.2.2.2.2.2.2.2.2.2.1 u521.2.2.2.2.2.2.2.2.2.2.2.2.2.1 x366 u521.2.2.2.2.2.2.2.2.2.2.2.2.2.2.1 u521.2.2.2.2.2.2.2.2.2.2.2.2.2.2.2.1 u521.2.2.2.2.2.2.2.2.2.2.2.2.2.2.2.2.1 u521.2.2.2.2.2.2.2.2.2.2.2.2.2.2.2.2.2 u515.2.2.2.2.2.2.2.2.2.2.2.2.2.2.2.2.2.2.2.2.2.2 (kc9 + 10) (ks9 + 60))) ∧ (¬ (lg_cmp (u515.2.2.2.2.2.2.2.2.2.2.2.2.2.2.2.2.2.2.2.2.2.2 0) 0) = 0 → (True))))) ∧ (¬ r520 = 0 → ((((lg_cmp (u515.2.2.2.2.2.2.2.2.2.2.2.2.2.2.2.2.2.2.2.2.2.2 0) 1) = 0 → (wl_La_law_23 L xs n324 (v325 + 5) u515.1 u515.2.1 u515.2.2.1 u515.2.2.2.1 u515.2.2.2.2.1 u515.2.2.2.2.2.1 u515.2.2.2.2.2.2.1 u515.2.2.2.2.2.2.2.1 x334 u515.2.2.2.2.2.2.2.2.1 u515.2.2.2.2.2.2.2.2.2.1 u515.2.2.2.2.2.2.2.2.2.2.1 u515.2.2.2.2.2.2.2.2.2.2.2.1 u515.2.2.2.2.2.2.2.2.2.2.2.2.1 u515.2.2.2.2.2.2.2.2.2.2.2.2.2.1 x341 u515.2.2.2.2.2.2.2.2.2.2.2.2.2.2.1 u515.2.2.2.2.2.2.2.2.2.2.2.2.2.2.2.1 u515.2.2.2.2.2.2.2.2.2.2.2.2.2.2.2.2.1 u515.2.2.2.2.2.2.2.2.2.2.2.2.2.2.2.2.2.1 u515.2.2.2.2.2.2.2.2.2.2.2.2.2.2.2.2.2.2.1 u515.2.2.2.2.2.2.2.2.2.2.2.2.2.2.2.2.2.2.2.1 u515.2.2.2.2.2.2.2.2.2.2.2.2.2.2.2.2.2.2.2.2.1 u515.2.2.2.2.2.2.2.2.2.2.2.2.2.2.2.2.2.2.2.2.2.1 u523 u521.2.1 u521.2.2.1 u521.2.2.2.1 u521.2.2.2.2.1 u521.2.2.2.2.2.1 u521.2.2.2.2.2.2.1 u521.2.2.2.2.2.2.2.1 u521.2.2.2.2.2.2.2.2.1 x359 x360 u521.2.2.2.2.2.2.2.2.2.1 u521.2.2.2.2.2.2.2.2.2.2.1 u521.2.2.2.2.2.2.2.2.2.2.2.1 u521.2.2.2.2.2.2.2.2.2.2.2.2.1 u521.2.2.2.2.2.2.2.2.2.2.2.2.2.1 x366 u521.2.2.2.2.2.2.2.2.2.2.2.2.2.2.1 u521.2.2.2.2.2.2.2.2.2.2.2.2.2.2.2.1 u521.2.2.2.2.2.2.2.2.2.2.2.2.2.2.2.2.1 u521.2.2.2.2.2.2.2.2.2.2.2.2.2.2.2.2.2 u515.2.2.2.2.2.2.2.2.2.2.2.2.2.2.2.2.2.2.2.2.2.2 (kc9 + 10) (ks9 + 60))) ∧ (¬ (lg_cmp (u515.2.2.2.2.2.2.2.2.2.2.2.2.2.2.2.2.2.2.2.2.2.2 0) 1) = 0 → (True)))))))) ∧ (¬ r514 = 0 → (wl_La_law_23 L xs n324 (v325 + 5) u515.1 u515.2.1 u515.2.2.1 u515.2.2.2.1 u515.2.2.2.2.1 u515.2.2.2.2.2.1 u515.2.2.2.2.2.2.1 u515.2.2.2.2.2.2.2.1 x334 u515.2.2.2.2.2.2.2.2.1 u515.2.2.2.2.2.2.2.2.2.1 u515.2.2.2.2.2.2.2.2.2.2.1 u515.2.2.2.2.2.2.2.2.2.2.2.1 u515.2.2.2.2.2.2.2.2.2.2.2.2.1 u515.2.2.2.2.2.2.2.2.2.2.2.2.2.1 x341 u515.2.2.2.2.2.2.2.2.2.2.2.2.2.2.1 u515.2.2.2.2.2.2.2.2.2.2.2.2.2.2.2.1 u515.2.2.2.2.2.2.2.2.2.2.2.2.2.2.2.2.1 u515.2.2.2.2.2.2.2.2.2.2.2.2.2.2.2.2.2.1 u515.2.2.2.2.2.2.2.2.2.2.2.2.2.2.2.2.2.2.1 u515.2.2.2.2.2.2.2.2.2.2.2.2.2.2.2.2.2.2.2.1 u515.2.2.2.2.2.2.2.2.2.2.2.2.2.2.2.2.2.2.2.2.1 u515.2.2.2.2.2.2.2.2.2.2.2.2.2.2.2.2.2.2.2.2.2.1 u523 u521.2.1 u521.2.2.1 u521.2.2.2.1 u521.2.2.2.2.1 u521.2.2.2.2.2.1 u521.2.2.2.2.2.2.1 u521.2.2.2.2.2.2.2.1 u521.2.2.2.2.2.2.2.2.1 x359 x360 u521.2.2.2.2.2.2.2.2.2.1 u521.2.2.2.2.2.2.2.2.2.2.1 u521.2.2.2.2.2.2.2.2.2.2.2.1 u521.2.2.2.2.2.2.2.2.2.2.2.2.1 u521.2.2.2.2.2.2.2.2.2.2.2.2.2.1 x366 u521.2.2.2.2.2.2.2.2.2.2.2.2.2.2.1 u521.2.2.2.2.2.2.2.2.2.2.2.2.2.2.2.1 u521.2.2.2.2.2.2.2.2.2.2.2.2.2.2.2.2.1 u521.2.2.2.2.2.2.2.2.2.2.2.2.2.2.2.2.2 u515.2.2.2.2.2.2.2.2.2.2.2.2.2.2.2.2.2.2.2.2.2.2 (kc9 + 10) (ks9 + 60)))))) ∧ (¬ r522 = r514 → (True))))) u521.1 )) (x350, x351, x352, x353, x354, x355, x356, x357, x358, x361, x362, x363, x364, x365, x367, x368, x369, x370) (xs (v325 + 1).toNatClampNeg) (xs (v325 + 2).toNatClampNeg) (xs (v325 + 3).toNatClampNeg) ))))) (fun E9 u516 => (False)) (x326, x327, x328, x329, x330, x331, x332, x333, x335, x336, x337, x338, x339, x340, x342, x343, x344, x345, x346, x347, x348, x349, x371) (xs (v325 + 1).toNatClampNeg) (xs (v325 + 2).toNatClampNeg) (xs (v325 + 3).toNatClampNeg) ))))) ∧ (¬ kk374 = 7 → (((kk374 = 8 → (wp_Sc_block (fun r530 u531 => (wp_Mo_block (fun r532 u533 => (((r530 = r532 → (wl_La_law_23 L xs n324 (v325 + 5) u531.1 u531.2.1 u531.2.2.1 u531.2.2.2.1 u531.2.2.2.2.1 u531.2.2.2.2.2.1 u531.2.2.2.2.2.2.1 u531.2.2.2.2.2.2.2.1 x334 x335 x336 x337 u531.2.2.2.2.2.2.2.2.1 u531.2.2.2.2.2.2.2.2.2.1 u531.2.2.2.2.2.2.2.2.2.2.1 x341 x342 x343 x344 x345 u531.2.2.2.2.2.2.2.2.2.2.2.1 u531.2.2.2.2.2.2.2.2.2.2.2.2.1 u531.2.2.2.2.2.2.2.2.2.2.2.2.2.1 u531.2.2.2.2.2.2.2.2.2.2.2.2.2.2 u533.1 u533.2.1 u533.2.2.1 u533.2.2.2.1 u533.2.2.2.2.1 u533.2.2.2.2.2.1 u533.2.2.2.2.2.2.1 u533.2.2.2.2.2.2.2.1 u533.2.2.2.2.2.2.2.2.1 x359 u533.2.2.2.2.2.2.2.2.2.1 u533.2.2.2.2.2.2.2.2.2.2.1 u533.2.2.2.2.2.2.2.2.2.2.2.1 x363 x364 u533.2.2.2.2.2.2.2.2.2.2.2.2.1 x366 u533.2.2.2.2.2.2.2.2.2.2.2.2.2.1 u533.2.2.2.2.2.2.2.2.2.2.2.2.2.2 x369 x370 x371 (kc9 + 10) (ks9 + 60))) ∧ (¬ r530 = r532 → (True))))) (x350, x351, x352, x353, x354, x355, x356, x357, x358, x360, x361, x362, x365, x367, x368) )) (x326, x327, x328, x329, x330, x331, x332, x333, x338, x339, x340, x346, x347, x348, x349) )) ∧ (¬ kk374 = 8 → (((kk374 = 9 → (vp_in (v325 + 1) L ∧ (wp_La_draw (fun r537 u538 => (vp_in (v325 + 1) L ∧ (wp_Mo_draw (fun r541 u542 => (wp_Mo_thrown (fun r543 u544 => (((r543 = r537 → (((r537 = 0 → ((((lg_cmp (u538.2.2.2.2.2.2.2.2.2 0) (r541.toInt64)) = 0 → (wl_La_law_23 L xs n324 (v325 + 5) u538.1 u538.2.1 x328 x329 x330 x331 u538.2.2.1 u538.2.2.2.1 u538.2.2.2.2.1 x335 x336 x337 u538.2.2.2.2.2.1 u538.2.2.2.2.2.2.1 u538.2.2.2.2.2.2.2.1 u538.2.2.2.2.2.2.2.2.1 x342 x343 x344 x345 x346 x347 x348 x349 u544 x351 x352 u542.2.1 x354 u542.2.2.1 u542.2.2.2.1 u542.2.2.2.2.1 u542.2.2.2.2.2.1 u542.2.2.2.2.2.2.1 x360 x361 x362 x363 x364 x365 x366 x367 x368 u542.2.2.2.2.2.2.2 x370 u538.2.2.2.2.2.2.2.2.2 (kc9 + 10) (ks9 + 60))) ∧ (¬ (lg_cmp (u538.2.2.2.2.2.2.2.2.2 0) (r541.toInt64)) = 0 → (True))))) ∧ (¬ r537 = 0 → (wl_La_law_23 L xs n324 (v325 + 5) u538.1 u538.2.1 x328 x329 x330 x331 u538.2.2.1 u538.2.2.2.1 u538.2.2.2.2.1 x335 x336 x337 u538.2.2.2.2.2.1 u538.2.2.2.2.2.2.1 u538.2.2.2.2.2.2.2.1 u538.2.2.2.2.2.2.2.2.1 x342 x343 x344 x345 x346 x347 x348 x349 u544 x351 x352 u542.2.1 x354 u542.2.2.1 u542.2.2.2.1 u542.2.2.2.2.1 u542.2.2.2.2.2.1 u542.2.2.2.2.2.2.1 x360 x361 x362 x363 x364 x365 x366 x367 x368 u542.2.2.2.2.2.2.2 x370 u538.2.2.2.2.2.2.2.2.2 (kc9 + 10) (ks9 + 60)))))) ∧ (¬ r543 = r537 → (True))))) u542.1 )) (x350, x353, x355, x356, x357, x358, x359, x369) (xs (v325 + 1).toNatClampNeg) ))) (fun E9 u539 => (False)) (x326, x327, x332, x333, x334, x338, x339, x340, x341, x371) (xs (v325 + 1).toNatClampNeg) ))) ∧ (¬ kk374 = 9 → (((kk374 = 10 → (vp_in (v325 + 1) L ∧ (wp_Sc_balance (fun r550 u551 => (vp_in (v325 + 1) L ∧ (wp_Mo_balance (fun r553 u554 => (((r550 = r553 → (wl_La_law_23 L xs n324 (v325 + 5) u551.1 u551.2 x328 x329 x330 x331 x332 x333 x334 x335 x336 x337 x338 x339 x340 x341 x342 x343 x344 x345 x346 x347 x348 x349 u554.1 x351 x352 u554.2 x354 x355 x356 x357 x358 x359 x360 x361 x362 x363 x364 x365 x366 x367 x368 x369 x370 x371 (kc9 + 10) (ks9 + 60))) ∧ (¬ r550 = r553 → (True))))) (x350, x353) (xs (v325 + 1).toNatClampNeg) ))) (x326, x327) (xs (v325 + 1).toNatClampNeg) ))) ∧ (¬ kk374 = 10 → (((kk374 = 11 → (wp_Sc_pot (fun r557 u558 => (wp_Mo_pot (fun r559 u560 => (((r557 = r559 → (wl_La_law_23 L xs n324 (v325 + 5) u558 x327 x328 x329 x330 x331 x332 x333 x334 x335 x336 x337 x338 x339 x340 x341 x342 x343 x344 x345 x346 x347 x348 x349 u560 x351 x352 x353 x354 x355 x356 x357 x358 x359 x360 x361 x362 x363 x364 x365 x366 x367 x368 x369 x370 x371 (kc9 + 10) (ks9 + 60))) ∧ (¬ r557 = r559 → (True))))) x350 )) x326 )) ∧ (¬ kk374 = 11 → (((kk374 = 12 → (vp_in (v325 + 1) L ∧ (wp_Sc_word (fun r564 u565 => (vp_in (v325 + 1) L ∧ (wp_Mo_word (fun r567 u568 => (((r564 = r567 → (wl_La_law_23 L xs n324 (v325 + 5) u565.1 x327 x328 x329 u565.2.1 u565.2.2 x332 x333 x334 x335 x336 x337 x338 x339 x340 x341 x342 x343 x344 x345 x346 x347 x348 x349 u568.1 x351 x352 x353 u568.2 x355 x356 x357 x358 x359 x360 x361 x362 x363 x364 x365 x366 x367 x368 x369 x370 x371 (kc9 + 10) (ks9 + 60))) ∧ (¬ r564 = r567 → (True))))) (x350, x354) (xs (v325 + 1).toNatClampNeg) ))) (x326, x330, x331) (xs (v325 + 1).toNatClampNeg) ))) ∧ (¬ kk374 = 12 → (((kk374 = 13 → (vp_in (v325 + 1) L ∧ (wp_Sc_truth (fun r572 u573 => (vp_in (v325 + 1) L ∧ (wp_Mo_truth (fun r575 u576 => ((((lg_cmp r572 r575) = 0 → (wl_La_law_23 L xs n324 (v325 + 5) u573.1 x327 u573.2.1 u573.2.2.1 u573.2.2.2.1 u573.2.2.2.2.1 u573.2.2.2.2.2.1 u573.2.2.2.2.2.2.1 x334 u573.2.2.2.2.2.2.2.1 u573.2.2.2.2.2.2.2.2.1 u573.2.2.2.2.2.2.2.2.2.1 x338 x339 x340 x341 x342 x343 x344 x345 u573.2.2.2.2.2.2.2.2.2.2 x347 x348 x349 u576.1 u576.2.1 u576.2.2.1 x353 u576.2.2.2.1 u576.2.2.2.2.1 u576.2.2.2.2.2.1 x357 x358 x359 x360 x361 x362 x363 x364 x365 x366 x367 x368 u576.2.2.2.2.2.2 x370 x371 (kc9 + 10) (ks9 + 60))) ∧ (¬ (lg_cmp r572 r575) = 0 → (True))))) (x350, x351, x352, x354, x355, x356, x369) (xs (v325 + 1).toNatClampNeg) ))) (x326, x328, x329, x330, x331, x332, x333, x335, x336, x337, x346) (xs (v325 + 1).toNatClampNeg) ))) ∧ (¬ kk374 = 13 → (((kk374 = 14 → (wp_Sc_base (fun r579 u580 => (wp_Mo_base (fun r581 u582 => ((((lg_cmp r579 r581) = 0 → (wl_La_law_23 L xs n324 (v325 + 5) u580 x327 x328 x329 x330 x331 x332 x333 x334 x335 x336 x337 x338 x339 x340 x341 x342 x343 x344 x345 x346 x347 x348 x349 u582 x351 x352 x353 x354 x355 x356 x357 x358 x359 x360 x361 x362 x363 x364 x365 x366 x367 x368 x369 x370 x371 (kc9 + 10) (ks9 + 60))) ∧ (¬ (lg_cmp r579 r581) = 0 → (True))))) x350 )) x326 )) ∧ (¬ kk374 = 14 → (((kk374 = 15 → (vp_in (v325 + 1) L ∧ (wp_Sc_state (fun r586 u587 => (vp_in (v325 + 1) L ∧ (wp_Mo_state (fun r589 u590 => ((((lg_cmp r586 r589) = 0 → (wl_La_law_23 L xs n324 (v325 + 5) u587.1 x327 x328 x329 x330 x331 u587.2.1 u587.2.2 x334 x335 x336 x337 x338 x339 x340 x341 x342 x343 x344 x345 x346 x347 x348 x349 u590.1 x351 x352 x353 x354 u590.2 x356 x357 x358 x359 x360 x361 x362 x363 x364 x365 x366 x367 x368 x369 x370 x371 (kc9 + 10) (ks9 + 60))) ∧ (¬ (lg_cmp r586 r589) = 0 → (True))))) (x350, x355) (xs (v325 + 1).toNatClampNeg) ))) (x326, x332, x333) (xs (v325 + 1).toNatClampNeg) ))) ∧ (¬ kk374 = 15 → (((kk374 = 16 → (vp_in (v325 + 1) L ∧ (wp_Sc_assertion (fun r594 u595 => (vp_in (v325 + 1) L ∧ (wp_Mo_assertion (fun r597 u598 => ((((lg_cmp r594 r597) = 0 → (wl_La_law_23 L xs n324 (v325 + 5) u595.1 x327 x328 x329 x330 x331 x332 x333 x334 x335 x336 x337 x338 x339 x340 x341 x342 x343 x344 x345 u595.2.1 u595.2.2.1 u595.2.2.2.1 u595.2.2.2.2 u598.1 x351 x352 x353 x354 x355 x356 x357 x358 x359 x360 x361 x362 x363 x364 x365 x366 x367 u598.2 x369 x370 x371 (kc9 + 10) (ks9 + 60))) ∧ (¬ (lg_cmp r594 r597) = 0 → (True))))) (x350, x368) (xs (v325 + 1).toNatClampNeg) ))) (x326, x346, x347, x348, x349) (xs (v325 + 1).toNatClampNeg) ))) ∧ (¬ kk374 = 16 → (((kk374 = 17 → (vp_in (v325 + 1) L ∧ (vp_in (v325 + 2) L ∧ (wp_Sc_game (fun r603 u604 => (vp_in (v325 + 1) L ∧ (vp_in (v325 + 2) L ∧ (wp_Mo_game (fun r607 u608 => ((((lg_cmp r603 r607) = 0 → (wl_La_law_23 L xs n324 (v325 + 5) u604.1 x327 x328 x329 x330 x331 x332 x333 x334 x335 x336 x337 x338 x339 x340 x341 x342 x343 x344 x345 x346 u604.2.1 u604.2.2.1 u604.2.2.2 u608.1 x351 x352 x353 x354 x355 x356 x357 x358 x359 u608.2.1 u608.2.2.1 u608.2.2.2.1 u608.2.2.2.2.1 u608.2.2.2.2.2.1 u608.2.2.2.2.2.2.1 u608.2.2.2.2.2.2.2.1 u608.2.2.2.2.2.2.2.2.1 u608.2.2.2.2.2.2.2.2.2 x369 x370 x371 (kc9 + 10) (ks9 + 60))) ∧ (¬ (lg_cmp r603 r607) = 0 → (True))))) (x350, x360, x361, x362, x363, x364, x365, x366, x367, x368) (xs (v325 + 1).toNatClampNeg) (xs (v325 + 2).toNatClampNeg) )))) (x326, x347, x348, x349) (xs (v325 + 1).toNatClampNeg) (xs (v325 + 2).toNatClampNeg) )))) ∧ (¬ kk374 = 17 → (True))))))))))))))))))))))))))))))))))))))))))))))))))))))))))))))))))
def wp_La_law (L : Nat) (xs : Nat → Int32) : Prop := wp_Sc_init (fun u2 => (wp_Mo_init (fun u45 => (∃ n324 : Nat, wl_La_law_23 L xs n324 0 u2.1 u2.2.1 u2.2.2.1 u2.2.2.2.1 u2.2.2.2.2.1 u2.2.2.2.2.2.1 u2.2.2.2.2.2.2.1 u2.2.2.2.2.2.2.2.1 u2.2.2.2.2.2.2.2.2.1 u2.2.2.2.2.2.2.2.2.2.1 u2.2.2.2.2.2.2.2.2.2.2.1 u2.2.2.2.2.2.2.2.2.2.2.2.1 u2.2.2.2.2.2.2.2.2.2.2.2.2.1 u2.2.2.2.2.2.2.2.2.2.2.2.2.2.1 u2.2.2.2.2.2.2.2.2.2.2.2.2.2.2.1 u2.2.2.2.2.2.2.2.2.2.2.2.2.2.2.2.1 u2.2.2.2.2.2.2.2.2.2.2.2.2.2.2.2.2.1 u2.2.2.2.2.2.2.2.2.2.2.2.2.2.2.2.2.2.1 u2.2.2.2.2.2.2.2.2.2.2.2.2.2.2.2.2.2.2.1 u2.2.2.2.2.2.2.2.2.2.2.2.2.2.2.2.2.2.2.2.2.1 u2.2.2.2.2.2.2.2.2.2.2.2.2.2.2.2.2.2.2.2.2.2.1 u2.2.2.2.2.2.2.2.2.2.2.2.2.2.2.2.2.2.2.2.2.2.2.1 u2.2.2.2.2.2.2.2.2.2.2.2.2.2.2.2.2.2.2.2.2.2.2.2.1 u2.2.2.2.2.2.2.2.2.2.2.2.2.2.2.2.2.2.2.2.2.2.2.2.2 u45.1 u45.2.1 u45.2.2.1 u45.2.2.2.1 u45.2.2.2.2.1 u45.2.2.2.2.2.1 u45.2.2.2.2.2.2.1 u45.2.2.2.2.2.2.2.1 u45.2.2.2.2.2.2.2.2.1 u45.2.2.2.2.2.2.2.2.2.1 u45.2.2.2.2.2.2.2.2.2.2.1 u45.2.2.2.2.2.2.2.2.2.2.2.1 u45.2.2.2.2.2.2.2.2.2.2.2.2.1 u45.2.2.2.2.2.2.2.2.2.2.2.2.2.1 u45.2.2.2.2.2.2.2.2.2.2.2.2.2.2.1 u45.2.2.2.2.2.2.2.2.2.2.2.2.2.2.2.1 u45.2.2.2.2.2.2.2.2.2.2.2.2.2.2.2.2.1 u45.2.2.2.2.2.2.2.2.2.2.2.2.2.2.2.2.2.1 u45.2.2.2.2.2.2.2.2.2.2.2.2.2.2.2.2.2.2.1 u45.2.2.2.2.2.2.2.2.2.2.2.2.2.2.2.2.2.2.2.1 u45.2.2.2.2.2.2.2.2.2.2.2.2.2.2.2.2.2.2.2.2 (fun _ => 0) 49 641)) )) 
