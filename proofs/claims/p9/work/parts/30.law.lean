theorem wt_0 : Cond.initialized "StepCourtLaw" ∈ wz := wz_c tq_0_in 0 rfl rfl
theorem wt_19 : Cond.classLink "StepCourtLaw" 8 "StepCourt" ∈ wz := wz_c tq_0_in 19 rfl rfl
theorem wt_20 : Cond.instantiable "StepCourt" 13 ∈ wz := wz_c tq_0_in 20 rfl rfl
theorem wt_21 : Cond.methodLink "StepCourtLaw" 47 ⟨"StepCourt", "<init>", "()V"⟩ ∈ wz := wz_c tq_0_in 21 rfl rfl
theorem wt_22 : Cond.instanceMethod ⟨"StepCourt", "<init>", "()V"⟩ ∈ wz := wz_c tq_0_in 22 rfl rfl
theorem wt_23 : Cond.code ⟨"StepCourt", "<init>", "()V"⟩ prog_1_method_1_code 2 none ∈ wz := wz_c tq_0_in 23 rfl rfl
theorem wt_294 : Cond.methodLink "StepCourtLaw" 51 ⟨"StepCourt", "code", "(III)Z"⟩ ∈ wz := wz_c tq_12_in 6 rfl rfl
theorem wt_295 : Cond.instanceMethod ⟨"StepCourt", "code", "(III)Z"⟩ ∈ wz := wz_c tq_12_in 7 rfl rfl
theorem wt_296 : Cond.selects "StepCourt" ⟨"StepCourt", "code", "(III)Z"⟩ ⟨"StepCourt", "code", "(III)Z"⟩ ∈ wz := wz_c tq_12_in 8 rfl rfl
theorem wt_297 : Cond.code ⟨"StepCourt", "code", "(III)Z"⟩ prog_1_method_2_code 4 (some .boolean) ∈ wz := wz_c tq_12_in 9 rfl rfl
theorem wt_298 : Cond.methodLink "StepCourtLaw" 90 ⟨"StepCourt", "block", "()I"⟩ ∈ wz := wz_c tq_12_in 10 rfl rfl
theorem wt_299 : Cond.instanceMethod ⟨"StepCourt", "block", "()I"⟩ ∈ wz := wz_c tq_12_in 11 rfl rfl
theorem wt_300 : Cond.selects "StepCourt" ⟨"StepCourt", "block", "()I"⟩ ⟨"StepCourt", "block", "()I"⟩ ∈ wz := wz_c tq_12_in 12 rfl rfl
theorem wt_301 : Cond.code ⟨"StepCourt", "block", "()I"⟩ prog_1_method_10_code 1 (some .int) ∈ wz := wz_c tq_12_in 13 rfl rfl
theorem wt_374 : Cond.methodLink "StepCourtLaw" 97 ⟨"StepCourt", "balance", "(I)I"⟩ ∈ wz := wz_c tq_15_in 14 rfl rfl
theorem wt_375 : Cond.instanceMethod ⟨"StepCourt", "balance", "(I)I"⟩ ∈ wz := wz_c tq_15_in 15 rfl rfl
theorem wt_376 : Cond.selects "StepCourt" ⟨"StepCourt", "balance", "(I)I"⟩ ⟨"StepCourt", "balance", "(I)I"⟩ ∈ wz := wz_c tq_15_in 16 rfl rfl
theorem wt_377 : Cond.code ⟨"StepCourt", "balance", "(I)I"⟩ prog_1_method_12_code 2 (some .int) ∈ wz := wz_c tq_15_in 17 rfl rfl
theorem wt_378 : Cond.methodLink "StepCourtLaw" 101 ⟨"StepCourt", "pot", "()I"⟩ ∈ wz := wz_c tq_15_in 18 rfl rfl
theorem wt_379 : Cond.instanceMethod ⟨"StepCourt", "pot", "()I"⟩ ∈ wz := wz_c tq_15_in 19 rfl rfl
theorem wt_380 : Cond.selects "StepCourt" ⟨"StepCourt", "pot", "()I"⟩ ⟨"StepCourt", "pot", "()I"⟩ ∈ wz := wz_c tq_15_in 20 rfl rfl
theorem wt_381 : Cond.code ⟨"StepCourt", "pot", "()I"⟩ prog_1_method_13_code 1 (some .int) ∈ wz := wz_c tq_15_in 21 rfl rfl
theorem wt_382 : Cond.methodLink "StepCourtLaw" 105 ⟨"StepCourt", "word", "(I)I"⟩ ∈ wz := wz_c tq_15_in 22 rfl rfl
theorem wt_383 : Cond.instanceMethod ⟨"StepCourt", "word", "(I)I"⟩ ∈ wz := wz_c tq_15_in 23 rfl rfl
theorem wt_384 : Cond.selects "StepCourt" ⟨"StepCourt", "word", "(I)I"⟩ ⟨"StepCourt", "word", "(I)I"⟩ ∈ wz := wz_c tq_16_in 0 rfl rfl
theorem wt_385 : Cond.code ⟨"StepCourt", "word", "(I)I"⟩ prog_1_method_14_code 2 (some .int) ∈ wz := wz_c tq_16_in 1 rfl rfl
theorem wt_387 : Cond.methodLink "StepCourtLaw" 109 ⟨"StepCourt", "truth", "(I)J"⟩ ∈ wz := wz_c tq_16_in 3 rfl rfl
theorem wt_388 : Cond.instanceMethod ⟨"StepCourt", "truth", "(I)J"⟩ ∈ wz := wz_c tq_16_in 4 rfl rfl
theorem wt_389 : Cond.selects "StepCourt" ⟨"StepCourt", "truth", "(I)J"⟩ ⟨"StepCourt", "truth", "(I)J"⟩ ∈ wz := wz_c tq_16_in 5 rfl rfl
theorem wt_390 : Cond.code ⟨"StepCourt", "truth", "(I)J"⟩ prog_1_method_15_code 2 (some .long) ∈ wz := wz_c tq_16_in 6 rfl rfl
theorem wt_406 : Cond.methodLink "StepCourtLaw" 114 ⟨"StepCourt", "base", "()J"⟩ ∈ wz := wz_c tq_16_in 22 rfl rfl
theorem wt_407 : Cond.instanceMethod ⟨"StepCourt", "base", "()J"⟩ ∈ wz := wz_c tq_16_in 23 rfl rfl
theorem wt_408 : Cond.selects "StepCourt" ⟨"StepCourt", "base", "()J"⟩ ⟨"StepCourt", "base", "()J"⟩ ∈ wz := wz_c tq_17_in 0 rfl rfl
theorem wt_409 : Cond.code ⟨"StepCourt", "base", "()J"⟩ prog_1_method_16_code 1 (some .long) ∈ wz := wz_c tq_17_in 1 rfl rfl
theorem wt_410 : Cond.methodLink "StepCourtLaw" 119 ⟨"StepCourt", "state", "(I)J"⟩ ∈ wz := wz_c tq_17_in 2 rfl rfl
theorem wt_411 : Cond.instanceMethod ⟨"StepCourt", "state", "(I)J"⟩ ∈ wz := wz_c tq_17_in 3 rfl rfl
theorem wt_412 : Cond.selects "StepCourt" ⟨"StepCourt", "state", "(I)J"⟩ ⟨"StepCourt", "state", "(I)J"⟩ ∈ wz := wz_c tq_17_in 4 rfl rfl
theorem wt_413 : Cond.code ⟨"StepCourt", "state", "(I)J"⟩ prog_1_method_17_code 2 (some .long) ∈ wz := wz_c tq_17_in 5 rfl rfl
theorem wt_420 : Cond.methodLink "StepCourtLaw" 123 ⟨"StepCourt", "assertion", "(I)J"⟩ ∈ wz := wz_c tq_17_in 12 rfl rfl
theorem wt_421 : Cond.instanceMethod ⟨"StepCourt", "assertion", "(I)J"⟩ ∈ wz := wz_c tq_17_in 13 rfl rfl
theorem wt_422 : Cond.selects "StepCourt" ⟨"StepCourt", "assertion", "(I)J"⟩ ⟨"StepCourt", "assertion", "(I)J"⟩ ∈ wz := wz_c tq_17_in 14 rfl rfl
theorem wt_423 : Cond.code ⟨"StepCourt", "assertion", "(I)J"⟩ prog_1_method_18_code 2 (some .long) ∈ wz := wz_c tq_17_in 15 rfl rfl
theorem wt_425 : Cond.methodLink "StepCourtLaw" 127 ⟨"StepCourt", "game", "(II)J"⟩ ∈ wz := wz_c tq_17_in 17 rfl rfl
theorem wt_426 : Cond.instanceMethod ⟨"StepCourt", "game", "(II)J"⟩ ∈ wz := wz_c tq_17_in 18 rfl rfl
theorem wt_427 : Cond.selects "StepCourt" ⟨"StepCourt", "game", "(II)J"⟩ ⟨"StepCourt", "game", "(II)J"⟩ ∈ wz := wz_c tq_17_in 19 rfl rfl
theorem wt_428 : Cond.code ⟨"StepCourt", "game", "(II)J"⟩ prog_1_method_19_code 4 (some .long) ∈ wz := wz_c tq_17_in 20 rfl rfl
theorem wt_433 : Cond.methodLink "StepCourtLaw" 55 ⟨"StepCourtLaw", "deposit", "(LStepCourt;II[J)I"⟩ ∈ wz := wz_c tq_18_in 1 rfl rfl
theorem wt_434 : Cond.static ⟨"StepCourtLaw", "deposit", "(LStepCourt;II[J)I"⟩ ∈ wz := wz_c tq_18_in 2 rfl rfl
theorem wt_435 : Cond.codeWith ⟨"StepCourtLaw", "deposit", "(LStepCourt;II[J)I"⟩ method_3_code 5 (some .int) [(0, 10, 13, 13), (0, 10, 17, 15), (0, 10, 21, 17)] ∈ wz := wz_c tq_18_in 3 rfl rfl
theorem wt_555 : Cond.methodLink "StepCourtLaw" 61 ⟨"StepCourtLaw", "send", "(LStepCourt;I[J)I"⟩ ∈ wz := wz_c tq_23_in 3 rfl rfl
theorem wt_556 : Cond.static ⟨"StepCourtLaw", "send", "(LStepCourt;I[J)I"⟩ ∈ wz := wz_c tq_23_in 4 rfl rfl
theorem wt_557 : Cond.codeWith ⟨"StepCourtLaw", "send", "(LStepCourt;I[J)I"⟩ method_4_code 4 (some .int) [(0, 9, 12, 17)] ∈ wz := wz_c tq_23_in 5 rfl rfl
theorem wt_563 : Cond.methodLink "StepCourtLaw" 67 ⟨"StepCourtLaw", "claim", "(LStepCourt;IIJ[J)I"⟩ ∈ wz := wz_c tq_23_in 11 rfl rfl
theorem wt_564 : Cond.static ⟨"StepCourtLaw", "claim", "(LStepCourt;IIJ[J)I"⟩ ∈ wz := wz_c tq_23_in 12 rfl rfl
theorem wt_565 : Cond.codeWith ⟨"StepCourtLaw", "claim", "(LStepCourt;IIJ[J)I"⟩ method_5_code 7 (some .int) [(0, 11, 14, 13), (0, 11, 18, 27), (0, 11, 22, 15), (0, 11, 26, 17)] ∈ wz := wz_c tq_23_in 13 rfl rfl
theorem wt_597 : Cond.methodLink "StepCourtLaw" 71 ⟨"StepCourtLaw", "challenge", "(LStepCourt;I[J)I"⟩ ∈ wz := wz_c tq_24_in 21 rfl rfl
theorem wt_598 : Cond.static ⟨"StepCourtLaw", "challenge", "(LStepCourt;I[J)I"⟩ ∈ wz := wz_c tq_24_in 22 rfl rfl
theorem wt_599 : Cond.codeWith ⟨"StepCourtLaw", "challenge", "(LStepCourt;I[J)I"⟩ method_6_code 4 (some .int) [(0, 9, 12, 13), (0, 9, 15, 27), (0, 9, 18, 17)] ∈ wz := wz_c tq_24_in 23 rfl rfl
theorem wt_621 : Cond.methodLink "StepCourtLaw" 74 ⟨"StepCourtLaw", "post", "(LStepCourt;IJ[J)I"⟩ ∈ wz := wz_c tq_25_in 21 rfl rfl
theorem wt_622 : Cond.static ⟨"StepCourtLaw", "post", "(LStepCourt;IJ[J)I"⟩ ∈ wz := wz_c tq_25_in 22 rfl rfl
theorem wt_623 : Cond.codeWith ⟨"StepCourtLaw", "post", "(LStepCourt;IJ[J)I"⟩ method_7_code 6 (some .int) [(0, 10, 13, 13), (0, 10, 17, 27)] ∈ wz := wz_c tq_25_in 23 rfl rfl
theorem wt_642 : Cond.methodLink "StepCourtLaw" 78 ⟨"StepCourtLaw", "pick", "(LStepCourt;IZ[J)I"⟩ ∈ wz := wz_c tq_26_in 18 rfl rfl
theorem wt_643 : Cond.static ⟨"StepCourtLaw", "pick", "(LStepCourt;IZ[J)I"⟩ ∈ wz := wz_c tq_26_in 19 rfl rfl
theorem wt_644 : Cond.codeWith ⟨"StepCourtLaw", "pick", "(LStepCourt;IZ[J)I"⟩ method_8_code 5 (some .int) [(0, 10, 13, 13), (0, 10, 17, 27)] ∈ wz := wz_c tq_26_in 20 rfl rfl
theorem wt_654 : Cond.methodLink "StepCourtLaw" 82 ⟨"StepCourtLaw", "prove", "(LStepCourt;III[J)I"⟩ ∈ wz := wz_c tq_27_in 6 rfl rfl
theorem wt_655 : Cond.static ⟨"StepCourtLaw", "prove", "(LStepCourt;III[J)I"⟩ ∈ wz := wz_c tq_27_in 7 rfl rfl
theorem wt_656 : Cond.codeWith ⟨"StepCourtLaw", "prove", "(LStepCourt;III[J)I"⟩ method_9_code 6 (some .int) [(0, 19, 22, 13), (0, 19, 26, 27), (0, 19, 30, 15)] ∈ wz := wz_c tq_27_in 8 rfl rfl
theorem wt_692 : Cond.methodLink "StepCourtLaw" 94 ⟨"StepCourtLaw", "draw", "(LStepCourt;I[J)I"⟩ ∈ wz := wz_c tq_28_in 20 rfl rfl
theorem wt_693 : Cond.static ⟨"StepCourtLaw", "draw", "(LStepCourt;I[J)I"⟩ ∈ wz := wz_c tq_28_in 21 rfl rfl
theorem wt_694 : Cond.codeWith ⟨"StepCourtLaw", "draw", "(LStepCourt;I[J)I"⟩ method_10_code 4 (some .int) [(0, 9, 12, 13), (0, 9, 15, 27), (0, 9, 18, 15), (0, 9, 21, 17)] ∈ wz := wz_c tq_28_in 22 rfl rfl
theorem wt_703 : Cond.classLink "StepCourtLaw" 48 "StepCourtModel" ∈ wz := wz_c tq_29_in 7 rfl rfl
theorem wt_704 : Cond.instantiable "StepCourtModel" 35 ∈ wz := wz_c tq_29_in 8 rfl rfl
theorem wt_705 : Cond.methodLink "StepCourtLaw" 50 ⟨"StepCourtModel", "<init>", "()V"⟩ ∈ wz := wz_c tq_29_in 9 rfl rfl
theorem wt_706 : Cond.instanceMethod ⟨"StepCourtModel", "<init>", "()V"⟩ ∈ wz := wz_c tq_29_in 10 rfl rfl
theorem wt_707 : Cond.code ⟨"StepCourtModel", "<init>", "()V"⟩ prog_11_method_1_code 1 none ∈ wz := wz_c tq_29_in 11 rfl rfl
theorem wt_840 : Cond.methodLink "StepCourtLaw" 86 ⟨"StepCourtModel", "thrown", "()I"⟩ ∈ wz := wz_c tq_35_in 0 rfl rfl
theorem wt_841 : Cond.instanceMethod ⟨"StepCourtModel", "thrown", "()I"⟩ ∈ wz := wz_c tq_35_in 1 rfl rfl
theorem wt_842 : Cond.selects "StepCourtModel" ⟨"StepCourtModel", "thrown", "()I"⟩ ⟨"StepCourtModel", "thrown", "()I"⟩ ∈ wz := wz_c tq_35_in 2 rfl rfl
theorem wt_843 : Cond.code ⟨"StepCourtModel", "thrown", "()I"⟩ prog_11_method_2_code 1 (some .int) ∈ wz := wz_c tq_35_in 3 rfl rfl
theorem wt_844 : Cond.methodLink "StepCourtLaw" 54 ⟨"StepCourtModel", "code", "(III)Z"⟩ ∈ wz := wz_c tq_35_in 4 rfl rfl
theorem wt_845 : Cond.instanceMethod ⟨"StepCourtModel", "code", "(III)Z"⟩ ∈ wz := wz_c tq_35_in 5 rfl rfl
theorem wt_846 : Cond.selects "StepCourtModel" ⟨"StepCourtModel", "code", "(III)Z"⟩ ⟨"StepCourtModel", "code", "(III)Z"⟩ ∈ wz := wz_c tq_35_in 6 rfl rfl
theorem wt_847 : Cond.code ⟨"StepCourtModel", "code", "(III)Z"⟩ prog_11_method_15_code 4 (some .boolean) ∈ wz := wz_c tq_35_in 7 rfl rfl
theorem wt_848 : Cond.methodLink "StepCourtLaw" 60 ⟨"StepCourtModel", "deposit", "(II)I"⟩ ∈ wz := wz_c tq_35_in 8 rfl rfl
theorem wt_849 : Cond.instanceMethod ⟨"StepCourtModel", "deposit", "(II)I"⟩ ∈ wz := wz_c tq_35_in 9 rfl rfl
theorem wt_850 : Cond.selects "StepCourtModel" ⟨"StepCourtModel", "deposit", "(II)I"⟩ ⟨"StepCourtModel", "deposit", "(II)I"⟩ ∈ wz := wz_c tq_35_in 10 rfl rfl
theorem wt_851 : Cond.code ⟨"StepCourtModel", "deposit", "(II)I"⟩ prog_11_method_17_code 3 (some .int) ∈ wz := wz_c tq_35_in 11 rfl rfl
theorem wt_863 : Cond.methodLink "StepCourtLaw" 64 ⟨"StepCourtModel", "send", "(I)I"⟩ ∈ wz := wz_c tq_35_in 23 rfl rfl
theorem wt_864 : Cond.instanceMethod ⟨"StepCourtModel", "send", "(I)I"⟩ ∈ wz := wz_c tq_36_in 0 rfl rfl
theorem wt_865 : Cond.selects "StepCourtModel" ⟨"StepCourtModel", "send", "(I)I"⟩ ⟨"StepCourtModel", "send", "(I)I"⟩ ∈ wz := wz_c tq_36_in 1 rfl rfl
theorem wt_866 : Cond.code ⟨"StepCourtModel", "send", "(I)I"⟩ prog_11_method_18_code 2 (some .int) ∈ wz := wz_c tq_36_in 2 rfl rfl
theorem wt_867 : Cond.methodLink "StepCourtLaw" 70 ⟨"StepCourtModel", "claim", "(IIJ)J"⟩ ∈ wz := wz_c tq_36_in 3 rfl rfl
theorem wt_868 : Cond.instanceMethod ⟨"StepCourtModel", "claim", "(IIJ)J"⟩ ∈ wz := wz_c tq_36_in 4 rfl rfl
theorem wt_869 : Cond.selects "StepCourtModel" ⟨"StepCourtModel", "claim", "(IIJ)J"⟩ ⟨"StepCourtModel", "claim", "(IIJ)J"⟩ ∈ wz := wz_c tq_36_in 5 rfl rfl
theorem wt_870 : Cond.code ⟨"StepCourtModel", "claim", "(IIJ)J"⟩ prog_11_method_19_code 5 (some .long) ∈ wz := wz_c tq_36_in 6 rfl rfl
theorem wt_887 : Cond.methodLink "StepCourtLaw" 73 ⟨"StepCourtModel", "challenge", "(I)I"⟩ ∈ wz := wz_c tq_36_in 23 rfl rfl
theorem wt_888 : Cond.instanceMethod ⟨"StepCourtModel", "challenge", "(I)I"⟩ ∈ wz := wz_c tq_37_in 0 rfl rfl
theorem wt_889 : Cond.selects "StepCourtModel" ⟨"StepCourtModel", "challenge", "(I)I"⟩ ⟨"StepCourtModel", "challenge", "(I)I"⟩ ∈ wz := wz_c tq_37_in 1 rfl rfl
theorem wt_890 : Cond.code ⟨"StepCourtModel", "challenge", "(I)I"⟩ prog_11_method_20_code 4 (some .int) ∈ wz := wz_c tq_37_in 2 rfl rfl
theorem wt_891 : Cond.methodLink "StepCourtLaw" 77 ⟨"StepCourtModel", "post", "(IJ)J"⟩ ∈ wz := wz_c tq_37_in 3 rfl rfl
theorem wt_892 : Cond.instanceMethod ⟨"StepCourtModel", "post", "(IJ)J"⟩ ∈ wz := wz_c tq_37_in 4 rfl rfl
theorem wt_893 : Cond.selects "StepCourtModel" ⟨"StepCourtModel", "post", "(IJ)J"⟩ ⟨"StepCourtModel", "post", "(IJ)J"⟩ ∈ wz := wz_c tq_37_in 5 rfl rfl
theorem wt_894 : Cond.code ⟨"StepCourtModel", "post", "(IJ)J"⟩ prog_11_method_28_code 4 (some .long) ∈ wz := wz_c tq_37_in 6 rfl rfl
theorem wt_903 : Cond.methodLink "StepCourtLaw" 81 ⟨"StepCourtModel", "pick", "(IZ)I"⟩ ∈ wz := wz_c tq_37_in 15 rfl rfl
theorem wt_904 : Cond.instanceMethod ⟨"StepCourtModel", "pick", "(IZ)I"⟩ ∈ wz := wz_c tq_37_in 16 rfl rfl
theorem wt_905 : Cond.selects "StepCourtModel" ⟨"StepCourtModel", "pick", "(IZ)I"⟩ ⟨"StepCourtModel", "pick", "(IZ)I"⟩ ∈ wz := wz_c tq_37_in 17 rfl rfl
theorem wt_906 : Cond.code ⟨"StepCourtModel", "pick", "(IZ)I"⟩ prog_11_method_29_code 4 (some .int) ∈ wz := wz_c tq_37_in 18 rfl rfl
theorem wt_907 : Cond.methodLink "StepCourtLaw" 85 ⟨"StepCourtModel", "prove", "(III)Z"⟩ ∈ wz := wz_c tq_37_in 19 rfl rfl
theorem wt_908 : Cond.instanceMethod ⟨"StepCourtModel", "prove", "(III)Z"⟩ ∈ wz := wz_c tq_37_in 20 rfl rfl
theorem wt_909 : Cond.selects "StepCourtModel" ⟨"StepCourtModel", "prove", "(III)Z"⟩ ⟨"StepCourtModel", "prove", "(III)Z"⟩ ∈ wz := wz_c tq_37_in 21 rfl rfl
theorem wt_910 : Cond.code ⟨"StepCourtModel", "prove", "(III)Z"⟩ prog_11_method_32_code 4 (some .boolean) ∈ wz := wz_c tq_37_in 22 rfl rfl
theorem wt_935 : Cond.methodLink "StepCourtLaw" 93 ⟨"StepCourtModel", "block", "()I"⟩ ∈ wz := wz_c tq_38_in 23 rfl rfl
theorem wt_936 : Cond.instanceMethod ⟨"StepCourtModel", "block", "()I"⟩ ∈ wz := wz_c tq_39_in 0 rfl rfl
theorem wt_937 : Cond.selects "StepCourtModel" ⟨"StepCourtModel", "block", "()I"⟩ ⟨"StepCourtModel", "block", "()I"⟩ ∈ wz := wz_c tq_39_in 1 rfl rfl
theorem wt_938 : Cond.code ⟨"StepCourtModel", "block", "()I"⟩ prog_11_method_33_code 2 (some .int) ∈ wz := wz_c tq_39_in 2 rfl rfl
theorem wt_943 : Cond.methodLink "StepCourtLaw" 96 ⟨"StepCourtModel", "draw", "(I)I"⟩ ∈ wz := wz_c tq_39_in 7 rfl rfl
theorem wt_944 : Cond.instanceMethod ⟨"StepCourtModel", "draw", "(I)I"⟩ ∈ wz := wz_c tq_39_in 8 rfl rfl
theorem wt_945 : Cond.selects "StepCourtModel" ⟨"StepCourtModel", "draw", "(I)I"⟩ ⟨"StepCourtModel", "draw", "(I)I"⟩ ∈ wz := wz_c tq_39_in 9 rfl rfl
theorem wt_946 : Cond.code ⟨"StepCourtModel", "draw", "(I)I"⟩ prog_11_method_35_code 2 (some .int) ∈ wz := wz_c tq_39_in 10 rfl rfl
theorem wt_951 : Cond.methodLink "StepCourtLaw" 100 ⟨"StepCourtModel", "balance", "(I)I"⟩ ∈ wz := wz_c tq_39_in 15 rfl rfl
theorem wt_952 : Cond.instanceMethod ⟨"StepCourtModel", "balance", "(I)I"⟩ ∈ wz := wz_c tq_39_in 16 rfl rfl
theorem wt_953 : Cond.selects "StepCourtModel" ⟨"StepCourtModel", "balance", "(I)I"⟩ ⟨"StepCourtModel", "balance", "(I)I"⟩ ∈ wz := wz_c tq_39_in 17 rfl rfl
theorem wt_954 : Cond.code ⟨"StepCourtModel", "balance", "(I)I"⟩ prog_11_method_36_code 2 (some .int) ∈ wz := wz_c tq_39_in 18 rfl rfl
theorem wt_955 : Cond.methodLink "StepCourtLaw" 104 ⟨"StepCourtModel", "pot", "()I"⟩ ∈ wz := wz_c tq_39_in 19 rfl rfl
theorem wt_956 : Cond.instanceMethod ⟨"StepCourtModel", "pot", "()I"⟩ ∈ wz := wz_c tq_39_in 20 rfl rfl
theorem wt_957 : Cond.selects "StepCourtModel" ⟨"StepCourtModel", "pot", "()I"⟩ ⟨"StepCourtModel", "pot", "()I"⟩ ∈ wz := wz_c tq_39_in 21 rfl rfl
theorem wt_958 : Cond.code ⟨"StepCourtModel", "pot", "()I"⟩ prog_11_method_37_code 1 (some .int) ∈ wz := wz_c tq_39_in 22 rfl rfl
theorem wt_959 : Cond.methodLink "StepCourtLaw" 108 ⟨"StepCourtModel", "word", "(I)I"⟩ ∈ wz := wz_c tq_39_in 23 rfl rfl
theorem wt_960 : Cond.instanceMethod ⟨"StepCourtModel", "word", "(I)I"⟩ ∈ wz := wz_c tq_40_in 0 rfl rfl
theorem wt_961 : Cond.selects "StepCourtModel" ⟨"StepCourtModel", "word", "(I)I"⟩ ⟨"StepCourtModel", "word", "(I)I"⟩ ∈ wz := wz_c tq_40_in 1 rfl rfl
theorem wt_962 : Cond.code ⟨"StepCourtModel", "word", "(I)I"⟩ prog_11_method_38_code 2 (some .int) ∈ wz := wz_c tq_40_in 2 rfl rfl
theorem wt_963 : Cond.methodLink "StepCourtLaw" 113 ⟨"StepCourtModel", "truth", "(I)J"⟩ ∈ wz := wz_c tq_40_in 3 rfl rfl
theorem wt_964 : Cond.instanceMethod ⟨"StepCourtModel", "truth", "(I)J"⟩ ∈ wz := wz_c tq_40_in 4 rfl rfl
theorem wt_965 : Cond.selects "StepCourtModel" ⟨"StepCourtModel", "truth", "(I)J"⟩ ⟨"StepCourtModel", "truth", "(I)J"⟩ ∈ wz := wz_c tq_40_in 5 rfl rfl
theorem wt_966 : Cond.code ⟨"StepCourtModel", "truth", "(I)J"⟩ prog_11_method_39_code 2 (some .long) ∈ wz := wz_c tq_40_in 6 rfl rfl
theorem wt_967 : Cond.methodLink "StepCourtLaw" 118 ⟨"StepCourtModel", "base", "()J"⟩ ∈ wz := wz_c tq_40_in 7 rfl rfl
theorem wt_968 : Cond.instanceMethod ⟨"StepCourtModel", "base", "()J"⟩ ∈ wz := wz_c tq_40_in 8 rfl rfl
theorem wt_969 : Cond.selects "StepCourtModel" ⟨"StepCourtModel", "base", "()J"⟩ ⟨"StepCourtModel", "base", "()J"⟩ ∈ wz := wz_c tq_40_in 9 rfl rfl
theorem wt_970 : Cond.code ⟨"StepCourtModel", "base", "()J"⟩ prog_11_method_40_code 1 (some .long) ∈ wz := wz_c tq_40_in 10 rfl rfl
theorem wt_971 : Cond.methodLink "StepCourtLaw" 122 ⟨"StepCourtModel", "state", "(I)J"⟩ ∈ wz := wz_c tq_40_in 11 rfl rfl
theorem wt_972 : Cond.instanceMethod ⟨"StepCourtModel", "state", "(I)J"⟩ ∈ wz := wz_c tq_40_in 12 rfl rfl
theorem wt_973 : Cond.selects "StepCourtModel" ⟨"StepCourtModel", "state", "(I)J"⟩ ⟨"StepCourtModel", "state", "(I)J"⟩ ∈ wz := wz_c tq_40_in 13 rfl rfl
theorem wt_974 : Cond.code ⟨"StepCourtModel", "state", "(I)J"⟩ prog_11_method_41_code 2 (some .long) ∈ wz := wz_c tq_40_in 14 rfl rfl
theorem wt_975 : Cond.methodLink "StepCourtLaw" 126 ⟨"StepCourtModel", "assertion", "(I)J"⟩ ∈ wz := wz_c tq_40_in 15 rfl rfl
theorem wt_976 : Cond.instanceMethod ⟨"StepCourtModel", "assertion", "(I)J"⟩ ∈ wz := wz_c tq_40_in 16 rfl rfl
theorem wt_977 : Cond.selects "StepCourtModel" ⟨"StepCourtModel", "assertion", "(I)J"⟩ ⟨"StepCourtModel", "assertion", "(I)J"⟩ ∈ wz := wz_c tq_40_in 17 rfl rfl
theorem wt_978 : Cond.code ⟨"StepCourtModel", "assertion", "(I)J"⟩ prog_11_method_42_code 2 (some .long) ∈ wz := wz_c tq_40_in 18 rfl rfl
theorem wt_980 : Cond.methodLink "StepCourtLaw" 131 ⟨"StepCourtModel", "game", "(II)J"⟩ ∈ wz := wz_c tq_40_in 20 rfl rfl
theorem wt_981 : Cond.instanceMethod ⟨"StepCourtModel", "game", "(II)J"⟩ ∈ wz := wz_c tq_40_in 21 rfl rfl
theorem wt_982 : Cond.selects "StepCourtModel" ⟨"StepCourtModel", "game", "(II)J"⟩ ⟨"StepCourtModel", "game", "(II)J"⟩ ∈ wz := wz_c tq_40_in 22 rfl rfl
theorem wt_983 : Cond.code ⟨"StepCourtModel", "game", "(II)J"⟩ prog_11_method_43_code 3 (some .long) ∈ wz := wz_c tq_40_in 23 rfl rfl
theorem wt_984 : Cond.constantLong "StepCourtLaw" 65 (4294967295) ∈ wz := wz_c tq_41_in 0 rfl rfl
theorem dqLa_law_0 : decode cLa_law 0 = .ok (.new 8, 3) ∧ decode cLa_law 3 = .ok (.dup, 1) ∧ decode cLa_law 4 = .ok (.invokespecial 47, 3) ∧ decode cLa_law 7 = .ok (.astore_n 1, 1) ∧ decode cLa_law 8 = .ok (.new 48, 3) ∧ decode cLa_law 11 = .ok (.dup, 1) ∧ decode cLa_law 12 = .ok (.invokespecial 50, 3) ∧ decode cLa_law 15 = .ok (.astore_n 2, 1) ∧ decode cLa_law 16 = .ok (.iconst 1, 1) ∧ decode cLa_law 17 = .ok (.newarray .long, 2) ∧ decode cLa_law 19 = .ok (.astore_n 3, 1) ∧ decode cLa_law 20 = .ok (.iconst 0, 1) ∧ decode cLa_law 21 = .ok (.istore 4, 2) ∧ decode cLa_law 23 = .ok (.iload 4, 2) ∧ decode cLa_law 25 = .ok (.aload_n 0, 1) ∧ decode cLa_law 26 = .ok (.arraylength, 1) := by decide +kernel
theorem dLa_law_0 : decode cLa_law 0 = .ok (.new 8, 3) := dqLa_law_0.1
theorem dLa_law_3 : decode cLa_law 3 = .ok (.dup, 1) := dqLa_law_0.2.1
theorem dLa_law_4 : decode cLa_law 4 = .ok (.invokespecial 47, 3) := dqLa_law_0.2.2.1
theorem dLa_law_7 : decode cLa_law 7 = .ok (.astore_n 1, 1) := dqLa_law_0.2.2.2.1
theorem dLa_law_8 : decode cLa_law 8 = .ok (.new 48, 3) := dqLa_law_0.2.2.2.2.1
theorem dLa_law_11 : decode cLa_law 11 = .ok (.dup, 1) := dqLa_law_0.2.2.2.2.2.1
theorem dLa_law_12 : decode cLa_law 12 = .ok (.invokespecial 50, 3) := dqLa_law_0.2.2.2.2.2.2.1
theorem dLa_law_15 : decode cLa_law 15 = .ok (.astore_n 2, 1) := dqLa_law_0.2.2.2.2.2.2.2.1
theorem dLa_law_16 : decode cLa_law 16 = .ok (.iconst 1, 1) := dqLa_law_0.2.2.2.2.2.2.2.2.1
theorem dLa_law_17 : decode cLa_law 17 = .ok (.newarray .long, 2) := dqLa_law_0.2.2.2.2.2.2.2.2.2.1
theorem dLa_law_19 : decode cLa_law 19 = .ok (.astore_n 3, 1) := dqLa_law_0.2.2.2.2.2.2.2.2.2.2.1
theorem dLa_law_20 : decode cLa_law 20 = .ok (.iconst 0, 1) := dqLa_law_0.2.2.2.2.2.2.2.2.2.2.2.1
theorem dLa_law_21 : decode cLa_law 21 = .ok (.istore 4, 2) := dqLa_law_0.2.2.2.2.2.2.2.2.2.2.2.2.1
theorem dLa_law_23 : decode cLa_law 23 = .ok (.iload 4, 2) := dqLa_law_0.2.2.2.2.2.2.2.2.2.2.2.2.2.1
theorem dLa_law_25 : decode cLa_law 25 = .ok (.aload_n 0, 1) := dqLa_law_0.2.2.2.2.2.2.2.2.2.2.2.2.2.2.1
theorem dLa_law_26 : decode cLa_law 26 = .ok (.arraylength, 1) := dqLa_law_0.2.2.2.2.2.2.2.2.2.2.2.2.2.2.2
theorem dqLa_law_16 : decode cLa_law 27 = .ok (.iconst 5, 1) ∧ decode cLa_law 28 = .ok (.isub, 1) ∧ decode cLa_law 29 = .ok (.if_icmp .gt 774, 3) ∧ decode cLa_law 32 = .ok (.aload_n 0, 1) ∧ decode cLa_law 33 = .ok (.iload 4, 2) ∧ decode cLa_law 35 = .ok (.iaload, 1) ∧ decode cLa_law 36 = .ok (.bipush 31, 2) ∧ decode cLa_law 38 = .ok (.iand, 1) ∧ decode cLa_law 39 = .ok (.tableswitch 758 0 17 #[85, 134, 174, 202, 286, 314, 386, 442, 529, 542, 570, 595, 608, 633, 658, 671, 696, 721], 85) ∧ decode cLa_law 124 = .ok (.aload_n 1, 1) ∧ decode cLa_law 125 = .ok (.aload_n 0, 1) ∧ decode cLa_law 126 = .ok (.iload 4, 2) ∧ decode cLa_law 128 = .ok (.iconst 1, 1) ∧ decode cLa_law 129 = .ok (.iadd, 1) ∧ decode cLa_law 130 = .ok (.iaload, 1) ∧ decode cLa_law 131 = .ok (.aload_n 0, 1) := by decide +kernel
theorem dLa_law_27 : decode cLa_law 27 = .ok (.iconst 5, 1) := dqLa_law_16.1
theorem dLa_law_28 : decode cLa_law 28 = .ok (.isub, 1) := dqLa_law_16.2.1
theorem dLa_law_29 : decode cLa_law 29 = .ok (.if_icmp .gt 774, 3) := dqLa_law_16.2.2.1
theorem dLa_law_32 : decode cLa_law 32 = .ok (.aload_n 0, 1) := dqLa_law_16.2.2.2.1
theorem dLa_law_33 : decode cLa_law 33 = .ok (.iload 4, 2) := dqLa_law_16.2.2.2.2.1
theorem dLa_law_35 : decode cLa_law 35 = .ok (.iaload, 1) := dqLa_law_16.2.2.2.2.2.1
theorem dLa_law_36 : decode cLa_law 36 = .ok (.bipush 31, 2) := dqLa_law_16.2.2.2.2.2.2.1
theorem dLa_law_38 : decode cLa_law 38 = .ok (.iand, 1) := dqLa_law_16.2.2.2.2.2.2.2.1
theorem dLa_law_39 : decode cLa_law 39 = .ok (.tableswitch 758 0 17 #[85, 134, 174, 202, 286, 314, 386, 442, 529, 542, 570, 595, 608, 633, 658, 671, 696, 721], 85) := dqLa_law_16.2.2.2.2.2.2.2.2.1
theorem dLa_law_124 : decode cLa_law 124 = .ok (.aload_n 1, 1) := dqLa_law_16.2.2.2.2.2.2.2.2.2.1
theorem dLa_law_125 : decode cLa_law 125 = .ok (.aload_n 0, 1) := dqLa_law_16.2.2.2.2.2.2.2.2.2.2.1
theorem dLa_law_126 : decode cLa_law 126 = .ok (.iload 4, 2) := dqLa_law_16.2.2.2.2.2.2.2.2.2.2.2.1
theorem dLa_law_128 : decode cLa_law 128 = .ok (.iconst 1, 1) := dqLa_law_16.2.2.2.2.2.2.2.2.2.2.2.2.1
theorem dLa_law_129 : decode cLa_law 129 = .ok (.iadd, 1) := dqLa_law_16.2.2.2.2.2.2.2.2.2.2.2.2.2.1
theorem dLa_law_130 : decode cLa_law 130 = .ok (.iaload, 1) := dqLa_law_16.2.2.2.2.2.2.2.2.2.2.2.2.2.2.1
theorem dLa_law_131 : decode cLa_law 131 = .ok (.aload_n 0, 1) := dqLa_law_16.2.2.2.2.2.2.2.2.2.2.2.2.2.2.2
theorem dqLa_law_32 : decode cLa_law 132 = .ok (.iload 4, 2) ∧ decode cLa_law 134 = .ok (.iconst 2, 1) ∧ decode cLa_law 135 = .ok (.iadd, 1) ∧ decode cLa_law 136 = .ok (.iaload, 1) ∧ decode cLa_law 137 = .ok (.aload_n 0, 1) ∧ decode cLa_law 138 = .ok (.iload 4, 2) ∧ decode cLa_law 140 = .ok (.iconst 3, 1) ∧ decode cLa_law 141 = .ok (.iadd, 1) ∧ decode cLa_law 142 = .ok (.iaload, 1) ∧ decode cLa_law 143 = .ok (.invokevirtual 51, 3) ∧ decode cLa_law 146 = .ok (.pop, 1) ∧ decode cLa_law 147 = .ok (.aload_n 2, 1) ∧ decode cLa_law 148 = .ok (.aload_n 0, 1) ∧ decode cLa_law 149 = .ok (.iload 4, 2) ∧ decode cLa_law 151 = .ok (.iconst 1, 1) ∧ decode cLa_law 152 = .ok (.iadd, 1) := by decide +kernel
theorem dLa_law_132 : decode cLa_law 132 = .ok (.iload 4, 2) := dqLa_law_32.1
theorem dLa_law_134 : decode cLa_law 134 = .ok (.iconst 2, 1) := dqLa_law_32.2.1
theorem dLa_law_135 : decode cLa_law 135 = .ok (.iadd, 1) := dqLa_law_32.2.2.1
theorem dLa_law_136 : decode cLa_law 136 = .ok (.iaload, 1) := dqLa_law_32.2.2.2.1
theorem dLa_law_137 : decode cLa_law 137 = .ok (.aload_n 0, 1) := dqLa_law_32.2.2.2.2.1
theorem dLa_law_138 : decode cLa_law 138 = .ok (.iload 4, 2) := dqLa_law_32.2.2.2.2.2.1
theorem dLa_law_140 : decode cLa_law 140 = .ok (.iconst 3, 1) := dqLa_law_32.2.2.2.2.2.2.1
theorem dLa_law_141 : decode cLa_law 141 = .ok (.iadd, 1) := dqLa_law_32.2.2.2.2.2.2.2.1
theorem dLa_law_142 : decode cLa_law 142 = .ok (.iaload, 1) := dqLa_law_32.2.2.2.2.2.2.2.2.1
theorem dLa_law_143 : decode cLa_law 143 = .ok (.invokevirtual 51, 3) := dqLa_law_32.2.2.2.2.2.2.2.2.2.1
theorem dLa_law_146 : decode cLa_law 146 = .ok (.pop, 1) := dqLa_law_32.2.2.2.2.2.2.2.2.2.2.1
theorem dLa_law_147 : decode cLa_law 147 = .ok (.aload_n 2, 1) := dqLa_law_32.2.2.2.2.2.2.2.2.2.2.2.1
theorem dLa_law_148 : decode cLa_law 148 = .ok (.aload_n 0, 1) := dqLa_law_32.2.2.2.2.2.2.2.2.2.2.2.2.1
theorem dLa_law_149 : decode cLa_law 149 = .ok (.iload 4, 2) := dqLa_law_32.2.2.2.2.2.2.2.2.2.2.2.2.2.1
theorem dLa_law_151 : decode cLa_law 151 = .ok (.iconst 1, 1) := dqLa_law_32.2.2.2.2.2.2.2.2.2.2.2.2.2.2.1
theorem dLa_law_152 : decode cLa_law 152 = .ok (.iadd, 1) := dqLa_law_32.2.2.2.2.2.2.2.2.2.2.2.2.2.2.2
theorem dqLa_law_48 : decode cLa_law 153 = .ok (.iaload, 1) ∧ decode cLa_law 154 = .ok (.aload_n 0, 1) ∧ decode cLa_law 155 = .ok (.iload 4, 2) ∧ decode cLa_law 157 = .ok (.iconst 2, 1) ∧ decode cLa_law 158 = .ok (.iadd, 1) ∧ decode cLa_law 159 = .ok (.iaload, 1) ∧ decode cLa_law 160 = .ok (.aload_n 0, 1) ∧ decode cLa_law 161 = .ok (.iload 4, 2) ∧ decode cLa_law 163 = .ok (.iconst 3, 1) ∧ decode cLa_law 164 = .ok (.iadd, 1) ∧ decode cLa_law 165 = .ok (.iaload, 1) ∧ decode cLa_law 166 = .ok (.invokevirtual 54, 3) ∧ decode cLa_law 169 = .ok (.pop, 1) ∧ decode cLa_law 170 = .ok (.goto 627, 3) ∧ decode cLa_law 173 = .ok (.aload_n 1, 1) ∧ decode cLa_law 174 = .ok (.aload_n 0, 1) := by decide +kernel
theorem dLa_law_153 : decode cLa_law 153 = .ok (.iaload, 1) := dqLa_law_48.1
theorem dLa_law_154 : decode cLa_law 154 = .ok (.aload_n 0, 1) := dqLa_law_48.2.1
theorem dLa_law_155 : decode cLa_law 155 = .ok (.iload 4, 2) := dqLa_law_48.2.2.1
theorem dLa_law_157 : decode cLa_law 157 = .ok (.iconst 2, 1) := dqLa_law_48.2.2.2.1
theorem dLa_law_158 : decode cLa_law 158 = .ok (.iadd, 1) := dqLa_law_48.2.2.2.2.1
theorem dLa_law_159 : decode cLa_law 159 = .ok (.iaload, 1) := dqLa_law_48.2.2.2.2.2.1
theorem dLa_law_160 : decode cLa_law 160 = .ok (.aload_n 0, 1) := dqLa_law_48.2.2.2.2.2.2.1
theorem dLa_law_161 : decode cLa_law 161 = .ok (.iload 4, 2) := dqLa_law_48.2.2.2.2.2.2.2.1
theorem dLa_law_163 : decode cLa_law 163 = .ok (.iconst 3, 1) := dqLa_law_48.2.2.2.2.2.2.2.2.1
theorem dLa_law_164 : decode cLa_law 164 = .ok (.iadd, 1) := dqLa_law_48.2.2.2.2.2.2.2.2.2.1
theorem dLa_law_165 : decode cLa_law 165 = .ok (.iaload, 1) := dqLa_law_48.2.2.2.2.2.2.2.2.2.2.1
theorem dLa_law_166 : decode cLa_law 166 = .ok (.invokevirtual 54, 3) := dqLa_law_48.2.2.2.2.2.2.2.2.2.2.2.1
theorem dLa_law_169 : decode cLa_law 169 = .ok (.pop, 1) := dqLa_law_48.2.2.2.2.2.2.2.2.2.2.2.2.1
theorem dLa_law_170 : decode cLa_law 170 = .ok (.goto 627, 3) := dqLa_law_48.2.2.2.2.2.2.2.2.2.2.2.2.2.1
theorem dLa_law_173 : decode cLa_law 173 = .ok (.aload_n 1, 1) := dqLa_law_48.2.2.2.2.2.2.2.2.2.2.2.2.2.2.1
theorem dLa_law_174 : decode cLa_law 174 = .ok (.aload_n 0, 1) := dqLa_law_48.2.2.2.2.2.2.2.2.2.2.2.2.2.2.2
theorem dqLa_law_64 : decode cLa_law 175 = .ok (.iload 4, 2) ∧ decode cLa_law 177 = .ok (.iconst 1, 1) ∧ decode cLa_law 178 = .ok (.iadd, 1) ∧ decode cLa_law 179 = .ok (.iaload, 1) ∧ decode cLa_law 180 = .ok (.aload_n 0, 1) ∧ decode cLa_law 181 = .ok (.iload 4, 2) ∧ decode cLa_law 183 = .ok (.iconst 2, 1) ∧ decode cLa_law 184 = .ok (.iadd, 1) ∧ decode cLa_law 185 = .ok (.iaload, 1) ∧ decode cLa_law 186 = .ok (.aload_n 3, 1) ∧ decode cLa_law 187 = .ok (.invokestatic 55, 3) ∧ decode cLa_law 190 = .ok (.istore 5, 2) ∧ decode cLa_law 192 = .ok (.aload_n 2, 1) ∧ decode cLa_law 193 = .ok (.aload_n 0, 1) ∧ decode cLa_law 194 = .ok (.iload 4, 2) ∧ decode cLa_law 196 = .ok (.iconst 1, 1) := by decide +kernel
theorem dLa_law_175 : decode cLa_law 175 = .ok (.iload 4, 2) := dqLa_law_64.1
theorem dLa_law_177 : decode cLa_law 177 = .ok (.iconst 1, 1) := dqLa_law_64.2.1
theorem dLa_law_178 : decode cLa_law 178 = .ok (.iadd, 1) := dqLa_law_64.2.2.1
theorem dLa_law_179 : decode cLa_law 179 = .ok (.iaload, 1) := dqLa_law_64.2.2.2.1
theorem dLa_law_180 : decode cLa_law 180 = .ok (.aload_n 0, 1) := dqLa_law_64.2.2.2.2.1
theorem dLa_law_181 : decode cLa_law 181 = .ok (.iload 4, 2) := dqLa_law_64.2.2.2.2.2.1
theorem dLa_law_183 : decode cLa_law 183 = .ok (.iconst 2, 1) := dqLa_law_64.2.2.2.2.2.2.1
theorem dLa_law_184 : decode cLa_law 184 = .ok (.iadd, 1) := dqLa_law_64.2.2.2.2.2.2.2.1
theorem dLa_law_185 : decode cLa_law 185 = .ok (.iaload, 1) := dqLa_law_64.2.2.2.2.2.2.2.2.1
theorem dLa_law_186 : decode cLa_law 186 = .ok (.aload_n 3, 1) := dqLa_law_64.2.2.2.2.2.2.2.2.2.1
theorem dLa_law_187 : decode cLa_law 187 = .ok (.invokestatic 55, 3) := dqLa_law_64.2.2.2.2.2.2.2.2.2.2.1
theorem dLa_law_190 : decode cLa_law 190 = .ok (.istore 5, 2) := dqLa_law_64.2.2.2.2.2.2.2.2.2.2.2.1
theorem dLa_law_192 : decode cLa_law 192 = .ok (.aload_n 2, 1) := dqLa_law_64.2.2.2.2.2.2.2.2.2.2.2.2.1
theorem dLa_law_193 : decode cLa_law 193 = .ok (.aload_n 0, 1) := dqLa_law_64.2.2.2.2.2.2.2.2.2.2.2.2.2.1
theorem dLa_law_194 : decode cLa_law 194 = .ok (.iload 4, 2) := dqLa_law_64.2.2.2.2.2.2.2.2.2.2.2.2.2.2.1
theorem dLa_law_196 : decode cLa_law 196 = .ok (.iconst 1, 1) := dqLa_law_64.2.2.2.2.2.2.2.2.2.2.2.2.2.2.2
theorem dqLa_law_80 : decode cLa_law 197 = .ok (.iadd, 1) ∧ decode cLa_law 198 = .ok (.iaload, 1) ∧ decode cLa_law 199 = .ok (.aload_n 0, 1) ∧ decode cLa_law 200 = .ok (.iload 4, 2) ∧ decode cLa_law 202 = .ok (.iconst 2, 1) ∧ decode cLa_law 203 = .ok (.iadd, 1) ∧ decode cLa_law 204 = .ok (.iaload, 1) ∧ decode cLa_law 205 = .ok (.invokevirtual 60, 3) ∧ decode cLa_law 208 = .ok (.istore 6, 2) ∧ decode cLa_law 210 = .ok (.goto 587, 3) ∧ decode cLa_law 213 = .ok (.aload_n 1, 1) ∧ decode cLa_law 214 = .ok (.aload_n 0, 1) ∧ decode cLa_law 215 = .ok (.iload 4, 2) ∧ decode cLa_law 217 = .ok (.iconst 1, 1) ∧ decode cLa_law 218 = .ok (.iadd, 1) ∧ decode cLa_law 219 = .ok (.iaload, 1) := by decide +kernel
theorem dLa_law_197 : decode cLa_law 197 = .ok (.iadd, 1) := dqLa_law_80.1
theorem dLa_law_198 : decode cLa_law 198 = .ok (.iaload, 1) := dqLa_law_80.2.1
theorem dLa_law_199 : decode cLa_law 199 = .ok (.aload_n 0, 1) := dqLa_law_80.2.2.1
theorem dLa_law_200 : decode cLa_law 200 = .ok (.iload 4, 2) := dqLa_law_80.2.2.2.1
theorem dLa_law_202 : decode cLa_law 202 = .ok (.iconst 2, 1) := dqLa_law_80.2.2.2.2.1
theorem dLa_law_203 : decode cLa_law 203 = .ok (.iadd, 1) := dqLa_law_80.2.2.2.2.2.1
theorem dLa_law_204 : decode cLa_law 204 = .ok (.iaload, 1) := dqLa_law_80.2.2.2.2.2.2.1
theorem dLa_law_205 : decode cLa_law 205 = .ok (.invokevirtual 60, 3) := dqLa_law_80.2.2.2.2.2.2.2.1
theorem dLa_law_208 : decode cLa_law 208 = .ok (.istore 6, 2) := dqLa_law_80.2.2.2.2.2.2.2.2.1
theorem dLa_law_210 : decode cLa_law 210 = .ok (.goto 587, 3) := dqLa_law_80.2.2.2.2.2.2.2.2.2.1
theorem dLa_law_213 : decode cLa_law 213 = .ok (.aload_n 1, 1) := dqLa_law_80.2.2.2.2.2.2.2.2.2.2.1
theorem dLa_law_214 : decode cLa_law 214 = .ok (.aload_n 0, 1) := dqLa_law_80.2.2.2.2.2.2.2.2.2.2.2.1
theorem dLa_law_215 : decode cLa_law 215 = .ok (.iload 4, 2) := dqLa_law_80.2.2.2.2.2.2.2.2.2.2.2.2.1
theorem dLa_law_217 : decode cLa_law 217 = .ok (.iconst 1, 1) := dqLa_law_80.2.2.2.2.2.2.2.2.2.2.2.2.2.1
theorem dLa_law_218 : decode cLa_law 218 = .ok (.iadd, 1) := dqLa_law_80.2.2.2.2.2.2.2.2.2.2.2.2.2.2.1
theorem dLa_law_219 : decode cLa_law 219 = .ok (.iaload, 1) := dqLa_law_80.2.2.2.2.2.2.2.2.2.2.2.2.2.2.2
theorem dqLa_law_96 : decode cLa_law 220 = .ok (.aload_n 3, 1) ∧ decode cLa_law 221 = .ok (.invokestatic 61, 3) ∧ decode cLa_law 224 = .ok (.istore 5, 2) ∧ decode cLa_law 226 = .ok (.aload_n 2, 1) ∧ decode cLa_law 227 = .ok (.aload_n 0, 1) ∧ decode cLa_law 228 = .ok (.iload 4, 2) ∧ decode cLa_law 230 = .ok (.iconst 1, 1) ∧ decode cLa_law 231 = .ok (.iadd, 1) ∧ decode cLa_law 232 = .ok (.iaload, 1) ∧ decode cLa_law 233 = .ok (.invokevirtual 64, 3) ∧ decode cLa_law 236 = .ok (.istore 6, 2) ∧ decode cLa_law 238 = .ok (.goto 559, 3) ∧ decode cLa_law 241 = .ok (.aload_n 1, 1) ∧ decode cLa_law 242 = .ok (.aload_n 0, 1) ∧ decode cLa_law 243 = .ok (.iload 4, 2) ∧ decode cLa_law 245 = .ok (.iconst 1, 1) := by decide +kernel
theorem dLa_law_220 : decode cLa_law 220 = .ok (.aload_n 3, 1) := dqLa_law_96.1
theorem dLa_law_221 : decode cLa_law 221 = .ok (.invokestatic 61, 3) := dqLa_law_96.2.1
theorem dLa_law_224 : decode cLa_law 224 = .ok (.istore 5, 2) := dqLa_law_96.2.2.1
theorem dLa_law_226 : decode cLa_law 226 = .ok (.aload_n 2, 1) := dqLa_law_96.2.2.2.1
theorem dLa_law_227 : decode cLa_law 227 = .ok (.aload_n 0, 1) := dqLa_law_96.2.2.2.2.1
theorem dLa_law_228 : decode cLa_law 228 = .ok (.iload 4, 2) := dqLa_law_96.2.2.2.2.2.1
theorem dLa_law_230 : decode cLa_law 230 = .ok (.iconst 1, 1) := dqLa_law_96.2.2.2.2.2.2.1
theorem dLa_law_231 : decode cLa_law 231 = .ok (.iadd, 1) := dqLa_law_96.2.2.2.2.2.2.2.1
theorem dLa_law_232 : decode cLa_law 232 = .ok (.iaload, 1) := dqLa_law_96.2.2.2.2.2.2.2.2.1
theorem dLa_law_233 : decode cLa_law 233 = .ok (.invokevirtual 64, 3) := dqLa_law_96.2.2.2.2.2.2.2.2.2.1
theorem dLa_law_236 : decode cLa_law 236 = .ok (.istore 6, 2) := dqLa_law_96.2.2.2.2.2.2.2.2.2.2.1
theorem dLa_law_238 : decode cLa_law 238 = .ok (.goto 559, 3) := dqLa_law_96.2.2.2.2.2.2.2.2.2.2.2.1
theorem dLa_law_241 : decode cLa_law 241 = .ok (.aload_n 1, 1) := dqLa_law_96.2.2.2.2.2.2.2.2.2.2.2.2.1
theorem dLa_law_242 : decode cLa_law 242 = .ok (.aload_n 0, 1) := dqLa_law_96.2.2.2.2.2.2.2.2.2.2.2.2.2.1
theorem dLa_law_243 : decode cLa_law 243 = .ok (.iload 4, 2) := dqLa_law_96.2.2.2.2.2.2.2.2.2.2.2.2.2.2.1
theorem dLa_law_245 : decode cLa_law 245 = .ok (.iconst 1, 1) := dqLa_law_96.2.2.2.2.2.2.2.2.2.2.2.2.2.2.2
theorem dqLa_law_112 : decode cLa_law 246 = .ok (.iadd, 1) ∧ decode cLa_law 247 = .ok (.iaload, 1) ∧ decode cLa_law 248 = .ok (.aload_n 0, 1) ∧ decode cLa_law 249 = .ok (.iload 4, 2) ∧ decode cLa_law 251 = .ok (.iconst 2, 1) ∧ decode cLa_law 252 = .ok (.iadd, 1) ∧ decode cLa_law 253 = .ok (.iaload, 1) ∧ decode cLa_law 254 = .ok (.aload_n 0, 1) ∧ decode cLa_law 255 = .ok (.iload 4, 2) ∧ decode cLa_law 257 = .ok (.iconst 3, 1) ∧ decode cLa_law 258 = .ok (.iadd, 1) ∧ decode cLa_law 259 = .ok (.iaload, 1) ∧ decode cLa_law 260 = .ok (.i2l, 1) ∧ decode cLa_law 261 = .ok (.bipush 32, 2) ∧ decode cLa_law 263 = .ok (.lshl, 1) ∧ decode cLa_law 264 = .ok (.aload_n 0, 1) := by decide +kernel
theorem dLa_law_246 : decode cLa_law 246 = .ok (.iadd, 1) := dqLa_law_112.1
theorem dLa_law_247 : decode cLa_law 247 = .ok (.iaload, 1) := dqLa_law_112.2.1
theorem dLa_law_248 : decode cLa_law 248 = .ok (.aload_n 0, 1) := dqLa_law_112.2.2.1
theorem dLa_law_249 : decode cLa_law 249 = .ok (.iload 4, 2) := dqLa_law_112.2.2.2.1
theorem dLa_law_251 : decode cLa_law 251 = .ok (.iconst 2, 1) := dqLa_law_112.2.2.2.2.1
theorem dLa_law_252 : decode cLa_law 252 = .ok (.iadd, 1) := dqLa_law_112.2.2.2.2.2.1
theorem dLa_law_253 : decode cLa_law 253 = .ok (.iaload, 1) := dqLa_law_112.2.2.2.2.2.2.1
theorem dLa_law_254 : decode cLa_law 254 = .ok (.aload_n 0, 1) := dqLa_law_112.2.2.2.2.2.2.2.1
theorem dLa_law_255 : decode cLa_law 255 = .ok (.iload 4, 2) := dqLa_law_112.2.2.2.2.2.2.2.2.1
theorem dLa_law_257 : decode cLa_law 257 = .ok (.iconst 3, 1) := dqLa_law_112.2.2.2.2.2.2.2.2.2.1
theorem dLa_law_258 : decode cLa_law 258 = .ok (.iadd, 1) := dqLa_law_112.2.2.2.2.2.2.2.2.2.2.1
theorem dLa_law_259 : decode cLa_law 259 = .ok (.iaload, 1) := dqLa_law_112.2.2.2.2.2.2.2.2.2.2.2.1
theorem dLa_law_260 : decode cLa_law 260 = .ok (.i2l, 1) := dqLa_law_112.2.2.2.2.2.2.2.2.2.2.2.2.1
theorem dLa_law_261 : decode cLa_law 261 = .ok (.bipush 32, 2) := dqLa_law_112.2.2.2.2.2.2.2.2.2.2.2.2.2.1
theorem dLa_law_263 : decode cLa_law 263 = .ok (.lshl, 1) := dqLa_law_112.2.2.2.2.2.2.2.2.2.2.2.2.2.2.1
theorem dLa_law_264 : decode cLa_law 264 = .ok (.aload_n 0, 1) := dqLa_law_112.2.2.2.2.2.2.2.2.2.2.2.2.2.2.2
theorem dqLa_law_128 : decode cLa_law 265 = .ok (.iload 4, 2) ∧ decode cLa_law 267 = .ok (.iconst 4, 1) ∧ decode cLa_law 268 = .ok (.iadd, 1) ∧ decode cLa_law 269 = .ok (.iaload, 1) ∧ decode cLa_law 270 = .ok (.i2l, 1) ∧ decode cLa_law 271 = .ok (.ldc2_w 65, 3) ∧ decode cLa_law 274 = .ok (.land, 1) ∧ decode cLa_law 275 = .ok (.lor, 1) ∧ decode cLa_law 276 = .ok (.aload_n 3, 1) ∧ decode cLa_law 277 = .ok (.invokestatic 67, 3) ∧ decode cLa_law 280 = .ok (.istore 5, 2) ∧ decode cLa_law 282 = .ok (.aload_n 2, 1) ∧ decode cLa_law 283 = .ok (.aload_n 0, 1) ∧ decode cLa_law 284 = .ok (.iload 4, 2) ∧ decode cLa_law 286 = .ok (.iconst 1, 1) ∧ decode cLa_law 287 = .ok (.iadd, 1) := by decide +kernel
theorem dLa_law_265 : decode cLa_law 265 = .ok (.iload 4, 2) := dqLa_law_128.1
theorem dLa_law_267 : decode cLa_law 267 = .ok (.iconst 4, 1) := dqLa_law_128.2.1
theorem dLa_law_268 : decode cLa_law 268 = .ok (.iadd, 1) := dqLa_law_128.2.2.1
theorem dLa_law_269 : decode cLa_law 269 = .ok (.iaload, 1) := dqLa_law_128.2.2.2.1
theorem dLa_law_270 : decode cLa_law 270 = .ok (.i2l, 1) := dqLa_law_128.2.2.2.2.1
theorem dLa_law_271 : decode cLa_law 271 = .ok (.ldc2_w 65, 3) := dqLa_law_128.2.2.2.2.2.1
theorem dLa_law_274 : decode cLa_law 274 = .ok (.land, 1) := dqLa_law_128.2.2.2.2.2.2.1
theorem dLa_law_275 : decode cLa_law 275 = .ok (.lor, 1) := dqLa_law_128.2.2.2.2.2.2.2.1
theorem dLa_law_276 : decode cLa_law 276 = .ok (.aload_n 3, 1) := dqLa_law_128.2.2.2.2.2.2.2.2.1
theorem dLa_law_277 : decode cLa_law 277 = .ok (.invokestatic 67, 3) := dqLa_law_128.2.2.2.2.2.2.2.2.2.1
theorem dLa_law_280 : decode cLa_law 280 = .ok (.istore 5, 2) := dqLa_law_128.2.2.2.2.2.2.2.2.2.2.1
theorem dLa_law_282 : decode cLa_law 282 = .ok (.aload_n 2, 1) := dqLa_law_128.2.2.2.2.2.2.2.2.2.2.2.1
theorem dLa_law_283 : decode cLa_law 283 = .ok (.aload_n 0, 1) := dqLa_law_128.2.2.2.2.2.2.2.2.2.2.2.2.1
theorem dLa_law_284 : decode cLa_law 284 = .ok (.iload 4, 2) := dqLa_law_128.2.2.2.2.2.2.2.2.2.2.2.2.2.1
theorem dLa_law_286 : decode cLa_law 286 = .ok (.iconst 1, 1) := dqLa_law_128.2.2.2.2.2.2.2.2.2.2.2.2.2.2.1
theorem dLa_law_287 : decode cLa_law 287 = .ok (.iadd, 1) := dqLa_law_128.2.2.2.2.2.2.2.2.2.2.2.2.2.2.2
theorem dqLa_law_144 : decode cLa_law 288 = .ok (.iaload, 1) ∧ decode cLa_law 289 = .ok (.aload_n 0, 1) ∧ decode cLa_law 290 = .ok (.iload 4, 2) ∧ decode cLa_law 292 = .ok (.iconst 2, 1) ∧ decode cLa_law 293 = .ok (.iadd, 1) ∧ decode cLa_law 294 = .ok (.iaload, 1) ∧ decode cLa_law 295 = .ok (.aload_n 0, 1) ∧ decode cLa_law 296 = .ok (.iload 4, 2) ∧ decode cLa_law 298 = .ok (.iconst 3, 1) ∧ decode cLa_law 299 = .ok (.iadd, 1) ∧ decode cLa_law 300 = .ok (.iaload, 1) ∧ decode cLa_law 301 = .ok (.i2l, 1) ∧ decode cLa_law 302 = .ok (.bipush 32, 2) ∧ decode cLa_law 304 = .ok (.lshl, 1) ∧ decode cLa_law 305 = .ok (.aload_n 0, 1) ∧ decode cLa_law 306 = .ok (.iload 4, 2) := by decide +kernel
theorem dLa_law_288 : decode cLa_law 288 = .ok (.iaload, 1) := dqLa_law_144.1
theorem dLa_law_289 : decode cLa_law 289 = .ok (.aload_n 0, 1) := dqLa_law_144.2.1
theorem dLa_law_290 : decode cLa_law 290 = .ok (.iload 4, 2) := dqLa_law_144.2.2.1
theorem dLa_law_292 : decode cLa_law 292 = .ok (.iconst 2, 1) := dqLa_law_144.2.2.2.1
theorem dLa_law_293 : decode cLa_law 293 = .ok (.iadd, 1) := dqLa_law_144.2.2.2.2.1
theorem dLa_law_294 : decode cLa_law 294 = .ok (.iaload, 1) := dqLa_law_144.2.2.2.2.2.1
theorem dLa_law_295 : decode cLa_law 295 = .ok (.aload_n 0, 1) := dqLa_law_144.2.2.2.2.2.2.1
theorem dLa_law_296 : decode cLa_law 296 = .ok (.iload 4, 2) := dqLa_law_144.2.2.2.2.2.2.2.1
theorem dLa_law_298 : decode cLa_law 298 = .ok (.iconst 3, 1) := dqLa_law_144.2.2.2.2.2.2.2.2.1
theorem dLa_law_299 : decode cLa_law 299 = .ok (.iadd, 1) := dqLa_law_144.2.2.2.2.2.2.2.2.2.1
theorem dLa_law_300 : decode cLa_law 300 = .ok (.iaload, 1) := dqLa_law_144.2.2.2.2.2.2.2.2.2.2.1
theorem dLa_law_301 : decode cLa_law 301 = .ok (.i2l, 1) := dqLa_law_144.2.2.2.2.2.2.2.2.2.2.2.1
theorem dLa_law_302 : decode cLa_law 302 = .ok (.bipush 32, 2) := dqLa_law_144.2.2.2.2.2.2.2.2.2.2.2.2.1
theorem dLa_law_304 : decode cLa_law 304 = .ok (.lshl, 1) := dqLa_law_144.2.2.2.2.2.2.2.2.2.2.2.2.2.1
theorem dLa_law_305 : decode cLa_law 305 = .ok (.aload_n 0, 1) := dqLa_law_144.2.2.2.2.2.2.2.2.2.2.2.2.2.2.1
theorem dLa_law_306 : decode cLa_law 306 = .ok (.iload 4, 2) := dqLa_law_144.2.2.2.2.2.2.2.2.2.2.2.2.2.2.2
theorem dqLa_law_160 : decode cLa_law 308 = .ok (.iconst 4, 1) ∧ decode cLa_law 309 = .ok (.iadd, 1) ∧ decode cLa_law 310 = .ok (.iaload, 1) ∧ decode cLa_law 311 = .ok (.i2l, 1) ∧ decode cLa_law 312 = .ok (.ldc2_w 65, 3) ∧ decode cLa_law 315 = .ok (.land, 1) ∧ decode cLa_law 316 = .ok (.lor, 1) ∧ decode cLa_law 317 = .ok (.invokevirtual 70, 3) ∧ decode cLa_law 320 = .ok (.lstore 6, 2) ∧ decode cLa_law 322 = .ok (.goto 475, 3) ∧ decode cLa_law 325 = .ok (.aload_n 1, 1) ∧ decode cLa_law 326 = .ok (.aload_n 0, 1) ∧ decode cLa_law 327 = .ok (.iload 4, 2) ∧ decode cLa_law 329 = .ok (.iconst 1, 1) ∧ decode cLa_law 330 = .ok (.iadd, 1) ∧ decode cLa_law 331 = .ok (.iaload, 1) := by decide +kernel
theorem dLa_law_308 : decode cLa_law 308 = .ok (.iconst 4, 1) := dqLa_law_160.1
theorem dLa_law_309 : decode cLa_law 309 = .ok (.iadd, 1) := dqLa_law_160.2.1
theorem dLa_law_310 : decode cLa_law 310 = .ok (.iaload, 1) := dqLa_law_160.2.2.1
theorem dLa_law_311 : decode cLa_law 311 = .ok (.i2l, 1) := dqLa_law_160.2.2.2.1
theorem dLa_law_312 : decode cLa_law 312 = .ok (.ldc2_w 65, 3) := dqLa_law_160.2.2.2.2.1
theorem dLa_law_315 : decode cLa_law 315 = .ok (.land, 1) := dqLa_law_160.2.2.2.2.2.1
theorem dLa_law_316 : decode cLa_law 316 = .ok (.lor, 1) := dqLa_law_160.2.2.2.2.2.2.1
theorem dLa_law_317 : decode cLa_law 317 = .ok (.invokevirtual 70, 3) := dqLa_law_160.2.2.2.2.2.2.2.1
theorem dLa_law_320 : decode cLa_law 320 = .ok (.lstore 6, 2) := dqLa_law_160.2.2.2.2.2.2.2.2.1
theorem dLa_law_322 : decode cLa_law 322 = .ok (.goto 475, 3) := dqLa_law_160.2.2.2.2.2.2.2.2.2.1
theorem dLa_law_325 : decode cLa_law 325 = .ok (.aload_n 1, 1) := dqLa_law_160.2.2.2.2.2.2.2.2.2.2.1
theorem dLa_law_326 : decode cLa_law 326 = .ok (.aload_n 0, 1) := dqLa_law_160.2.2.2.2.2.2.2.2.2.2.2.1
theorem dLa_law_327 : decode cLa_law 327 = .ok (.iload 4, 2) := dqLa_law_160.2.2.2.2.2.2.2.2.2.2.2.2.1
theorem dLa_law_329 : decode cLa_law 329 = .ok (.iconst 1, 1) := dqLa_law_160.2.2.2.2.2.2.2.2.2.2.2.2.2.1
theorem dLa_law_330 : decode cLa_law 330 = .ok (.iadd, 1) := dqLa_law_160.2.2.2.2.2.2.2.2.2.2.2.2.2.2.1
theorem dLa_law_331 : decode cLa_law 331 = .ok (.iaload, 1) := dqLa_law_160.2.2.2.2.2.2.2.2.2.2.2.2.2.2.2
theorem dqLa_law_176 : decode cLa_law 332 = .ok (.aload_n 3, 1) ∧ decode cLa_law 333 = .ok (.invokestatic 71, 3) ∧ decode cLa_law 336 = .ok (.istore 5, 2) ∧ decode cLa_law 338 = .ok (.aload_n 2, 1) ∧ decode cLa_law 339 = .ok (.aload_n 0, 1) ∧ decode cLa_law 340 = .ok (.iload 4, 2) ∧ decode cLa_law 342 = .ok (.iconst 1, 1) ∧ decode cLa_law 343 = .ok (.iadd, 1) ∧ decode cLa_law 344 = .ok (.iaload, 1) ∧ decode cLa_law 345 = .ok (.invokevirtual 73, 3) ∧ decode cLa_law 348 = .ok (.istore 6, 2) ∧ decode cLa_law 350 = .ok (.goto 447, 3) ∧ decode cLa_law 353 = .ok (.aload_n 1, 1) ∧ decode cLa_law 354 = .ok (.aload_n 0, 1) ∧ decode cLa_law 355 = .ok (.iload 4, 2) ∧ decode cLa_law 357 = .ok (.iconst 1, 1) := by decide +kernel
theorem dLa_law_332 : decode cLa_law 332 = .ok (.aload_n 3, 1) := dqLa_law_176.1
theorem dLa_law_333 : decode cLa_law 333 = .ok (.invokestatic 71, 3) := dqLa_law_176.2.1
theorem dLa_law_336 : decode cLa_law 336 = .ok (.istore 5, 2) := dqLa_law_176.2.2.1
theorem dLa_law_338 : decode cLa_law 338 = .ok (.aload_n 2, 1) := dqLa_law_176.2.2.2.1
theorem dLa_law_339 : decode cLa_law 339 = .ok (.aload_n 0, 1) := dqLa_law_176.2.2.2.2.1
theorem dLa_law_340 : decode cLa_law 340 = .ok (.iload 4, 2) := dqLa_law_176.2.2.2.2.2.1
theorem dLa_law_342 : decode cLa_law 342 = .ok (.iconst 1, 1) := dqLa_law_176.2.2.2.2.2.2.1
theorem dLa_law_343 : decode cLa_law 343 = .ok (.iadd, 1) := dqLa_law_176.2.2.2.2.2.2.2.1
theorem dLa_law_344 : decode cLa_law 344 = .ok (.iaload, 1) := dqLa_law_176.2.2.2.2.2.2.2.2.1
theorem dLa_law_345 : decode cLa_law 345 = .ok (.invokevirtual 73, 3) := dqLa_law_176.2.2.2.2.2.2.2.2.2.1
theorem dLa_law_348 : decode cLa_law 348 = .ok (.istore 6, 2) := dqLa_law_176.2.2.2.2.2.2.2.2.2.2.1
theorem dLa_law_350 : decode cLa_law 350 = .ok (.goto 447, 3) := dqLa_law_176.2.2.2.2.2.2.2.2.2.2.2.1
theorem dLa_law_353 : decode cLa_law 353 = .ok (.aload_n 1, 1) := dqLa_law_176.2.2.2.2.2.2.2.2.2.2.2.2.1
theorem dLa_law_354 : decode cLa_law 354 = .ok (.aload_n 0, 1) := dqLa_law_176.2.2.2.2.2.2.2.2.2.2.2.2.2.1
theorem dLa_law_355 : decode cLa_law 355 = .ok (.iload 4, 2) := dqLa_law_176.2.2.2.2.2.2.2.2.2.2.2.2.2.2.1
theorem dLa_law_357 : decode cLa_law 357 = .ok (.iconst 1, 1) := dqLa_law_176.2.2.2.2.2.2.2.2.2.2.2.2.2.2.2
theorem dqLa_law_192 : decode cLa_law 358 = .ok (.iadd, 1) ∧ decode cLa_law 359 = .ok (.iaload, 1) ∧ decode cLa_law 360 = .ok (.aload_n 0, 1) ∧ decode cLa_law 361 = .ok (.iload 4, 2) ∧ decode cLa_law 363 = .ok (.iconst 2, 1) ∧ decode cLa_law 364 = .ok (.iadd, 1) ∧ decode cLa_law 365 = .ok (.iaload, 1) ∧ decode cLa_law 366 = .ok (.i2l, 1) ∧ decode cLa_law 367 = .ok (.bipush 32, 2) ∧ decode cLa_law 369 = .ok (.lshl, 1) ∧ decode cLa_law 370 = .ok (.aload_n 0, 1) ∧ decode cLa_law 371 = .ok (.iload 4, 2) ∧ decode cLa_law 373 = .ok (.iconst 3, 1) ∧ decode cLa_law 374 = .ok (.iadd, 1) ∧ decode cLa_law 375 = .ok (.iaload, 1) ∧ decode cLa_law 376 = .ok (.i2l, 1) := by decide +kernel
theorem dLa_law_358 : decode cLa_law 358 = .ok (.iadd, 1) := dqLa_law_192.1
theorem dLa_law_359 : decode cLa_law 359 = .ok (.iaload, 1) := dqLa_law_192.2.1
theorem dLa_law_360 : decode cLa_law 360 = .ok (.aload_n 0, 1) := dqLa_law_192.2.2.1
theorem dLa_law_361 : decode cLa_law 361 = .ok (.iload 4, 2) := dqLa_law_192.2.2.2.1
theorem dLa_law_363 : decode cLa_law 363 = .ok (.iconst 2, 1) := dqLa_law_192.2.2.2.2.1
theorem dLa_law_364 : decode cLa_law 364 = .ok (.iadd, 1) := dqLa_law_192.2.2.2.2.2.1
theorem dLa_law_365 : decode cLa_law 365 = .ok (.iaload, 1) := dqLa_law_192.2.2.2.2.2.2.1
theorem dLa_law_366 : decode cLa_law 366 = .ok (.i2l, 1) := dqLa_law_192.2.2.2.2.2.2.2.1
theorem dLa_law_367 : decode cLa_law 367 = .ok (.bipush 32, 2) := dqLa_law_192.2.2.2.2.2.2.2.2.1
theorem dLa_law_369 : decode cLa_law 369 = .ok (.lshl, 1) := dqLa_law_192.2.2.2.2.2.2.2.2.2.1
theorem dLa_law_370 : decode cLa_law 370 = .ok (.aload_n 0, 1) := dqLa_law_192.2.2.2.2.2.2.2.2.2.2.1
theorem dLa_law_371 : decode cLa_law 371 = .ok (.iload 4, 2) := dqLa_law_192.2.2.2.2.2.2.2.2.2.2.2.1
theorem dLa_law_373 : decode cLa_law 373 = .ok (.iconst 3, 1) := dqLa_law_192.2.2.2.2.2.2.2.2.2.2.2.2.1
theorem dLa_law_374 : decode cLa_law 374 = .ok (.iadd, 1) := dqLa_law_192.2.2.2.2.2.2.2.2.2.2.2.2.2.1
theorem dLa_law_375 : decode cLa_law 375 = .ok (.iaload, 1) := dqLa_law_192.2.2.2.2.2.2.2.2.2.2.2.2.2.2.1
theorem dLa_law_376 : decode cLa_law 376 = .ok (.i2l, 1) := dqLa_law_192.2.2.2.2.2.2.2.2.2.2.2.2.2.2.2
theorem dqLa_law_208 : decode cLa_law 377 = .ok (.ldc2_w 65, 3) ∧ decode cLa_law 380 = .ok (.land, 1) ∧ decode cLa_law 381 = .ok (.lor, 1) ∧ decode cLa_law 382 = .ok (.aload_n 3, 1) ∧ decode cLa_law 383 = .ok (.invokestatic 74, 3) ∧ decode cLa_law 386 = .ok (.istore 5, 2) ∧ decode cLa_law 388 = .ok (.aload_n 2, 1) ∧ decode cLa_law 389 = .ok (.aload_n 0, 1) ∧ decode cLa_law 390 = .ok (.iload 4, 2) ∧ decode cLa_law 392 = .ok (.iconst 1, 1) ∧ decode cLa_law 393 = .ok (.iadd, 1) ∧ decode cLa_law 394 = .ok (.iaload, 1) ∧ decode cLa_law 395 = .ok (.aload_n 0, 1) ∧ decode cLa_law 396 = .ok (.iload 4, 2) ∧ decode cLa_law 398 = .ok (.iconst 2, 1) ∧ decode cLa_law 399 = .ok (.iadd, 1) := by decide +kernel
theorem dLa_law_377 : decode cLa_law 377 = .ok (.ldc2_w 65, 3) := dqLa_law_208.1
theorem dLa_law_380 : decode cLa_law 380 = .ok (.land, 1) := dqLa_law_208.2.1
theorem dLa_law_381 : decode cLa_law 381 = .ok (.lor, 1) := dqLa_law_208.2.2.1
theorem dLa_law_382 : decode cLa_law 382 = .ok (.aload_n 3, 1) := dqLa_law_208.2.2.2.1
theorem dLa_law_383 : decode cLa_law 383 = .ok (.invokestatic 74, 3) := dqLa_law_208.2.2.2.2.1
theorem dLa_law_386 : decode cLa_law 386 = .ok (.istore 5, 2) := dqLa_law_208.2.2.2.2.2.1
theorem dLa_law_388 : decode cLa_law 388 = .ok (.aload_n 2, 1) := dqLa_law_208.2.2.2.2.2.2.1
theorem dLa_law_389 : decode cLa_law 389 = .ok (.aload_n 0, 1) := dqLa_law_208.2.2.2.2.2.2.2.1
theorem dLa_law_390 : decode cLa_law 390 = .ok (.iload 4, 2) := dqLa_law_208.2.2.2.2.2.2.2.2.1
theorem dLa_law_392 : decode cLa_law 392 = .ok (.iconst 1, 1) := dqLa_law_208.2.2.2.2.2.2.2.2.2.1
theorem dLa_law_393 : decode cLa_law 393 = .ok (.iadd, 1) := dqLa_law_208.2.2.2.2.2.2.2.2.2.2.1
theorem dLa_law_394 : decode cLa_law 394 = .ok (.iaload, 1) := dqLa_law_208.2.2.2.2.2.2.2.2.2.2.2.1
theorem dLa_law_395 : decode cLa_law 395 = .ok (.aload_n 0, 1) := dqLa_law_208.2.2.2.2.2.2.2.2.2.2.2.2.1
theorem dLa_law_396 : decode cLa_law 396 = .ok (.iload 4, 2) := dqLa_law_208.2.2.2.2.2.2.2.2.2.2.2.2.2.1
theorem dLa_law_398 : decode cLa_law 398 = .ok (.iconst 2, 1) := dqLa_law_208.2.2.2.2.2.2.2.2.2.2.2.2.2.2.1
theorem dLa_law_399 : decode cLa_law 399 = .ok (.iadd, 1) := dqLa_law_208.2.2.2.2.2.2.2.2.2.2.2.2.2.2.2
theorem dqLa_law_224 : decode cLa_law 400 = .ok (.iaload, 1) ∧ decode cLa_law 401 = .ok (.i2l, 1) ∧ decode cLa_law 402 = .ok (.bipush 32, 2) ∧ decode cLa_law 404 = .ok (.lshl, 1) ∧ decode cLa_law 405 = .ok (.aload_n 0, 1) ∧ decode cLa_law 406 = .ok (.iload 4, 2) ∧ decode cLa_law 408 = .ok (.iconst 3, 1) ∧ decode cLa_law 409 = .ok (.iadd, 1) ∧ decode cLa_law 410 = .ok (.iaload, 1) ∧ decode cLa_law 411 = .ok (.i2l, 1) ∧ decode cLa_law 412 = .ok (.ldc2_w 65, 3) ∧ decode cLa_law 415 = .ok (.land, 1) ∧ decode cLa_law 416 = .ok (.lor, 1) ∧ decode cLa_law 417 = .ok (.invokevirtual 77, 3) ∧ decode cLa_law 420 = .ok (.lstore 6, 2) ∧ decode cLa_law 422 = .ok (.goto 375, 3) := by decide +kernel
theorem dLa_law_400 : decode cLa_law 400 = .ok (.iaload, 1) := dqLa_law_224.1
theorem dLa_law_401 : decode cLa_law 401 = .ok (.i2l, 1) := dqLa_law_224.2.1
theorem dLa_law_402 : decode cLa_law 402 = .ok (.bipush 32, 2) := dqLa_law_224.2.2.1
theorem dLa_law_404 : decode cLa_law 404 = .ok (.lshl, 1) := dqLa_law_224.2.2.2.1
theorem dLa_law_405 : decode cLa_law 405 = .ok (.aload_n 0, 1) := dqLa_law_224.2.2.2.2.1
theorem dLa_law_406 : decode cLa_law 406 = .ok (.iload 4, 2) := dqLa_law_224.2.2.2.2.2.1
theorem dLa_law_408 : decode cLa_law 408 = .ok (.iconst 3, 1) := dqLa_law_224.2.2.2.2.2.2.1
theorem dLa_law_409 : decode cLa_law 409 = .ok (.iadd, 1) := dqLa_law_224.2.2.2.2.2.2.2.1
theorem dLa_law_410 : decode cLa_law 410 = .ok (.iaload, 1) := dqLa_law_224.2.2.2.2.2.2.2.2.1
theorem dLa_law_411 : decode cLa_law 411 = .ok (.i2l, 1) := dqLa_law_224.2.2.2.2.2.2.2.2.2.1
theorem dLa_law_412 : decode cLa_law 412 = .ok (.ldc2_w 65, 3) := dqLa_law_224.2.2.2.2.2.2.2.2.2.2.1
theorem dLa_law_415 : decode cLa_law 415 = .ok (.land, 1) := dqLa_law_224.2.2.2.2.2.2.2.2.2.2.2.1
theorem dLa_law_416 : decode cLa_law 416 = .ok (.lor, 1) := dqLa_law_224.2.2.2.2.2.2.2.2.2.2.2.2.1
theorem dLa_law_417 : decode cLa_law 417 = .ok (.invokevirtual 77, 3) := dqLa_law_224.2.2.2.2.2.2.2.2.2.2.2.2.2.1
theorem dLa_law_420 : decode cLa_law 420 = .ok (.lstore 6, 2) := dqLa_law_224.2.2.2.2.2.2.2.2.2.2.2.2.2.2.1
theorem dLa_law_422 : decode cLa_law 422 = .ok (.goto 375, 3) := dqLa_law_224.2.2.2.2.2.2.2.2.2.2.2.2.2.2.2
theorem dqLa_law_240 : decode cLa_law 425 = .ok (.aload_n 1, 1) ∧ decode cLa_law 426 = .ok (.aload_n 0, 1) ∧ decode cLa_law 427 = .ok (.iload 4, 2) ∧ decode cLa_law 429 = .ok (.iconst 1, 1) ∧ decode cLa_law 430 = .ok (.iadd, 1) ∧ decode cLa_law 431 = .ok (.iaload, 1) ∧ decode cLa_law 432 = .ok (.aload_n 0, 1) ∧ decode cLa_law 433 = .ok (.iload 4, 2) ∧ decode cLa_law 435 = .ok (.iconst 2, 1) ∧ decode cLa_law 436 = .ok (.iadd, 1) ∧ decode cLa_law 437 = .ok (.iaload, 1) ∧ decode cLa_law 438 = .ok (.ifCond .eq 7, 3) ∧ decode cLa_law 441 = .ok (.iconst 1, 1) ∧ decode cLa_law 442 = .ok (.goto 4, 3) ∧ decode cLa_law 445 = .ok (.iconst 0, 1) ∧ decode cLa_law 446 = .ok (.aload_n 3, 1) := by decide +kernel
theorem dLa_law_425 : decode cLa_law 425 = .ok (.aload_n 1, 1) := dqLa_law_240.1
theorem dLa_law_426 : decode cLa_law 426 = .ok (.aload_n 0, 1) := dqLa_law_240.2.1
theorem dLa_law_427 : decode cLa_law 427 = .ok (.iload 4, 2) := dqLa_law_240.2.2.1
theorem dLa_law_429 : decode cLa_law 429 = .ok (.iconst 1, 1) := dqLa_law_240.2.2.2.1
theorem dLa_law_430 : decode cLa_law 430 = .ok (.iadd, 1) := dqLa_law_240.2.2.2.2.1
theorem dLa_law_431 : decode cLa_law 431 = .ok (.iaload, 1) := dqLa_law_240.2.2.2.2.2.1
theorem dLa_law_432 : decode cLa_law 432 = .ok (.aload_n 0, 1) := dqLa_law_240.2.2.2.2.2.2.1
theorem dLa_law_433 : decode cLa_law 433 = .ok (.iload 4, 2) := dqLa_law_240.2.2.2.2.2.2.2.1
theorem dLa_law_435 : decode cLa_law 435 = .ok (.iconst 2, 1) := dqLa_law_240.2.2.2.2.2.2.2.2.1
theorem dLa_law_436 : decode cLa_law 436 = .ok (.iadd, 1) := dqLa_law_240.2.2.2.2.2.2.2.2.2.1
theorem dLa_law_437 : decode cLa_law 437 = .ok (.iaload, 1) := dqLa_law_240.2.2.2.2.2.2.2.2.2.2.1
theorem dLa_law_438 : decode cLa_law 438 = .ok (.ifCond .eq 7, 3) := dqLa_law_240.2.2.2.2.2.2.2.2.2.2.2.1
theorem dLa_law_441 : decode cLa_law 441 = .ok (.iconst 1, 1) := dqLa_law_240.2.2.2.2.2.2.2.2.2.2.2.2.1
theorem dLa_law_442 : decode cLa_law 442 = .ok (.goto 4, 3) := dqLa_law_240.2.2.2.2.2.2.2.2.2.2.2.2.2.1
theorem dLa_law_445 : decode cLa_law 445 = .ok (.iconst 0, 1) := dqLa_law_240.2.2.2.2.2.2.2.2.2.2.2.2.2.2.1
theorem dLa_law_446 : decode cLa_law 446 = .ok (.aload_n 3, 1) := dqLa_law_240.2.2.2.2.2.2.2.2.2.2.2.2.2.2.2
theorem dqLa_law_256 : decode cLa_law 447 = .ok (.invokestatic 78, 3) ∧ decode cLa_law 450 = .ok (.istore 5, 2) ∧ decode cLa_law 452 = .ok (.aload_n 2, 1) ∧ decode cLa_law 453 = .ok (.aload_n 0, 1) ∧ decode cLa_law 454 = .ok (.iload 4, 2) ∧ decode cLa_law 456 = .ok (.iconst 1, 1) ∧ decode cLa_law 457 = .ok (.iadd, 1) ∧ decode cLa_law 458 = .ok (.iaload, 1) ∧ decode cLa_law 459 = .ok (.aload_n 0, 1) ∧ decode cLa_law 460 = .ok (.iload 4, 2) ∧ decode cLa_law 462 = .ok (.iconst 2, 1) ∧ decode cLa_law 463 = .ok (.iadd, 1) ∧ decode cLa_law 464 = .ok (.iaload, 1) ∧ decode cLa_law 465 = .ok (.ifCond .eq 7, 3) ∧ decode cLa_law 468 = .ok (.iconst 1, 1) ∧ decode cLa_law 469 = .ok (.goto 4, 3) := by decide +kernel
theorem dLa_law_447 : decode cLa_law 447 = .ok (.invokestatic 78, 3) := dqLa_law_256.1
theorem dLa_law_450 : decode cLa_law 450 = .ok (.istore 5, 2) := dqLa_law_256.2.1
theorem dLa_law_452 : decode cLa_law 452 = .ok (.aload_n 2, 1) := dqLa_law_256.2.2.1
theorem dLa_law_453 : decode cLa_law 453 = .ok (.aload_n 0, 1) := dqLa_law_256.2.2.2.1
theorem dLa_law_454 : decode cLa_law 454 = .ok (.iload 4, 2) := dqLa_law_256.2.2.2.2.1
theorem dLa_law_456 : decode cLa_law 456 = .ok (.iconst 1, 1) := dqLa_law_256.2.2.2.2.2.1
theorem dLa_law_457 : decode cLa_law 457 = .ok (.iadd, 1) := dqLa_law_256.2.2.2.2.2.2.1
theorem dLa_law_458 : decode cLa_law 458 = .ok (.iaload, 1) := dqLa_law_256.2.2.2.2.2.2.2.1
theorem dLa_law_459 : decode cLa_law 459 = .ok (.aload_n 0, 1) := dqLa_law_256.2.2.2.2.2.2.2.2.1
theorem dLa_law_460 : decode cLa_law 460 = .ok (.iload 4, 2) := dqLa_law_256.2.2.2.2.2.2.2.2.2.1
theorem dLa_law_462 : decode cLa_law 462 = .ok (.iconst 2, 1) := dqLa_law_256.2.2.2.2.2.2.2.2.2.2.1
theorem dLa_law_463 : decode cLa_law 463 = .ok (.iadd, 1) := dqLa_law_256.2.2.2.2.2.2.2.2.2.2.2.1
theorem dLa_law_464 : decode cLa_law 464 = .ok (.iaload, 1) := dqLa_law_256.2.2.2.2.2.2.2.2.2.2.2.2.1
theorem dLa_law_465 : decode cLa_law 465 = .ok (.ifCond .eq 7, 3) := dqLa_law_256.2.2.2.2.2.2.2.2.2.2.2.2.2.1
theorem dLa_law_468 : decode cLa_law 468 = .ok (.iconst 1, 1) := dqLa_law_256.2.2.2.2.2.2.2.2.2.2.2.2.2.2.1
theorem dLa_law_469 : decode cLa_law 469 = .ok (.goto 4, 3) := dqLa_law_256.2.2.2.2.2.2.2.2.2.2.2.2.2.2.2
theorem dqLa_law_272 : decode cLa_law 472 = .ok (.iconst 0, 1) ∧ decode cLa_law 473 = .ok (.invokevirtual 81, 3) ∧ decode cLa_law 476 = .ok (.istore 6, 2) ∧ decode cLa_law 478 = .ok (.goto 319, 3) ∧ decode cLa_law 481 = .ok (.aload_n 1, 1) ∧ decode cLa_law 482 = .ok (.aload_n 0, 1) ∧ decode cLa_law 483 = .ok (.iload 4, 2) ∧ decode cLa_law 485 = .ok (.iconst 1, 1) ∧ decode cLa_law 486 = .ok (.iadd, 1) ∧ decode cLa_law 487 = .ok (.iaload, 1) ∧ decode cLa_law 488 = .ok (.aload_n 0, 1) ∧ decode cLa_law 489 = .ok (.iload 4, 2) ∧ decode cLa_law 491 = .ok (.iconst 2, 1) ∧ decode cLa_law 492 = .ok (.iadd, 1) ∧ decode cLa_law 493 = .ok (.iaload, 1) ∧ decode cLa_law 494 = .ok (.aload_n 0, 1) := by decide +kernel
theorem dLa_law_472 : decode cLa_law 472 = .ok (.iconst 0, 1) := dqLa_law_272.1
theorem dLa_law_473 : decode cLa_law 473 = .ok (.invokevirtual 81, 3) := dqLa_law_272.2.1
theorem dLa_law_476 : decode cLa_law 476 = .ok (.istore 6, 2) := dqLa_law_272.2.2.1
theorem dLa_law_478 : decode cLa_law 478 = .ok (.goto 319, 3) := dqLa_law_272.2.2.2.1
theorem dLa_law_481 : decode cLa_law 481 = .ok (.aload_n 1, 1) := dqLa_law_272.2.2.2.2.1
theorem dLa_law_482 : decode cLa_law 482 = .ok (.aload_n 0, 1) := dqLa_law_272.2.2.2.2.2.1
theorem dLa_law_483 : decode cLa_law 483 = .ok (.iload 4, 2) := dqLa_law_272.2.2.2.2.2.2.1
theorem dLa_law_485 : decode cLa_law 485 = .ok (.iconst 1, 1) := dqLa_law_272.2.2.2.2.2.2.2.1
theorem dLa_law_486 : decode cLa_law 486 = .ok (.iadd, 1) := dqLa_law_272.2.2.2.2.2.2.2.2.1
theorem dLa_law_487 : decode cLa_law 487 = .ok (.iaload, 1) := dqLa_law_272.2.2.2.2.2.2.2.2.2.1
theorem dLa_law_488 : decode cLa_law 488 = .ok (.aload_n 0, 1) := dqLa_law_272.2.2.2.2.2.2.2.2.2.2.1
theorem dLa_law_489 : decode cLa_law 489 = .ok (.iload 4, 2) := dqLa_law_272.2.2.2.2.2.2.2.2.2.2.2.1
theorem dLa_law_491 : decode cLa_law 491 = .ok (.iconst 2, 1) := dqLa_law_272.2.2.2.2.2.2.2.2.2.2.2.2.1
theorem dLa_law_492 : decode cLa_law 492 = .ok (.iadd, 1) := dqLa_law_272.2.2.2.2.2.2.2.2.2.2.2.2.2.1
theorem dLa_law_493 : decode cLa_law 493 = .ok (.iaload, 1) := dqLa_law_272.2.2.2.2.2.2.2.2.2.2.2.2.2.2.1
theorem dLa_law_494 : decode cLa_law 494 = .ok (.aload_n 0, 1) := dqLa_law_272.2.2.2.2.2.2.2.2.2.2.2.2.2.2.2
theorem dqLa_law_288 : decode cLa_law 495 = .ok (.iload 4, 2) ∧ decode cLa_law 497 = .ok (.iconst 3, 1) ∧ decode cLa_law 498 = .ok (.iadd, 1) ∧ decode cLa_law 499 = .ok (.iaload, 1) ∧ decode cLa_law 500 = .ok (.aload_n 3, 1) ∧ decode cLa_law 501 = .ok (.invokestatic 82, 3) ∧ decode cLa_law 504 = .ok (.istore 5, 2) ∧ decode cLa_law 506 = .ok (.aload_n 2, 1) ∧ decode cLa_law 507 = .ok (.aload_n 0, 1) ∧ decode cLa_law 508 = .ok (.iload 4, 2) ∧ decode cLa_law 510 = .ok (.iconst 1, 1) ∧ decode cLa_law 511 = .ok (.iadd, 1) ∧ decode cLa_law 512 = .ok (.iaload, 1) ∧ decode cLa_law 513 = .ok (.aload_n 0, 1) ∧ decode cLa_law 514 = .ok (.iload 4, 2) ∧ decode cLa_law 516 = .ok (.iconst 2, 1) := by decide +kernel
theorem dLa_law_495 : decode cLa_law 495 = .ok (.iload 4, 2) := dqLa_law_288.1
theorem dLa_law_497 : decode cLa_law 497 = .ok (.iconst 3, 1) := dqLa_law_288.2.1
theorem dLa_law_498 : decode cLa_law 498 = .ok (.iadd, 1) := dqLa_law_288.2.2.1
theorem dLa_law_499 : decode cLa_law 499 = .ok (.iaload, 1) := dqLa_law_288.2.2.2.1
theorem dLa_law_500 : decode cLa_law 500 = .ok (.aload_n 3, 1) := dqLa_law_288.2.2.2.2.1
theorem dLa_law_501 : decode cLa_law 501 = .ok (.invokestatic 82, 3) := dqLa_law_288.2.2.2.2.2.1
theorem dLa_law_504 : decode cLa_law 504 = .ok (.istore 5, 2) := dqLa_law_288.2.2.2.2.2.2.1
theorem dLa_law_506 : decode cLa_law 506 = .ok (.aload_n 2, 1) := dqLa_law_288.2.2.2.2.2.2.2.1
theorem dLa_law_507 : decode cLa_law 507 = .ok (.aload_n 0, 1) := dqLa_law_288.2.2.2.2.2.2.2.2.1
theorem dLa_law_508 : decode cLa_law 508 = .ok (.iload 4, 2) := dqLa_law_288.2.2.2.2.2.2.2.2.2.1
theorem dLa_law_510 : decode cLa_law 510 = .ok (.iconst 1, 1) := dqLa_law_288.2.2.2.2.2.2.2.2.2.2.1
theorem dLa_law_511 : decode cLa_law 511 = .ok (.iadd, 1) := dqLa_law_288.2.2.2.2.2.2.2.2.2.2.2.1
theorem dLa_law_512 : decode cLa_law 512 = .ok (.iaload, 1) := dqLa_law_288.2.2.2.2.2.2.2.2.2.2.2.2.1
theorem dLa_law_513 : decode cLa_law 513 = .ok (.aload_n 0, 1) := dqLa_law_288.2.2.2.2.2.2.2.2.2.2.2.2.2.1
theorem dLa_law_514 : decode cLa_law 514 = .ok (.iload 4, 2) := dqLa_law_288.2.2.2.2.2.2.2.2.2.2.2.2.2.2.1
theorem dLa_law_516 : decode cLa_law 516 = .ok (.iconst 2, 1) := dqLa_law_288.2.2.2.2.2.2.2.2.2.2.2.2.2.2.2
theorem dqLa_law_304 : decode cLa_law 517 = .ok (.iadd, 1) ∧ decode cLa_law 518 = .ok (.iaload, 1) ∧ decode cLa_law 519 = .ok (.aload_n 0, 1) ∧ decode cLa_law 520 = .ok (.iload 4, 2) ∧ decode cLa_law 522 = .ok (.iconst 3, 1) ∧ decode cLa_law 523 = .ok (.iadd, 1) ∧ decode cLa_law 524 = .ok (.iaload, 1) ∧ decode cLa_law 525 = .ok (.invokevirtual 85, 3) ∧ decode cLa_law 528 = .ok (.istore 6, 2) ∧ decode cLa_law 530 = .ok (.aload_n 2, 1) ∧ decode cLa_law 531 = .ok (.invokevirtual 86, 3) ∧ decode cLa_law 534 = .ok (.iload 5, 2) ∧ decode cLa_law 536 = .ok (.if_icmp .eq 5, 3) ∧ decode cLa_law 539 = .ok (.iconst 0, 1) ∧ decode cLa_law 540 = .ok (.ireturn, 1) ∧ decode cLa_law 541 = .ok (.iload 5, 2) := by decide +kernel
theorem dLa_law_517 : decode cLa_law 517 = .ok (.iadd, 1) := dqLa_law_304.1
theorem dLa_law_518 : decode cLa_law 518 = .ok (.iaload, 1) := dqLa_law_304.2.1
theorem dLa_law_519 : decode cLa_law 519 = .ok (.aload_n 0, 1) := dqLa_law_304.2.2.1
theorem dLa_law_520 : decode cLa_law 520 = .ok (.iload 4, 2) := dqLa_law_304.2.2.2.1
theorem dLa_law_522 : decode cLa_law 522 = .ok (.iconst 3, 1) := dqLa_law_304.2.2.2.2.1
theorem dLa_law_523 : decode cLa_law 523 = .ok (.iadd, 1) := dqLa_law_304.2.2.2.2.2.1
theorem dLa_law_524 : decode cLa_law 524 = .ok (.iaload, 1) := dqLa_law_304.2.2.2.2.2.2.1
theorem dLa_law_525 : decode cLa_law 525 = .ok (.invokevirtual 85, 3) := dqLa_law_304.2.2.2.2.2.2.2.1
theorem dLa_law_528 : decode cLa_law 528 = .ok (.istore 6, 2) := dqLa_law_304.2.2.2.2.2.2.2.2.1
theorem dLa_law_530 : decode cLa_law 530 = .ok (.aload_n 2, 1) := dqLa_law_304.2.2.2.2.2.2.2.2.2.1
theorem dLa_law_531 : decode cLa_law 531 = .ok (.invokevirtual 86, 3) := dqLa_law_304.2.2.2.2.2.2.2.2.2.2.1
theorem dLa_law_534 : decode cLa_law 534 = .ok (.iload 5, 2) := dqLa_law_304.2.2.2.2.2.2.2.2.2.2.2.1
theorem dLa_law_536 : decode cLa_law 536 = .ok (.if_icmp .eq 5, 3) := dqLa_law_304.2.2.2.2.2.2.2.2.2.2.2.2.1
theorem dLa_law_539 : decode cLa_law 539 = .ok (.iconst 0, 1) := dqLa_law_304.2.2.2.2.2.2.2.2.2.2.2.2.2.1
theorem dLa_law_540 : decode cLa_law 540 = .ok (.ireturn, 1) := dqLa_law_304.2.2.2.2.2.2.2.2.2.2.2.2.2.2.1
theorem dLa_law_541 : decode cLa_law 541 = .ok (.iload 5, 2) := dqLa_law_304.2.2.2.2.2.2.2.2.2.2.2.2.2.2.2
theorem dqLa_law_320 : decode cLa_law 543 = .ok (.ifCond .ne 22, 3) ∧ decode cLa_law 546 = .ok (.aload_n 3, 1) ∧ decode cLa_law 547 = .ok (.iconst 0, 1) ∧ decode cLa_law 548 = .ok (.laload, 1) ∧ decode cLa_law 549 = .ok (.iload 6, 2) ∧ decode cLa_law 551 = .ok (.ifCond .eq 7, 3) ∧ decode cLa_law 554 = .ok (.lconst 1, 1) ∧ decode cLa_law 555 = .ok (.goto 4, 3) ∧ decode cLa_law 558 = .ok (.lconst 0, 1) ∧ decode cLa_law 559 = .ok (.lcmp, 1) ∧ decode cLa_law 560 = .ok (.ifCond .eq 5, 3) ∧ decode cLa_law 563 = .ok (.iconst 0, 1) ∧ decode cLa_law 564 = .ok (.ireturn, 1) ∧ decode cLa_law 565 = .ok (.goto 232, 3) ∧ decode cLa_law 568 = .ok (.aload_n 1, 1) ∧ decode cLa_law 569 = .ok (.invokevirtual 90, 3) := by decide +kernel
theorem dLa_law_543 : decode cLa_law 543 = .ok (.ifCond .ne 22, 3) := dqLa_law_320.1
theorem dLa_law_546 : decode cLa_law 546 = .ok (.aload_n 3, 1) := dqLa_law_320.2.1
theorem dLa_law_547 : decode cLa_law 547 = .ok (.iconst 0, 1) := dqLa_law_320.2.2.1
theorem dLa_law_548 : decode cLa_law 548 = .ok (.laload, 1) := dqLa_law_320.2.2.2.1
theorem dLa_law_549 : decode cLa_law 549 = .ok (.iload 6, 2) := dqLa_law_320.2.2.2.2.1
theorem dLa_law_551 : decode cLa_law 551 = .ok (.ifCond .eq 7, 3) := dqLa_law_320.2.2.2.2.2.1
theorem dLa_law_554 : decode cLa_law 554 = .ok (.lconst 1, 1) := dqLa_law_320.2.2.2.2.2.2.1
theorem dLa_law_555 : decode cLa_law 555 = .ok (.goto 4, 3) := dqLa_law_320.2.2.2.2.2.2.2.1
theorem dLa_law_558 : decode cLa_law 558 = .ok (.lconst 0, 1) := dqLa_law_320.2.2.2.2.2.2.2.2.1
theorem dLa_law_559 : decode cLa_law 559 = .ok (.lcmp, 1) := dqLa_law_320.2.2.2.2.2.2.2.2.2.1
theorem dLa_law_560 : decode cLa_law 560 = .ok (.ifCond .eq 5, 3) := dqLa_law_320.2.2.2.2.2.2.2.2.2.2.1
theorem dLa_law_563 : decode cLa_law 563 = .ok (.iconst 0, 1) := dqLa_law_320.2.2.2.2.2.2.2.2.2.2.2.1
theorem dLa_law_564 : decode cLa_law 564 = .ok (.ireturn, 1) := dqLa_law_320.2.2.2.2.2.2.2.2.2.2.2.2.1
theorem dLa_law_565 : decode cLa_law 565 = .ok (.goto 232, 3) := dqLa_law_320.2.2.2.2.2.2.2.2.2.2.2.2.2.1
theorem dLa_law_568 : decode cLa_law 568 = .ok (.aload_n 1, 1) := dqLa_law_320.2.2.2.2.2.2.2.2.2.2.2.2.2.2.1
theorem dLa_law_569 : decode cLa_law 569 = .ok (.invokevirtual 90, 3) := dqLa_law_320.2.2.2.2.2.2.2.2.2.2.2.2.2.2.2
theorem dqLa_law_336 : decode cLa_law 572 = .ok (.pop, 1) ∧ decode cLa_law 573 = .ok (.aload_n 2, 1) ∧ decode cLa_law 574 = .ok (.invokevirtual 93, 3) ∧ decode cLa_law 577 = .ok (.pop, 1) ∧ decode cLa_law 578 = .ok (.goto 219, 3) ∧ decode cLa_law 581 = .ok (.aload_n 1, 1) ∧ decode cLa_law 582 = .ok (.aload_n 0, 1) ∧ decode cLa_law 583 = .ok (.iload 4, 2) ∧ decode cLa_law 585 = .ok (.iconst 1, 1) ∧ decode cLa_law 586 = .ok (.iadd, 1) ∧ decode cLa_law 587 = .ok (.iaload, 1) ∧ decode cLa_law 588 = .ok (.aload_n 3, 1) ∧ decode cLa_law 589 = .ok (.invokestatic 94, 3) ∧ decode cLa_law 592 = .ok (.istore 5, 2) ∧ decode cLa_law 594 = .ok (.aload_n 2, 1) ∧ decode cLa_law 595 = .ok (.aload_n 0, 1) := by decide +kernel
theorem dLa_law_572 : decode cLa_law 572 = .ok (.pop, 1) := dqLa_law_336.1
theorem dLa_law_573 : decode cLa_law 573 = .ok (.aload_n 2, 1) := dqLa_law_336.2.1
theorem dLa_law_574 : decode cLa_law 574 = .ok (.invokevirtual 93, 3) := dqLa_law_336.2.2.1
theorem dLa_law_577 : decode cLa_law 577 = .ok (.pop, 1) := dqLa_law_336.2.2.2.1
theorem dLa_law_578 : decode cLa_law 578 = .ok (.goto 219, 3) := dqLa_law_336.2.2.2.2.1
theorem dLa_law_581 : decode cLa_law 581 = .ok (.aload_n 1, 1) := dqLa_law_336.2.2.2.2.2.1
theorem dLa_law_582 : decode cLa_law 582 = .ok (.aload_n 0, 1) := dqLa_law_336.2.2.2.2.2.2.1
theorem dLa_law_583 : decode cLa_law 583 = .ok (.iload 4, 2) := dqLa_law_336.2.2.2.2.2.2.2.1
theorem dLa_law_585 : decode cLa_law 585 = .ok (.iconst 1, 1) := dqLa_law_336.2.2.2.2.2.2.2.2.1
theorem dLa_law_586 : decode cLa_law 586 = .ok (.iadd, 1) := dqLa_law_336.2.2.2.2.2.2.2.2.2.1
theorem dLa_law_587 : decode cLa_law 587 = .ok (.iaload, 1) := dqLa_law_336.2.2.2.2.2.2.2.2.2.2.1
theorem dLa_law_588 : decode cLa_law 588 = .ok (.aload_n 3, 1) := dqLa_law_336.2.2.2.2.2.2.2.2.2.2.2.1
theorem dLa_law_589 : decode cLa_law 589 = .ok (.invokestatic 94, 3) := dqLa_law_336.2.2.2.2.2.2.2.2.2.2.2.2.1
theorem dLa_law_592 : decode cLa_law 592 = .ok (.istore 5, 2) := dqLa_law_336.2.2.2.2.2.2.2.2.2.2.2.2.2.1
theorem dLa_law_594 : decode cLa_law 594 = .ok (.aload_n 2, 1) := dqLa_law_336.2.2.2.2.2.2.2.2.2.2.2.2.2.2.1
theorem dLa_law_595 : decode cLa_law 595 = .ok (.aload_n 0, 1) := dqLa_law_336.2.2.2.2.2.2.2.2.2.2.2.2.2.2.2
theorem dqLa_law_352 : decode cLa_law 596 = .ok (.iload 4, 2) ∧ decode cLa_law 598 = .ok (.iconst 1, 1) ∧ decode cLa_law 599 = .ok (.iadd, 1) ∧ decode cLa_law 600 = .ok (.iaload, 1) ∧ decode cLa_law 601 = .ok (.invokevirtual 96, 3) ∧ decode cLa_law 604 = .ok (.istore 6, 2) ∧ decode cLa_law 606 = .ok (.goto 191, 3) ∧ decode cLa_law 609 = .ok (.aload_n 1, 1) ∧ decode cLa_law 610 = .ok (.aload_n 0, 1) ∧ decode cLa_law 611 = .ok (.iload 4, 2) ∧ decode cLa_law 613 = .ok (.iconst 1, 1) ∧ decode cLa_law 614 = .ok (.iadd, 1) ∧ decode cLa_law 615 = .ok (.iaload, 1) ∧ decode cLa_law 616 = .ok (.invokevirtual 97, 3) ∧ decode cLa_law 619 = .ok (.pop, 1) ∧ decode cLa_law 620 = .ok (.aload_n 2, 1) := by decide +kernel
theorem dLa_law_596 : decode cLa_law 596 = .ok (.iload 4, 2) := dqLa_law_352.1
theorem dLa_law_598 : decode cLa_law 598 = .ok (.iconst 1, 1) := dqLa_law_352.2.1
theorem dLa_law_599 : decode cLa_law 599 = .ok (.iadd, 1) := dqLa_law_352.2.2.1
theorem dLa_law_600 : decode cLa_law 600 = .ok (.iaload, 1) := dqLa_law_352.2.2.2.1
theorem dLa_law_601 : decode cLa_law 601 = .ok (.invokevirtual 96, 3) := dqLa_law_352.2.2.2.2.1
theorem dLa_law_604 : decode cLa_law 604 = .ok (.istore 6, 2) := dqLa_law_352.2.2.2.2.2.1
theorem dLa_law_606 : decode cLa_law 606 = .ok (.goto 191, 3) := dqLa_law_352.2.2.2.2.2.2.1
theorem dLa_law_609 : decode cLa_law 609 = .ok (.aload_n 1, 1) := dqLa_law_352.2.2.2.2.2.2.2.1
theorem dLa_law_610 : decode cLa_law 610 = .ok (.aload_n 0, 1) := dqLa_law_352.2.2.2.2.2.2.2.2.1
theorem dLa_law_611 : decode cLa_law 611 = .ok (.iload 4, 2) := dqLa_law_352.2.2.2.2.2.2.2.2.2.1
theorem dLa_law_613 : decode cLa_law 613 = .ok (.iconst 1, 1) := dqLa_law_352.2.2.2.2.2.2.2.2.2.2.1
theorem dLa_law_614 : decode cLa_law 614 = .ok (.iadd, 1) := dqLa_law_352.2.2.2.2.2.2.2.2.2.2.2.1
theorem dLa_law_615 : decode cLa_law 615 = .ok (.iaload, 1) := dqLa_law_352.2.2.2.2.2.2.2.2.2.2.2.2.1
theorem dLa_law_616 : decode cLa_law 616 = .ok (.invokevirtual 97, 3) := dqLa_law_352.2.2.2.2.2.2.2.2.2.2.2.2.2.1
theorem dLa_law_619 : decode cLa_law 619 = .ok (.pop, 1) := dqLa_law_352.2.2.2.2.2.2.2.2.2.2.2.2.2.2.1
theorem dLa_law_620 : decode cLa_law 620 = .ok (.aload_n 2, 1) := dqLa_law_352.2.2.2.2.2.2.2.2.2.2.2.2.2.2.2
theorem dqLa_law_368 : decode cLa_law 621 = .ok (.aload_n 0, 1) ∧ decode cLa_law 622 = .ok (.iload 4, 2) ∧ decode cLa_law 624 = .ok (.iconst 1, 1) ∧ decode cLa_law 625 = .ok (.iadd, 1) ∧ decode cLa_law 626 = .ok (.iaload, 1) ∧ decode cLa_law 627 = .ok (.invokevirtual 100, 3) ∧ decode cLa_law 630 = .ok (.pop, 1) ∧ decode cLa_law 631 = .ok (.goto 166, 3) ∧ decode cLa_law 634 = .ok (.aload_n 1, 1) ∧ decode cLa_law 635 = .ok (.invokevirtual 101, 3) ∧ decode cLa_law 638 = .ok (.pop, 1) ∧ decode cLa_law 639 = .ok (.aload_n 2, 1) ∧ decode cLa_law 640 = .ok (.invokevirtual 104, 3) ∧ decode cLa_law 643 = .ok (.pop, 1) ∧ decode cLa_law 644 = .ok (.goto 153, 3) ∧ decode cLa_law 647 = .ok (.aload_n 1, 1) := by decide +kernel
theorem dLa_law_621 : decode cLa_law 621 = .ok (.aload_n 0, 1) := dqLa_law_368.1
theorem dLa_law_622 : decode cLa_law 622 = .ok (.iload 4, 2) := dqLa_law_368.2.1
theorem dLa_law_624 : decode cLa_law 624 = .ok (.iconst 1, 1) := dqLa_law_368.2.2.1
theorem dLa_law_625 : decode cLa_law 625 = .ok (.iadd, 1) := dqLa_law_368.2.2.2.1
theorem dLa_law_626 : decode cLa_law 626 = .ok (.iaload, 1) := dqLa_law_368.2.2.2.2.1
theorem dLa_law_627 : decode cLa_law 627 = .ok (.invokevirtual 100, 3) := dqLa_law_368.2.2.2.2.2.1
theorem dLa_law_630 : decode cLa_law 630 = .ok (.pop, 1) := dqLa_law_368.2.2.2.2.2.2.1
theorem dLa_law_631 : decode cLa_law 631 = .ok (.goto 166, 3) := dqLa_law_368.2.2.2.2.2.2.2.1
theorem dLa_law_634 : decode cLa_law 634 = .ok (.aload_n 1, 1) := dqLa_law_368.2.2.2.2.2.2.2.2.1
theorem dLa_law_635 : decode cLa_law 635 = .ok (.invokevirtual 101, 3) := dqLa_law_368.2.2.2.2.2.2.2.2.2.1
theorem dLa_law_638 : decode cLa_law 638 = .ok (.pop, 1) := dqLa_law_368.2.2.2.2.2.2.2.2.2.2.1
theorem dLa_law_639 : decode cLa_law 639 = .ok (.aload_n 2, 1) := dqLa_law_368.2.2.2.2.2.2.2.2.2.2.2.1
theorem dLa_law_640 : decode cLa_law 640 = .ok (.invokevirtual 104, 3) := dqLa_law_368.2.2.2.2.2.2.2.2.2.2.2.2.1
theorem dLa_law_643 : decode cLa_law 643 = .ok (.pop, 1) := dqLa_law_368.2.2.2.2.2.2.2.2.2.2.2.2.2.1
theorem dLa_law_644 : decode cLa_law 644 = .ok (.goto 153, 3) := dqLa_law_368.2.2.2.2.2.2.2.2.2.2.2.2.2.2.1
theorem dLa_law_647 : decode cLa_law 647 = .ok (.aload_n 1, 1) := dqLa_law_368.2.2.2.2.2.2.2.2.2.2.2.2.2.2.2
theorem dqLa_law_384 : decode cLa_law 648 = .ok (.aload_n 0, 1) ∧ decode cLa_law 649 = .ok (.iload 4, 2) ∧ decode cLa_law 651 = .ok (.iconst 1, 1) ∧ decode cLa_law 652 = .ok (.iadd, 1) ∧ decode cLa_law 653 = .ok (.iaload, 1) ∧ decode cLa_law 654 = .ok (.invokevirtual 105, 3) ∧ decode cLa_law 657 = .ok (.pop, 1) ∧ decode cLa_law 658 = .ok (.aload_n 2, 1) ∧ decode cLa_law 659 = .ok (.aload_n 0, 1) ∧ decode cLa_law 660 = .ok (.iload 4, 2) ∧ decode cLa_law 662 = .ok (.iconst 1, 1) ∧ decode cLa_law 663 = .ok (.iadd, 1) ∧ decode cLa_law 664 = .ok (.iaload, 1) ∧ decode cLa_law 665 = .ok (.invokevirtual 108, 3) ∧ decode cLa_law 668 = .ok (.pop, 1) ∧ decode cLa_law 669 = .ok (.goto 128, 3) := by decide +kernel
theorem dLa_law_648 : decode cLa_law 648 = .ok (.aload_n 0, 1) := dqLa_law_384.1
theorem dLa_law_649 : decode cLa_law 649 = .ok (.iload 4, 2) := dqLa_law_384.2.1
theorem dLa_law_651 : decode cLa_law 651 = .ok (.iconst 1, 1) := dqLa_law_384.2.2.1
theorem dLa_law_652 : decode cLa_law 652 = .ok (.iadd, 1) := dqLa_law_384.2.2.2.1
theorem dLa_law_653 : decode cLa_law 653 = .ok (.iaload, 1) := dqLa_law_384.2.2.2.2.1
theorem dLa_law_654 : decode cLa_law 654 = .ok (.invokevirtual 105, 3) := dqLa_law_384.2.2.2.2.2.1
theorem dLa_law_657 : decode cLa_law 657 = .ok (.pop, 1) := dqLa_law_384.2.2.2.2.2.2.1
theorem dLa_law_658 : decode cLa_law 658 = .ok (.aload_n 2, 1) := dqLa_law_384.2.2.2.2.2.2.2.1
theorem dLa_law_659 : decode cLa_law 659 = .ok (.aload_n 0, 1) := dqLa_law_384.2.2.2.2.2.2.2.2.1
theorem dLa_law_660 : decode cLa_law 660 = .ok (.iload 4, 2) := dqLa_law_384.2.2.2.2.2.2.2.2.2.1
theorem dLa_law_662 : decode cLa_law 662 = .ok (.iconst 1, 1) := dqLa_law_384.2.2.2.2.2.2.2.2.2.2.1
theorem dLa_law_663 : decode cLa_law 663 = .ok (.iadd, 1) := dqLa_law_384.2.2.2.2.2.2.2.2.2.2.2.1
theorem dLa_law_664 : decode cLa_law 664 = .ok (.iaload, 1) := dqLa_law_384.2.2.2.2.2.2.2.2.2.2.2.2.1
theorem dLa_law_665 : decode cLa_law 665 = .ok (.invokevirtual 108, 3) := dqLa_law_384.2.2.2.2.2.2.2.2.2.2.2.2.2.1
theorem dLa_law_668 : decode cLa_law 668 = .ok (.pop, 1) := dqLa_law_384.2.2.2.2.2.2.2.2.2.2.2.2.2.2.1
theorem dLa_law_669 : decode cLa_law 669 = .ok (.goto 128, 3) := dqLa_law_384.2.2.2.2.2.2.2.2.2.2.2.2.2.2.2
theorem dqLa_law_400 : decode cLa_law 672 = .ok (.aload_n 1, 1) ∧ decode cLa_law 673 = .ok (.aload_n 0, 1) ∧ decode cLa_law 674 = .ok (.iload 4, 2) ∧ decode cLa_law 676 = .ok (.iconst 1, 1) ∧ decode cLa_law 677 = .ok (.iadd, 1) ∧ decode cLa_law 678 = .ok (.iaload, 1) ∧ decode cLa_law 679 = .ok (.invokevirtual 109, 3) ∧ decode cLa_law 682 = .ok (.pop2, 1) ∧ decode cLa_law 683 = .ok (.aload_n 2, 1) ∧ decode cLa_law 684 = .ok (.aload_n 0, 1) ∧ decode cLa_law 685 = .ok (.iload 4, 2) ∧ decode cLa_law 687 = .ok (.iconst 1, 1) ∧ decode cLa_law 688 = .ok (.iadd, 1) ∧ decode cLa_law 689 = .ok (.iaload, 1) ∧ decode cLa_law 690 = .ok (.invokevirtual 113, 3) ∧ decode cLa_law 693 = .ok (.pop2, 1) := by decide +kernel
theorem dLa_law_672 : decode cLa_law 672 = .ok (.aload_n 1, 1) := dqLa_law_400.1
theorem dLa_law_673 : decode cLa_law 673 = .ok (.aload_n 0, 1) := dqLa_law_400.2.1
theorem dLa_law_674 : decode cLa_law 674 = .ok (.iload 4, 2) := dqLa_law_400.2.2.1
theorem dLa_law_676 : decode cLa_law 676 = .ok (.iconst 1, 1) := dqLa_law_400.2.2.2.1
theorem dLa_law_677 : decode cLa_law 677 = .ok (.iadd, 1) := dqLa_law_400.2.2.2.2.1
theorem dLa_law_678 : decode cLa_law 678 = .ok (.iaload, 1) := dqLa_law_400.2.2.2.2.2.1
theorem dLa_law_679 : decode cLa_law 679 = .ok (.invokevirtual 109, 3) := dqLa_law_400.2.2.2.2.2.2.1
theorem dLa_law_682 : decode cLa_law 682 = .ok (.pop2, 1) := dqLa_law_400.2.2.2.2.2.2.2.1
theorem dLa_law_683 : decode cLa_law 683 = .ok (.aload_n 2, 1) := dqLa_law_400.2.2.2.2.2.2.2.2.1
theorem dLa_law_684 : decode cLa_law 684 = .ok (.aload_n 0, 1) := dqLa_law_400.2.2.2.2.2.2.2.2.2.1
theorem dLa_law_685 : decode cLa_law 685 = .ok (.iload 4, 2) := dqLa_law_400.2.2.2.2.2.2.2.2.2.2.1
theorem dLa_law_687 : decode cLa_law 687 = .ok (.iconst 1, 1) := dqLa_law_400.2.2.2.2.2.2.2.2.2.2.2.1
theorem dLa_law_688 : decode cLa_law 688 = .ok (.iadd, 1) := dqLa_law_400.2.2.2.2.2.2.2.2.2.2.2.2.1
theorem dLa_law_689 : decode cLa_law 689 = .ok (.iaload, 1) := dqLa_law_400.2.2.2.2.2.2.2.2.2.2.2.2.2.1
theorem dLa_law_690 : decode cLa_law 690 = .ok (.invokevirtual 113, 3) := dqLa_law_400.2.2.2.2.2.2.2.2.2.2.2.2.2.2.1
theorem dLa_law_693 : decode cLa_law 693 = .ok (.pop2, 1) := dqLa_law_400.2.2.2.2.2.2.2.2.2.2.2.2.2.2.2
theorem dqLa_law_416 : decode cLa_law 694 = .ok (.goto 103, 3) ∧ decode cLa_law 697 = .ok (.aload_n 1, 1) ∧ decode cLa_law 698 = .ok (.invokevirtual 114, 3) ∧ decode cLa_law 701 = .ok (.pop2, 1) ∧ decode cLa_law 702 = .ok (.aload_n 2, 1) ∧ decode cLa_law 703 = .ok (.invokevirtual 118, 3) ∧ decode cLa_law 706 = .ok (.pop2, 1) ∧ decode cLa_law 707 = .ok (.goto 90, 3) ∧ decode cLa_law 710 = .ok (.aload_n 1, 1) ∧ decode cLa_law 711 = .ok (.aload_n 0, 1) ∧ decode cLa_law 712 = .ok (.iload 4, 2) ∧ decode cLa_law 714 = .ok (.iconst 1, 1) ∧ decode cLa_law 715 = .ok (.iadd, 1) ∧ decode cLa_law 716 = .ok (.iaload, 1) ∧ decode cLa_law 717 = .ok (.invokevirtual 119, 3) ∧ decode cLa_law 720 = .ok (.pop2, 1) := by decide +kernel
theorem dLa_law_694 : decode cLa_law 694 = .ok (.goto 103, 3) := dqLa_law_416.1
theorem dLa_law_697 : decode cLa_law 697 = .ok (.aload_n 1, 1) := dqLa_law_416.2.1
theorem dLa_law_698 : decode cLa_law 698 = .ok (.invokevirtual 114, 3) := dqLa_law_416.2.2.1
theorem dLa_law_701 : decode cLa_law 701 = .ok (.pop2, 1) := dqLa_law_416.2.2.2.1
theorem dLa_law_702 : decode cLa_law 702 = .ok (.aload_n 2, 1) := dqLa_law_416.2.2.2.2.1
theorem dLa_law_703 : decode cLa_law 703 = .ok (.invokevirtual 118, 3) := dqLa_law_416.2.2.2.2.2.1
theorem dLa_law_706 : decode cLa_law 706 = .ok (.pop2, 1) := dqLa_law_416.2.2.2.2.2.2.1
theorem dLa_law_707 : decode cLa_law 707 = .ok (.goto 90, 3) := dqLa_law_416.2.2.2.2.2.2.2.1
theorem dLa_law_710 : decode cLa_law 710 = .ok (.aload_n 1, 1) := dqLa_law_416.2.2.2.2.2.2.2.2.1
theorem dLa_law_711 : decode cLa_law 711 = .ok (.aload_n 0, 1) := dqLa_law_416.2.2.2.2.2.2.2.2.2.1
theorem dLa_law_712 : decode cLa_law 712 = .ok (.iload 4, 2) := dqLa_law_416.2.2.2.2.2.2.2.2.2.2.1
theorem dLa_law_714 : decode cLa_law 714 = .ok (.iconst 1, 1) := dqLa_law_416.2.2.2.2.2.2.2.2.2.2.2.1
theorem dLa_law_715 : decode cLa_law 715 = .ok (.iadd, 1) := dqLa_law_416.2.2.2.2.2.2.2.2.2.2.2.2.1
theorem dLa_law_716 : decode cLa_law 716 = .ok (.iaload, 1) := dqLa_law_416.2.2.2.2.2.2.2.2.2.2.2.2.2.1
theorem dLa_law_717 : decode cLa_law 717 = .ok (.invokevirtual 119, 3) := dqLa_law_416.2.2.2.2.2.2.2.2.2.2.2.2.2.2.1
theorem dLa_law_720 : decode cLa_law 720 = .ok (.pop2, 1) := dqLa_law_416.2.2.2.2.2.2.2.2.2.2.2.2.2.2.2
theorem dqLa_law_432 : decode cLa_law 721 = .ok (.aload_n 2, 1) ∧ decode cLa_law 722 = .ok (.aload_n 0, 1) ∧ decode cLa_law 723 = .ok (.iload 4, 2) ∧ decode cLa_law 725 = .ok (.iconst 1, 1) ∧ decode cLa_law 726 = .ok (.iadd, 1) ∧ decode cLa_law 727 = .ok (.iaload, 1) ∧ decode cLa_law 728 = .ok (.invokevirtual 122, 3) ∧ decode cLa_law 731 = .ok (.pop2, 1) ∧ decode cLa_law 732 = .ok (.goto 65, 3) ∧ decode cLa_law 735 = .ok (.aload_n 1, 1) ∧ decode cLa_law 736 = .ok (.aload_n 0, 1) ∧ decode cLa_law 737 = .ok (.iload 4, 2) ∧ decode cLa_law 739 = .ok (.iconst 1, 1) ∧ decode cLa_law 740 = .ok (.iadd, 1) ∧ decode cLa_law 741 = .ok (.iaload, 1) ∧ decode cLa_law 742 = .ok (.invokevirtual 123, 3) := by decide +kernel
theorem dLa_law_721 : decode cLa_law 721 = .ok (.aload_n 2, 1) := dqLa_law_432.1
theorem dLa_law_722 : decode cLa_law 722 = .ok (.aload_n 0, 1) := dqLa_law_432.2.1
theorem dLa_law_723 : decode cLa_law 723 = .ok (.iload 4, 2) := dqLa_law_432.2.2.1
theorem dLa_law_725 : decode cLa_law 725 = .ok (.iconst 1, 1) := dqLa_law_432.2.2.2.1
theorem dLa_law_726 : decode cLa_law 726 = .ok (.iadd, 1) := dqLa_law_432.2.2.2.2.1
theorem dLa_law_727 : decode cLa_law 727 = .ok (.iaload, 1) := dqLa_law_432.2.2.2.2.2.1
theorem dLa_law_728 : decode cLa_law 728 = .ok (.invokevirtual 122, 3) := dqLa_law_432.2.2.2.2.2.2.1
theorem dLa_law_731 : decode cLa_law 731 = .ok (.pop2, 1) := dqLa_law_432.2.2.2.2.2.2.2.1
theorem dLa_law_732 : decode cLa_law 732 = .ok (.goto 65, 3) := dqLa_law_432.2.2.2.2.2.2.2.2.1
theorem dLa_law_735 : decode cLa_law 735 = .ok (.aload_n 1, 1) := dqLa_law_432.2.2.2.2.2.2.2.2.2.1
theorem dLa_law_736 : decode cLa_law 736 = .ok (.aload_n 0, 1) := dqLa_law_432.2.2.2.2.2.2.2.2.2.2.1
theorem dLa_law_737 : decode cLa_law 737 = .ok (.iload 4, 2) := dqLa_law_432.2.2.2.2.2.2.2.2.2.2.2.1
theorem dLa_law_739 : decode cLa_law 739 = .ok (.iconst 1, 1) := dqLa_law_432.2.2.2.2.2.2.2.2.2.2.2.2.1
theorem dLa_law_740 : decode cLa_law 740 = .ok (.iadd, 1) := dqLa_law_432.2.2.2.2.2.2.2.2.2.2.2.2.2.1
theorem dLa_law_741 : decode cLa_law 741 = .ok (.iaload, 1) := dqLa_law_432.2.2.2.2.2.2.2.2.2.2.2.2.2.2.1
theorem dLa_law_742 : decode cLa_law 742 = .ok (.invokevirtual 123, 3) := dqLa_law_432.2.2.2.2.2.2.2.2.2.2.2.2.2.2.2
theorem dqLa_law_448 : decode cLa_law 745 = .ok (.pop2, 1) ∧ decode cLa_law 746 = .ok (.aload_n 2, 1) ∧ decode cLa_law 747 = .ok (.aload_n 0, 1) ∧ decode cLa_law 748 = .ok (.iload 4, 2) ∧ decode cLa_law 750 = .ok (.iconst 1, 1) ∧ decode cLa_law 751 = .ok (.iadd, 1) ∧ decode cLa_law 752 = .ok (.iaload, 1) ∧ decode cLa_law 753 = .ok (.invokevirtual 126, 3) ∧ decode cLa_law 756 = .ok (.pop2, 1) ∧ decode cLa_law 757 = .ok (.goto 40, 3) ∧ decode cLa_law 760 = .ok (.aload_n 1, 1) ∧ decode cLa_law 761 = .ok (.aload_n 0, 1) ∧ decode cLa_law 762 = .ok (.iload 4, 2) ∧ decode cLa_law 764 = .ok (.iconst 1, 1) ∧ decode cLa_law 765 = .ok (.iadd, 1) ∧ decode cLa_law 766 = .ok (.iaload, 1) := by decide +kernel
theorem dLa_law_745 : decode cLa_law 745 = .ok (.pop2, 1) := dqLa_law_448.1
theorem dLa_law_746 : decode cLa_law 746 = .ok (.aload_n 2, 1) := dqLa_law_448.2.1
theorem dLa_law_747 : decode cLa_law 747 = .ok (.aload_n 0, 1) := dqLa_law_448.2.2.1
theorem dLa_law_748 : decode cLa_law 748 = .ok (.iload 4, 2) := dqLa_law_448.2.2.2.1
theorem dLa_law_750 : decode cLa_law 750 = .ok (.iconst 1, 1) := dqLa_law_448.2.2.2.2.1
theorem dLa_law_751 : decode cLa_law 751 = .ok (.iadd, 1) := dqLa_law_448.2.2.2.2.2.1
theorem dLa_law_752 : decode cLa_law 752 = .ok (.iaload, 1) := dqLa_law_448.2.2.2.2.2.2.1
theorem dLa_law_753 : decode cLa_law 753 = .ok (.invokevirtual 126, 3) := dqLa_law_448.2.2.2.2.2.2.2.1
theorem dLa_law_756 : decode cLa_law 756 = .ok (.pop2, 1) := dqLa_law_448.2.2.2.2.2.2.2.2.1
theorem dLa_law_757 : decode cLa_law 757 = .ok (.goto 40, 3) := dqLa_law_448.2.2.2.2.2.2.2.2.2.1
theorem dLa_law_760 : decode cLa_law 760 = .ok (.aload_n 1, 1) := dqLa_law_448.2.2.2.2.2.2.2.2.2.2.1
theorem dLa_law_761 : decode cLa_law 761 = .ok (.aload_n 0, 1) := dqLa_law_448.2.2.2.2.2.2.2.2.2.2.2.1
theorem dLa_law_762 : decode cLa_law 762 = .ok (.iload 4, 2) := dqLa_law_448.2.2.2.2.2.2.2.2.2.2.2.2.1
theorem dLa_law_764 : decode cLa_law 764 = .ok (.iconst 1, 1) := dqLa_law_448.2.2.2.2.2.2.2.2.2.2.2.2.2.1
theorem dLa_law_765 : decode cLa_law 765 = .ok (.iadd, 1) := dqLa_law_448.2.2.2.2.2.2.2.2.2.2.2.2.2.2.1
theorem dLa_law_766 : decode cLa_law 766 = .ok (.iaload, 1) := dqLa_law_448.2.2.2.2.2.2.2.2.2.2.2.2.2.2.2
theorem dqLa_law_464 : decode cLa_law 767 = .ok (.aload_n 0, 1) ∧ decode cLa_law 768 = .ok (.iload 4, 2) ∧ decode cLa_law 770 = .ok (.iconst 2, 1) ∧ decode cLa_law 771 = .ok (.iadd, 1) ∧ decode cLa_law 772 = .ok (.iaload, 1) ∧ decode cLa_law 773 = .ok (.invokevirtual 127, 3) ∧ decode cLa_law 776 = .ok (.pop2, 1) ∧ decode cLa_law 777 = .ok (.aload_n 2, 1) ∧ decode cLa_law 778 = .ok (.aload_n 0, 1) ∧ decode cLa_law 779 = .ok (.iload 4, 2) ∧ decode cLa_law 781 = .ok (.iconst 1, 1) ∧ decode cLa_law 782 = .ok (.iadd, 1) ∧ decode cLa_law 783 = .ok (.iaload, 1) ∧ decode cLa_law 784 = .ok (.aload_n 0, 1) ∧ decode cLa_law 785 = .ok (.iload 4, 2) ∧ decode cLa_law 787 = .ok (.iconst 2, 1) := by decide +kernel
theorem dLa_law_767 : decode cLa_law 767 = .ok (.aload_n 0, 1) := dqLa_law_464.1
theorem dLa_law_768 : decode cLa_law 768 = .ok (.iload 4, 2) := dqLa_law_464.2.1
theorem dLa_law_770 : decode cLa_law 770 = .ok (.iconst 2, 1) := dqLa_law_464.2.2.1
theorem dLa_law_771 : decode cLa_law 771 = .ok (.iadd, 1) := dqLa_law_464.2.2.2.1
theorem dLa_law_772 : decode cLa_law 772 = .ok (.iaload, 1) := dqLa_law_464.2.2.2.2.1
theorem dLa_law_773 : decode cLa_law 773 = .ok (.invokevirtual 127, 3) := dqLa_law_464.2.2.2.2.2.1
theorem dLa_law_776 : decode cLa_law 776 = .ok (.pop2, 1) := dqLa_law_464.2.2.2.2.2.2.1
theorem dLa_law_777 : decode cLa_law 777 = .ok (.aload_n 2, 1) := dqLa_law_464.2.2.2.2.2.2.2.1
theorem dLa_law_778 : decode cLa_law 778 = .ok (.aload_n 0, 1) := dqLa_law_464.2.2.2.2.2.2.2.2.1
theorem dLa_law_779 : decode cLa_law 779 = .ok (.iload 4, 2) := dqLa_law_464.2.2.2.2.2.2.2.2.2.1
theorem dLa_law_781 : decode cLa_law 781 = .ok (.iconst 1, 1) := dqLa_law_464.2.2.2.2.2.2.2.2.2.2.1
theorem dLa_law_782 : decode cLa_law 782 = .ok (.iadd, 1) := dqLa_law_464.2.2.2.2.2.2.2.2.2.2.2.1
theorem dLa_law_783 : decode cLa_law 783 = .ok (.iaload, 1) := dqLa_law_464.2.2.2.2.2.2.2.2.2.2.2.2.1
theorem dLa_law_784 : decode cLa_law 784 = .ok (.aload_n 0, 1) := dqLa_law_464.2.2.2.2.2.2.2.2.2.2.2.2.2.1
theorem dLa_law_785 : decode cLa_law 785 = .ok (.iload 4, 2) := dqLa_law_464.2.2.2.2.2.2.2.2.2.2.2.2.2.2.1
theorem dLa_law_787 : decode cLa_law 787 = .ok (.iconst 2, 1) := dqLa_law_464.2.2.2.2.2.2.2.2.2.2.2.2.2.2.2
theorem dqLa_law_480 : decode cLa_law 788 = .ok (.iadd, 1) ∧ decode cLa_law 789 = .ok (.iaload, 1) ∧ decode cLa_law 790 = .ok (.invokevirtual 131, 3) ∧ decode cLa_law 793 = .ok (.pop2, 1) ∧ decode cLa_law 794 = .ok (.goto 3, 3) ∧ decode cLa_law 797 = .ok (.iinc 4 5, 3) ∧ decode cLa_law 800 = .ok (.goto (-777), 3) ∧ decode cLa_law 803 = .ok (.iconst 1, 1) ∧ decode cLa_law 804 = .ok (.ireturn, 1) := by decide +kernel
theorem dLa_law_788 : decode cLa_law 788 = .ok (.iadd, 1) := dqLa_law_480.1
theorem dLa_law_789 : decode cLa_law 789 = .ok (.iaload, 1) := dqLa_law_480.2.1
theorem dLa_law_790 : decode cLa_law 790 = .ok (.invokevirtual 131, 3) := dqLa_law_480.2.2.1
theorem dLa_law_793 : decode cLa_law 793 = .ok (.pop2, 1) := dqLa_law_480.2.2.2.1
theorem dLa_law_794 : decode cLa_law 794 = .ok (.goto 3, 3) := dqLa_law_480.2.2.2.2.1
theorem dLa_law_797 : decode cLa_law 797 = .ok (.iinc 4 5, 3) := dqLa_law_480.2.2.2.2.2.1
theorem dLa_law_800 : decode cLa_law 800 = .ok (.goto (-777), 3) := dqLa_law_480.2.2.2.2.2.2.1
theorem dLa_law_803 : decode cLa_law 803 = .ok (.iconst 1, 1) := dqLa_law_480.2.2.2.2.2.2.2.1
theorem dLa_law_804 : decode cLa_law 804 = .ok (.ireturn, 1) := dqLa_law_480.2.2.2.2.2.2.2.2
def wl_La_law_23 (L : Nat) (xs : Nat → Int32) : Nat → (Int32) → (ct_Sc) → (Nat → Int32) → (Nat → Int32) → (Nat → Int32) → (ct_In) → (Nat → Int32) → (ct_Ma) → (Nat → Int32) → (Nat → Int64) → (ct_Ma) → (Nat → Int32) → (Nat → Int64) → (ct_Pa) → (Nat → Int32) → (Nat → Int32) → (Nat → Int32) → (ct_Pr) → (ct_Ma) → (Nat → Int32) → (Nat → Int64) → (ct_As) → (ct_Ga) → (ct_Ga) → (ct_Ga) → (ct_Mo) → (Nat → Int32) → (Nat → Int32) → (Nat → Int32) → (Nat → Int32) → (Nat → Int32) → (Nat → Int32) → (Nat → Int32) → (Nat → Int32) → (Nat → Int32) → (Nat → Int32) → (Nat → Int32) → (Nat → Int32) → (Nat → Int64) → (Nat → Int64) → (Nat → Int32) → (Nat → Int64) → (Nat → Int32) → (Nat → Int32) → (Nat → Int64) → (Nat → Int64) → (Nat → Int64) → (Nat) → (Nat) → Prop
  | 0, _, _, _, _, _, _, _, _, _, _, _, _, _, _, _, _, _, _, _, _, _, _, _, _, _, _, _, _, _, _, _, _, _, _, _, _, _, _, _, _, _, _, _, _, _, _, _, _, _ => False
  | n264 + 1, v265, x266, x267, x268, x269, x270, x271, x272, x273, x274, x275, x276, x277, x278, x279, x280, x281, x282, x283, x284, x285, x286, x287, x288, x289, x290, x291, x292, x293, x294, x295, x296, x297, x298, x299, x300, x301, x302, x303, x304, x305, x306, x307, x308, x309, x310, x311, kc9, ks9 => kc9 ≤ 639275 ∧ ks9 ≤ 7178020 ∧ (((((Int32.ofNat L) - 5) < v265 → (True)) ∧ (¬ ((Int32.ofNat L) - 5) < v265 → (vp_in v265 L ∧ (∀ kk314 : Int32, kk314 = ((xs v265.toNatClampNeg) &&& 31) → (((kk314 < 0 → (wl_La_law_23 L xs n264 (v265 + 5) x266 x267 x268 x269 x270 x271 x272 x273 x274 x275 x276 x277 x278 x279 x280 x281 x282 x283 x284 x285 x286 x287 x288 x289 x290 x291 x292 x293 x294 x295 x296 x297 x298 x299 x300 x301 x302 x303 x304 x305 x306 x307 x308 x309 x310 x311 (kc9 + 10) (ks9 + 60))) ∧ (¬ kk314 < 0 → (((17 < kk314 → (wl_La_law_23 L xs n264 (v265 + 5) x266 x267 x268 x269 x270 x271 x272 x273 x274 x275 x276 x277 x278 x279 x280 x281 x282 x283 x284 x285 x286 x287 x288 x289 x290 x291 x292 x293 x294 x295 x296 x297 x298 x299 x300 x301 x302 x303 x304 x305 x306 x307 x308 x309 x310 x311 (kc9 + 10) (ks9 + 60))) ∧ (¬ 17 < kk314 → (((kk314 = 0 → (vp_in (v265 + 1) L ∧ (vp_in (v265 + 2) L ∧ (vp_in (v265 + 3) L ∧ (wp_Sc_code (fun r321 u322 => (vp_in (v265 + 1) L ∧ (vp_in (v265 + 2) L ∧ (vp_in (v265 + 3) L ∧ (wp_Mo_code (fun r326 u327 => (wl_La_law_23 L xs n264 (v265 + 5) u322.1 x267 u322.2.1 u322.2.2.1 x270 x271 x272 x273 x274 x275 x276 x277 x278 x279 x280 x281 x282 x283 x284 x285 u322.2.2.2 x287 x288 x289 u327.1 u327.2.1 u327.2.2 x293 x294 x295 x296 x297 x298 x299 x300 x301 x302 x303 x304 x305 x306 x307 x308 x309 x310 x311 (kc9 + 10) (ks9 + 60))) (x290, x291, x292) (xs (v265 + 1).toNatClampNeg) (xs (v265 + 2).toNatClampNeg) (xs (v265 + 3).toNatClampNeg) ))))) (x266, x268, x269, x286) (xs (v265 + 1).toNatClampNeg) (xs (v265 + 2).toNatClampNeg) (xs (v265 + 3).toNatClampNeg) ))))) ∧ (¬ kk314 = 0 → (((kk314 = 1 → (vp_in (v265 + 1) L ∧ (vp_in (v265 + 2) L ∧ (wp_La_deposit (fun r331 u332 => (vp_in (v265 + 1) L ∧ (vp_in (v265 + 2) L ∧ (wp_Mo_deposit (fun r336 u337 => (wl_La_law_23 L xs n264 (v265 + 5) u332.1 u332.2.1 x268 x269 u332.2.2.1 u332.2.2.2.1 x272 x273 x274 x275 x276 x277 x278 x279 x280 x281 x282 x283 x284 x285 x286 x287 x288 x289 u337.1 x291 x292 u337.2.1 u337.2.2 x295 x296 x297 x298 x299 x300 x301 x302 x303 x304 x305 x306 x307 x308 x309 x310 u332.2.2.2.2 (kc9 + 10) (ks9 + 60))) (x290, x293, x294) (xs (v265 + 1).toNatClampNeg) (xs (v265 + 2).toNatClampNeg) )))) (fun E9 u333 => (False)) (x266, x267, x270, x271, x311) (xs (v265 + 1).toNatClampNeg) (xs (v265 + 2).toNatClampNeg) )))) ∧ (¬ kk314 = 1 → (((kk314 = 2 → (vp_in (v265 + 1) L ∧ (wp_La_send (fun r340 u341 => (vp_in (v265 + 1) L ∧ (wp_Mo_send (fun r344 u345 => (wl_La_law_23 L xs n264 (v265 + 5) u341.1 x267 x268 x269 u341.2.1 u341.2.2.1 x272 x273 x274 x275 x276 x277 x278 x279 x280 x281 x282 x283 x284 x285 x286 x287 x288 x289 u345.1 x291 x292 x293 u345.2 x295 x296 x297 x298 x299 x300 x301 x302 x303 x304 x305 x306 x307 x308 x309 x310 u341.2.2.2 (kc9 + 10) (ks9 + 60))) (x290, x294) (xs (v265 + 1).toNatClampNeg) ))) (fun E9 u342 => (False)) (x266, x270, x271, x311) (xs (v265 + 1).toNatClampNeg) ))) ∧ (¬ kk314 = 2 → (((kk314 = 3 → (vp_in (v265 + 1) L ∧ (vp_in (v265 + 2) L ∧ (vp_in (v265 + 3) L ∧ (vp_in (v265 + 4) L ∧ (wp_La_claim (fun r351 u352 => (vp_in (v265 + 1) L ∧ (vp_in (v265 + 2) L ∧ (vp_in (v265 + 3) L ∧ (vp_in (v265 + 4) L ∧ (wp_Mo_claim (fun r358 u359 => (wl_La_law_23 L xs n264 (v265 + 5) u352.1 u352.2.1 u352.2.2.1 u352.2.2.2.1 u352.2.2.2.2.1 u352.2.2.2.2.2.1 u352.2.2.2.2.2.2.1 u352.2.2.2.2.2.2.2.1 x274 u352.2.2.2.2.2.2.2.2.1 u352.2.2.2.2.2.2.2.2.2.1 u352.2.2.2.2.2.2.2.2.2.2.1 x278 x279 x280 x281 x282 x283 x284 x285 u352.2.2.2.2.2.2.2.2.2.2.2.1 x287 x288 x289 u359.1 u359.2.1 u359.2.2.1 u359.2.2.2.1 u359.2.2.2.2.1 u359.2.2.2.2.2.1 u359.2.2.2.2.2.2.1 x297 x298 x299 x300 x301 x302 x303 x304 x305 x306 x307 x308 u359.2.2.2.2.2.2.2 x310 u352.2.2.2.2.2.2.2.2.2.2.2.2 (kc9 + 10) (ks9 + 60))) (x290, x291, x292, x293, x294, x295, x296, x309) (xs (v265 + 1).toNatClampNeg) (xs (v265 + 2).toNatClampNeg) ((((xs (v265 + 3).toNatClampNeg).toInt64) <<< ((32 : Int32).toInt64 &&& 63)) ||| (((xs (v265 + 4).toNatClampNeg).toInt64) &&& 4294967295)) )))))) (fun E9 u353 => (False)) (x266, x267, x268, x269, x270, x271, x272, x273, x275, x276, x277, x286, x311) (xs (v265 + 1).toNatClampNeg) (xs (v265 + 2).toNatClampNeg) ((((xs (v265 + 3).toNatClampNeg).toInt64) <<< ((32 : Int32).toInt64 &&& 63)) ||| (((xs (v265 + 4).toNatClampNeg).toInt64) &&& 4294967295)) )))))) ∧ (¬ kk314 = 3 → (((kk314 = 4 → (vp_in (v265 + 1) L ∧ (wp_La_challenge (fun r362 u363 => (vp_in (v265 + 1) L ∧ (wp_Mo_challenge (fun r366 u367 => (wl_La_law_23 L xs n264 (v265 + 5) u363.1 u363.2.1 x268 x269 x270 x271 x272 x273 x274 x275 x276 x277 x278 x279 x280 x281 x282 x283 x284 x285 u363.2.2.1 u363.2.2.2.1 u363.2.2.2.2.1 u363.2.2.2.2.2.1 u367.1 x291 x292 u367.2.1 x294 x295 x296 x297 x298 x299 u367.2.2.1 u367.2.2.2.1 u367.2.2.2.2.1 u367.2.2.2.2.2.1 u367.2.2.2.2.2.2.1 u367.2.2.2.2.2.2.2.1 u367.2.2.2.2.2.2.2.2.1 u367.2.2.2.2.2.2.2.2.2.1 u367.2.2.2.2.2.2.2.2.2.2 x309 x310 u363.2.2.2.2.2.2 (kc9 + 10) (ks9 + 60))) (x290, x293, x300, x301, x302, x303, x304, x305, x306, x307, x308) (xs (v265 + 1).toNatClampNeg) ))) (fun E9 u364 => (False)) (x266, x267, x286, x287, x288, x289, x311) (xs (v265 + 1).toNatClampNeg) ))) ∧ (¬ kk314 = 4 → (((kk314 = 5 → (vp_in (v265 + 1) L ∧ (vp_in (v265 + 2) L ∧ (vp_in (v265 + 3) L ∧ (wp_La_post (fun r372 u373 => (vp_in (v265 + 1) L ∧ (vp_in (v265 + 2) L ∧ (vp_in (v265 + 3) L ∧ (wp_Mo_post (fun r378 u379 => (wl_La_law_23 L xs n264 (v265 + 5) u373.1 x267 u373.2.1 u373.2.2.1 u373.2.2.2.1 u373.2.2.2.2.1 u373.2.2.2.2.2.1 u373.2.2.2.2.2.2.1 x274 u373.2.2.2.2.2.2.2.1 u373.2.2.2.2.2.2.2.2.1 u373.2.2.2.2.2.2.2.2.2.1 x278 x279 x280 x281 x282 x283 x284 x285 u373.2.2.2.2.2.2.2.2.2.2.1 u373.2.2.2.2.2.2.2.2.2.2.2.1 u373.2.2.2.2.2.2.2.2.2.2.2.2.1 u373.2.2.2.2.2.2.2.2.2.2.2.2.2.1 u379.1 u379.2.1 u379.2.2.1 x293 u379.2.2.2.1 u379.2.2.2.2.1 u379.2.2.2.2.2.1 x297 x298 x299 x300 u379.2.2.2.2.2.2.1 u379.2.2.2.2.2.2.2.1 x303 x304 u379.2.2.2.2.2.2.2.2.1 u379.2.2.2.2.2.2.2.2.2.1 u379.2.2.2.2.2.2.2.2.2.2.1 u379.2.2.2.2.2.2.2.2.2.2.2.1 u379.2.2.2.2.2.2.2.2.2.2.2.2 x310 u373.2.2.2.2.2.2.2.2.2.2.2.2.2.2 (kc9 + 10) (ks9 + 60))) (x290, x291, x292, x294, x295, x296, x301, x302, x305, x306, x307, x308, x309) (xs (v265 + 1).toNatClampNeg) ((((xs (v265 + 2).toNatClampNeg).toInt64) <<< ((32 : Int32).toInt64 &&& 63)) ||| (((xs (v265 + 3).toNatClampNeg).toInt64) &&& 4294967295)) ))))) (fun E9 u374 => (False)) (x266, x268, x269, x270, x271, x272, x273, x275, x276, x277, x286, x287, x288, x289, x311) (xs (v265 + 1).toNatClampNeg) ((((xs (v265 + 2).toNatClampNeg).toInt64) <<< ((32 : Int32).toInt64 &&& 63)) ||| (((xs (v265 + 3).toNatClampNeg).toInt64) &&& 4294967295)) ))))) ∧ (¬ kk314 = 5 → (((kk314 = 6 → (vp_in (v265 + 1) L ∧ (vp_in (v265 + 2) L ∧ ((((xs (v265 + 2).toNatClampNeg) = 0 → (wp_La_pick (fun r384 u385 => (vp_in (v265 + 1) L ∧ (vp_in (v265 + 2) L ∧ ((((xs (v265 + 2).toNatClampNeg) = 0 → (wp_Mo_pick (fun r390 u391 => (wl_La_law_23 L xs n264 (v265 + 5) u385.1 x267 x268 x269 x270 x271 x272 x273 x274 x275 x276 x277 x278 x279 x280 x281 x282 x283 x284 x285 x286 u385.2.1 u385.2.2.1 u385.2.2.2.1 u391.1 x291 x292 x293 x294 x295 x296 x297 x298 x299 x300 u391.2.1 u391.2.2.1 u391.2.2.2.1 u391.2.2.2.2.1 u391.2.2.2.2.2.1 u391.2.2.2.2.2.2.1 u391.2.2.2.2.2.2.2.1 u391.2.2.2.2.2.2.2.2 x309 x310 u385.2.2.2.2 (kc9 + 10) (ks9 + 60))) (x290, x301, x302, x303, x304, x305, x306, x307, x308) (xs (v265 + 1).toNatClampNeg) 0 )) ∧ (¬ (xs (v265 + 2).toNatClampNeg) = 0 → (wp_Mo_pick (fun r392 u393 => (wl_La_law_23 L xs n264 (v265 + 5) u385.1 x267 x268 x269 x270 x271 x272 x273 x274 x275 x276 x277 x278 x279 x280 x281 x282 x283 x284 x285 x286 u385.2.1 u385.2.2.1 u385.2.2.2.1 u393.1 x291 x292 x293 x294 x295 x296 x297 x298 x299 x300 u393.2.1 u393.2.2.1 u393.2.2.2.1 u393.2.2.2.2.1 u393.2.2.2.2.2.1 u393.2.2.2.2.2.2.1 u393.2.2.2.2.2.2.2.1 u393.2.2.2.2.2.2.2.2 x309 x310 u385.2.2.2.2 (kc9 + 10) (ks9 + 60))) (x290, x301, x302, x303, x304, x305, x306, x307, x308) (xs (v265 + 1).toNatClampNeg) 1 ))))))) (fun E9 u386 => (False)) (x266, x287, x288, x289, x311) (xs (v265 + 1).toNatClampNeg) 0 )) ∧ (¬ (xs (v265 + 2).toNatClampNeg) = 0 → (wp_La_pick (fun r394 u395 => (vp_in (v265 + 1) L ∧ (vp_in (v265 + 2) L ∧ ((((xs (v265 + 2).toNatClampNeg) = 0 → (wp_Mo_pick (fun r400 u401 => (wl_La_law_23 L xs n264 (v265 + 5) u395.1 x267 x268 x269 x270 x271 x272 x273 x274 x275 x276 x277 x278 x279 x280 x281 x282 x283 x284 x285 x286 u395.2.1 u395.2.2.1 u395.2.2.2.1 u401.1 x291 x292 x293 x294 x295 x296 x297 x298 x299 x300 u401.2.1 u401.2.2.1 u401.2.2.2.1 u401.2.2.2.2.1 u401.2.2.2.2.2.1 u401.2.2.2.2.2.2.1 u401.2.2.2.2.2.2.2.1 u401.2.2.2.2.2.2.2.2 x309 x310 u395.2.2.2.2 (kc9 + 10) (ks9 + 60))) (x290, x301, x302, x303, x304, x305, x306, x307, x308) (xs (v265 + 1).toNatClampNeg) 0 )) ∧ (¬ (xs (v265 + 2).toNatClampNeg) = 0 → (wp_Mo_pick (fun r402 u403 => (wl_La_law_23 L xs n264 (v265 + 5) u395.1 x267 x268 x269 x270 x271 x272 x273 x274 x275 x276 x277 x278 x279 x280 x281 x282 x283 x284 x285 x286 u395.2.1 u395.2.2.1 u395.2.2.2.1 u403.1 x291 x292 x293 x294 x295 x296 x297 x298 x299 x300 u403.2.1 u403.2.2.1 u403.2.2.2.1 u403.2.2.2.2.1 u403.2.2.2.2.2.1 u403.2.2.2.2.2.2.1 u403.2.2.2.2.2.2.2.1 u403.2.2.2.2.2.2.2.2 x309 x310 u395.2.2.2.2 (kc9 + 10) (ks9 + 60))) (x290, x301, x302, x303, x304, x305, x306, x307, x308) (xs (v265 + 1).toNatClampNeg) 1 ))))))) (fun E9 u396 => (False)) (x266, x287, x288, x289, x311) (xs (v265 + 1).toNatClampNeg) 1 ))))))) ∧ (¬ kk314 = 6 → (((kk314 = 7 → (vp_in (v265 + 1) L ∧ (vp_in (v265 + 2) L ∧ (vp_in (v265 + 3) L ∧ (wp_La_prove (fun r408 u409 => (vp_in (v265 + 1) L ∧ (vp_in (v265 + 2) L ∧ (vp_in (v265 + 3) L ∧ (wp_Mo_prove (fun r414 u415 => (wp_Mo_thrown (fun r416 u417 => (((r416 = r408 → (((r408 = 0 → (((r414 = 0 → ((((lg_cmp (u409.2.2.2.2.2.2.2.2.2.2.2.2.2.2.2.2.2.2.2.2.2.2 0) 0) = 0 → (wl_La_law_23 L xs n264 (v265 + 5) u409.1 u409.2.1 u409.2.2.1 u409.2.2.2.1 u409.2.2.2.2.1 u409.2.2.2.2.2.1 u409.2.2.2.2.2.2.1 u409.2.2.2.2.2.2.2.1 x274 u409.2.2.2.2.2.2.2.2.1 u409.2.2.2.2.2.2.2.2.2.1 u409.2.2.2.2.2.2.2.2.2.2.1 u409.2.2.2.2.2.2.2.2.2.2.2.1 u409.2.2.2.2.2.2.2.2.2.2.2.2.1 u409.2.2.2.2.2.2.2.2.2.2.2.2.2.1 x281 u409.2.2.2.2.2.2.2.2.2.2.2.2.2.2.1 u409.2.2.2.2.2.2.2.2.2.2.2.2.2.2.2.1 u409.2.2.2.2.2.2.2.2.2.2.2.2.2.2.2.2.1 u409.2.2.2.2.2.2.2.2.2.2.2.2.2.2.2.2.2.1 u409.2.2.2.2.2.2.2.2.2.2.2.2.2.2.2.2.2.2.1 u409.2.2.2.2.2.2.2.2.2.2.2.2.2.2.2.2.2.2.2.1 u409.2.2.2.2.2.2.2.2.2.2.2.2.2.2.2.2.2.2.2.2.1 u409.2.2.2.2.2.2.2.2.2.2.2.2.2.2.2.2.2.2.2.2.2.1 u417 u415.2.1 u415.2.2.1 u415.2.2.2.1 u415.2.2.2.2.1 u415.2.2.2.2.2.1 u415.2.2.2.2.2.2.1 u415.2.2.2.2.2.2.2.1 u415.2.2.2.2.2.2.2.2.1 x299 x300 u415.2.2.2.2.2.2.2.2.2.1 u415.2.2.2.2.2.2.2.2.2.2.1 u415.2.2.2.2.2.2.2.2.2.2.2.1 u415.2.2.2.2.2.2.2.2.2.2.2.2.1 u415.2.2.2.2.2.2.2.2.2.2.2.2.2.1 x306 u415.2.2.2.2.2.2.2.2.2.2.2.2.2.2.1 u415.2.2.2.2.2.2.2.2.2.2.2.2.2.2.2.1 u415.2.2.2.2.2.2.2.2.2.2.2.2.2.2.2.2.1 u415.2.2.2.2.2.2.2.2.2.2.2.2.2.2.2.2.2 u409.2.2.2.2.2.2.2.2.2.2.2.2.2.2.2.2.2.2.2.2.2.2 (kc9 + 10) (ks9 + 60))) ∧ (¬ (lg_cmp (u409.2.2.2.2.2.2.2.2.2.2.2.2.2.2.2.2.2.2.2.2.2.2 0) 0) = 0 → (False))))) ∧ (¬ r414 = 0 → ((((lg_cmp (u409.2.2.2.2.2.2.2.2.2.2.2.2.2.2.2.2.2.2.2.2.2.2 0) 1) = 0 → (wl_La_law_23 L xs n264 (v265 + 5) u409.1 u409.2.1 u409.2.2.1 u409.2.2.2.1 u409.2.2.2.2.1 u409.2.2.2.2.2.1 u409.2.2.2.2.2.2.1 u409.2.2.2.2.2.2.2.1 x274 u409.2.2.2.2.2.2.2.2.1 u409.2.2.2.2.2.2.2.2.2.1 u409.2.2.2.2.2.2.2.2.2.2.1 u409.2.2.2.2.2.2.2.2.2.2.2.1 u409.2.2.2.2.2.2.2.2.2.2.2.2.1 u409.2.2.2.2.2.2.2.2.2.2.2.2.2.1 x281 u409.2.2.2.2.2.2.2.2.2.2.2.2.2.2.1 u409.2.2.2.2.2.2.2.2.2.2.2.2.2.2.2.1 u409.2.2.2.2.2.2.2.2.2.2.2.2.2.2.2.2.1 u409.2.2.2.2.2.2.2.2.2.2.2.2.2.2.2.2.2.1 u409.2.2.2.2.2.2.2.2.2.2.2.2.2.2.2.2.2.2.1 u409.2.2.2.2.2.2.2.2.2.2.2.2.2.2.2.2.2.2.2.1 u409.2.2.2.2.2.2.2.2.2.2.2.2.2.2.2.2.2.2.2.2.1 u409.2.2.2.2.2.2.2.2.2.2.2.2.2.2.2.2.2.2.2.2.2.1 u417 u415.2.1 u415.2.2.1 u415.2.2.2.1 u415.2.2.2.2.1 u415.2.2.2.2.2.1 u415.2.2.2.2.2.2.1 u415.2.2.2.2.2.2.2.1 u415.2.2.2.2.2.2.2.2.1 x299 x300 u415.2.2.2.2.2.2.2.2.2.1 u415.2.2.2.2.2.2.2.2.2.2.1 u415.2.2.2.2.2.2.2.2.2.2.2.1 u415.2.2.2.2.2.2.2.2.2.2.2.2.1 u415.2.2.2.2.2.2.2.2.2.2.2.2.2.1 x306 u415.2.2.2.2.2.2.2.2.2.2.2.2.2.2.1 u415.2.2.2.2.2.2.2.2.2.2.2.2.2.2.2.1 u415.2.2.2.2.2.2.2.2.2.2.2.2.2.2.2.2.1 u415.2.2.2.2.2.2.2.2.2.2.2.2.2.2.2.2.2 u409.2.2.2.2.2.2.2.2.2.2.2.2.2.2.2.2.2.2.2.2.2.2 (kc9 + 10) (ks9 + 60))) ∧ (¬ (lg_cmp (u409.2.2.2.2.2.2.2.2.2.2.2.2.2.2.2.2.2.2.2.2.2.2 0) 1) = 0 → (False)))))))) ∧ (¬ r408 = 0 → (wl_La_law_23 L xs n264 (v265 + 5) u409.1 u409.2.1 u409.2.2.1 u409.2.2.2.1 u409.2.2.2.2.1 u409.2.2.2.2.2.1 u409.2.2.2.2.2.2.1 u409.2.2.2.2.2.2.2.1 x274 u409.2.2.2.2.2.2.2.2.1 u409.2.2.2.2.2.2.2.2.2.1 u409.2.2.2.2.2.2.2.2.2.2.1 u409.2.2.2.2.2.2.2.2.2.2.2.1 u409.2.2.2.2.2.2.2.2.2.2.2.2.1 u409.2.2.2.2.2.2.2.2.2.2.2.2.2.1 x281 u409.2.2.2.2.2.2.2.2.2.2.2.2.2.2.1 u409.2.2.2.2.2.2.2.2.2.2.2.2.2.2.2.1 u409.2.2.2.2.2.2.2.2.2.2.2.2.2.2.2.2.1 u409.2.2.2.2.2.2.2.2.2.2.2.2.2.2.2.2.2.1 u409.2.2.2.2.2.2.2.2.2.2.2.2.2.2.2.2.2.2.1 u409.2.2.2.2.2.2.2.2.2.2.2.2.2.2.2.2.2.2.2.1 u409.2.2.2.2.2.2.2.2.2.2.2.2.2.2.2.2.2.2.2.2.1 u409.2.2.2.2.2.2.2.2.2.2.2.2.2.2.2.2.2.2.2.2.2.1 u417 u415.2.1 u415.2.2.1 u415.2.2.2.1 u415.2.2.2.2.1 u415.2.2.2.2.2.1 u415.2.2.2.2.2.2.1 u415.2.2.2.2.2.2.2.1 u415.2.2.2.2.2.2.2.2.1 x299 x300 u415.2.2.2.2.2.2.2.2.2.1 u415.2.2.2.2.2.2.2.2.2.2.1 u415.2.2.2.2.2.2.2.2.2.2.2.1 u415.2.2.2.2.2.2.2.2.2.2.2.2.1 u415.2.2.2.2.2.2.2.2.2.2.2.2.2.1 x306 u415.2.2.2.2.2.2.2.2.2.2.2.2.2.2.1 u415.2.2.2.2.2.2.2.2.2.2.2.2.2.2.2.1 u415.2.2.2.2.2.2.2.2.2.2.2.2.2.2.2.2.1 u415.2.2.2.2.2.2.2.2.2.2.2.2.2.2.2.2.2 u409.2.2.2.2.2.2.2.2.2.2.2.2.2.2.2.2.2.2.2.2.2.2 (kc9 + 10) (ks9 + 60)))))) ∧ (¬ r416 = r408 → (False))))) u415.1 )) (x290, x291, x292, x293, x294, x295, x296, x297, x298, x301, x302, x303, x304, x305, x307, x308, x309, x310) (xs (v265 + 1).toNatClampNeg) (xs (v265 + 2).toNatClampNeg) (xs (v265 + 3).toNatClampNeg) ))))) (fun E9 u410 => (False)) (x266, x267, x268, x269, x270, x271, x272, x273, x275, x276, x277, x278, x279, x280, x282, x283, x284, x285, x286, x287, x288, x289, x311) (xs (v265 + 1).toNatClampNeg) (xs (v265 + 2).toNatClampNeg) (xs (v265 + 3).toNatClampNeg) ))))) ∧ (¬ kk314 = 7 → (((kk314 = 8 → (wp_Sc_block (fun r424 u425 => (wp_Mo_block (fun r426 u427 => (wl_La_law_23 L xs n264 (v265 + 5) u425.1 u425.2.1 u425.2.2.1 u425.2.2.2.1 u425.2.2.2.2.1 u425.2.2.2.2.2.1 u425.2.2.2.2.2.2.1 u425.2.2.2.2.2.2.2.1 x274 x275 x276 x277 u425.2.2.2.2.2.2.2.2.1 u425.2.2.2.2.2.2.2.2.2.1 u425.2.2.2.2.2.2.2.2.2.2.1 x281 x282 x283 x284 x285 u425.2.2.2.2.2.2.2.2.2.2.2.1 u425.2.2.2.2.2.2.2.2.2.2.2.2.1 u425.2.2.2.2.2.2.2.2.2.2.2.2.2.1 u425.2.2.2.2.2.2.2.2.2.2.2.2.2.2 u427.1 u427.2.1 u427.2.2.1 u427.2.2.2.1 u427.2.2.2.2.1 u427.2.2.2.2.2.1 u427.2.2.2.2.2.2.1 u427.2.2.2.2.2.2.2.1 u427.2.2.2.2.2.2.2.2.1 x299 u427.2.2.2.2.2.2.2.2.2.1 u427.2.2.2.2.2.2.2.2.2.2.1 u427.2.2.2.2.2.2.2.2.2.2.2.1 x303 x304 u427.2.2.2.2.2.2.2.2.2.2.2.2.1 x306 u427.2.2.2.2.2.2.2.2.2.2.2.2.2.1 u427.2.2.2.2.2.2.2.2.2.2.2.2.2.2 x309 x310 x311 (kc9 + 10) (ks9 + 60))) (x290, x291, x292, x293, x294, x295, x296, x297, x298, x300, x301, x302, x305, x307, x308) )) (x266, x267, x268, x269, x270, x271, x272, x273, x278, x279, x280, x286, x287, x288, x289) )) ∧ (¬ kk314 = 8 → (((kk314 = 9 → (vp_in (v265 + 1) L ∧ (wp_La_draw (fun r430 u431 => (vp_in (v265 + 1) L ∧ (wp_Mo_draw (fun r434 u435 => (wl_La_law_23 L xs n264 (v265 + 5) u431.1 u431.2.1 x268 x269 x270 x271 u431.2.2.1 u431.2.2.2.1 u431.2.2.2.2.1 x275 x276 x277 u431.2.2.2.2.2.1 u431.2.2.2.2.2.2.1 u431.2.2.2.2.2.2.2.1 u431.2.2.2.2.2.2.2.2.1 x282 x283 x284 x285 x286 x287 x288 x289 u435.1 x291 x292 u435.2.1 x294 u435.2.2.1 u435.2.2.2.1 u435.2.2.2.2.1 u435.2.2.2.2.2.1 u435.2.2.2.2.2.2.1 x300 x301 x302 x303 x304 x305 x306 x307 x308 u435.2.2.2.2.2.2.2 x310 u431.2.2.2.2.2.2.2.2.2 (kc9 + 10) (ks9 + 60))) (x290, x293, x295, x296, x297, x298, x299, x309) (xs (v265 + 1).toNatClampNeg) ))) (fun E9 u432 => (False)) (x266, x267, x272, x273, x274, x278, x279, x280, x281, x311) (xs (v265 + 1).toNatClampNeg) ))) ∧ (¬ kk314 = 9 → (((kk314 = 10 → (vp_in (v265 + 1) L ∧ (wp_Sc_balance (fun r438 u439 => (vp_in (v265 + 1) L ∧ (wp_Mo_balance (fun r441 u442 => (wl_La_law_23 L xs n264 (v265 + 5) u439.1 u439.2 x268 x269 x270 x271 x272 x273 x274 x275 x276 x277 x278 x279 x280 x281 x282 x283 x284 x285 x286 x287 x288 x289 u442.1 x291 x292 u442.2 x294 x295 x296 x297 x298 x299 x300 x301 x302 x303 x304 x305 x306 x307 x308 x309 x310 x311 (kc9 + 10) (ks9 + 60))) (x290, x293) (xs (v265 + 1).toNatClampNeg) ))) (x266, x267) (xs (v265 + 1).toNatClampNeg) ))) ∧ (¬ kk314 = 10 → (((kk314 = 11 → (wp_Sc_pot (fun r444 u445 => (wp_Mo_pot (fun r446 u447 => (wl_La_law_23 L xs n264 (v265 + 5) u445 x267 x268 x269 x270 x271 x272 x273 x274 x275 x276 x277 x278 x279 x280 x281 x282 x283 x284 x285 x286 x287 x288 x289 u447 x291 x292 x293 x294 x295 x296 x297 x298 x299 x300 x301 x302 x303 x304 x305 x306 x307 x308 x309 x310 x311 (kc9 + 10) (ks9 + 60))) x290 )) x266 )) ∧ (¬ kk314 = 11 → (((kk314 = 12 → (vp_in (v265 + 1) L ∧ (wp_Sc_word (fun r450 u451 => (vp_in (v265 + 1) L ∧ (wp_Mo_word (fun r453 u454 => (wl_La_law_23 L xs n264 (v265 + 5) u451.1 x267 x268 x269 u451.2.1 u451.2.2 x272 x273 x274 x275 x276 x277 x278 x279 x280 x281 x282 x283 x284 x285 x286 x287 x288 x289 u454.1 x291 x292 x293 u454.2 x295 x296 x297 x298 x299 x300 x301 x302 x303 x304 x305 x306 x307 x308 x309 x310 x311 (kc9 + 10) (ks9 + 60))) (x290, x294) (xs (v265 + 1).toNatClampNeg) ))) (x266, x270, x271) (xs (v265 + 1).toNatClampNeg) ))) ∧ (¬ kk314 = 12 → (((kk314 = 13 → (vp_in (v265 + 1) L ∧ (wp_Sc_truth (fun r457 u458 => (vp_in (v265 + 1) L ∧ (wp_Mo_truth (fun r460 u461 => (wl_La_law_23 L xs n264 (v265 + 5) u458.1 x267 u458.2.1 u458.2.2.1 u458.2.2.2.1 u458.2.2.2.2.1 u458.2.2.2.2.2.1 u458.2.2.2.2.2.2.1 x274 u458.2.2.2.2.2.2.2.1 u458.2.2.2.2.2.2.2.2.1 u458.2.2.2.2.2.2.2.2.2.1 x278 x279 x280 x281 x282 x283 x284 x285 u458.2.2.2.2.2.2.2.2.2.2 x287 x288 x289 u461.1 u461.2.1 u461.2.2.1 x293 u461.2.2.2.1 u461.2.2.2.2.1 u461.2.2.2.2.2.1 x297 x298 x299 x300 x301 x302 x303 x304 x305 x306 x307 x308 u461.2.2.2.2.2.2 x310 x311 (kc9 + 10) (ks9 + 60))) (x290, x291, x292, x294, x295, x296, x309) (xs (v265 + 1).toNatClampNeg) ))) (x266, x268, x269, x270, x271, x272, x273, x275, x276, x277, x286) (xs (v265 + 1).toNatClampNeg) ))) ∧ (¬ kk314 = 13 → (((kk314 = 14 → (wp_Sc_base (fun r463 u464 => (wp_Mo_base (fun r465 u466 => (wl_La_law_23 L xs n264 (v265 + 5) u464 x267 x268 x269 x270 x271 x272 x273 x274 x275 x276 x277 x278 x279 x280 x281 x282 x283 x284 x285 x286 x287 x288 x289 u466 x291 x292 x293 x294 x295 x296 x297 x298 x299 x300 x301 x302 x303 x304 x305 x306 x307 x308 x309 x310 x311 (kc9 + 10) (ks9 + 60))) x290 )) x266 )) ∧ (¬ kk314 = 14 → (((kk314 = 15 → (vp_in (v265 + 1) L ∧ (wp_Sc_state (fun r469 u470 => (vp_in (v265 + 1) L ∧ (wp_Mo_state (fun r472 u473 => (wl_La_law_23 L xs n264 (v265 + 5) u470.1 x267 x268 x269 x270 x271 u470.2.1 u470.2.2 x274 x275 x276 x277 x278 x279 x280 x281 x282 x283 x284 x285 x286 x287 x288 x289 u473.1 x291 x292 x293 x294 u473.2 x296 x297 x298 x299 x300 x301 x302 x303 x304 x305 x306 x307 x308 x309 x310 x311 (kc9 + 10) (ks9 + 60))) (x290, x295) (xs (v265 + 1).toNatClampNeg) ))) (x266, x272, x273) (xs (v265 + 1).toNatClampNeg) ))) ∧ (¬ kk314 = 15 → (((kk314 = 16 → (vp_in (v265 + 1) L ∧ (wp_Sc_assertion (fun r476 u477 => (vp_in (v265 + 1) L ∧ (wp_Mo_assertion (fun r479 u480 => (wl_La_law_23 L xs n264 (v265 + 5) u477.1 x267 x268 x269 x270 x271 x272 x273 x274 x275 x276 x277 x278 x279 x280 x281 x282 x283 x284 x285 u477.2.1 u477.2.2.1 u477.2.2.2.1 u477.2.2.2.2 u480.1 x291 x292 x293 x294 x295 x296 x297 x298 x299 x300 x301 x302 x303 x304 x305 x306 x307 u480.2 x309 x310 x311 (kc9 + 10) (ks9 + 60))) (x290, x308) (xs (v265 + 1).toNatClampNeg) ))) (x266, x286, x287, x288, x289) (xs (v265 + 1).toNatClampNeg) ))) ∧ (¬ kk314 = 16 → (((kk314 = 17 → (vp_in (v265 + 1) L ∧ (vp_in (v265 + 2) L ∧ (wp_Sc_game (fun r484 u485 => (vp_in (v265 + 1) L ∧ (vp_in (v265 + 2) L ∧ (wp_Mo_game (fun r488 u489 => (wl_La_law_23 L xs n264 (v265 + 5) u485.1 x267 x268 x269 x270 x271 x272 x273 x274 x275 x276 x277 x278 x279 x280 x281 x282 x283 x284 x285 x286 u485.2.1 u485.2.2.1 u485.2.2.2 u489.1 x291 x292 x293 x294 x295 x296 x297 x298 x299 u489.2.1 u489.2.2.1 u489.2.2.2.1 u489.2.2.2.2.1 u489.2.2.2.2.2.1 u489.2.2.2.2.2.2.1 u489.2.2.2.2.2.2.2.1 u489.2.2.2.2.2.2.2.2.1 u489.2.2.2.2.2.2.2.2.2 x309 x310 x311 (kc9 + 10) (ks9 + 60))) (x290, x300, x301, x302, x303, x304, x305, x306, x307, x308) (xs (v265 + 1).toNatClampNeg) (xs (v265 + 2).toNatClampNeg) )))) (x266, x287, x288, x289) (xs (v265 + 1).toNatClampNeg) (xs (v265 + 2).toNatClampNeg) )))) ∧ (¬ kk314 = 17 → (True))))))))))))))))))))))))))))))))))))))))))))))))))))))))))))))))))
def wp_La_law (L : Nat) (xs : Nat → Int32) : Prop := wp_Sc_init (fun u2 => (wp_Mo_init (fun u45 => (∃ n264 : Nat, wl_La_law_23 L xs n264 0 u2.1 u2.2.1 u2.2.2.1 u2.2.2.2.1 u2.2.2.2.2.1 u2.2.2.2.2.2.1 u2.2.2.2.2.2.2.1 u2.2.2.2.2.2.2.2.1 u2.2.2.2.2.2.2.2.2.1 u2.2.2.2.2.2.2.2.2.2.1 u2.2.2.2.2.2.2.2.2.2.2.1 u2.2.2.2.2.2.2.2.2.2.2.2.1 u2.2.2.2.2.2.2.2.2.2.2.2.2.1 u2.2.2.2.2.2.2.2.2.2.2.2.2.2.1 u2.2.2.2.2.2.2.2.2.2.2.2.2.2.2.1 u2.2.2.2.2.2.2.2.2.2.2.2.2.2.2.2.1 u2.2.2.2.2.2.2.2.2.2.2.2.2.2.2.2.2.1 u2.2.2.2.2.2.2.2.2.2.2.2.2.2.2.2.2.2.1 u2.2.2.2.2.2.2.2.2.2.2.2.2.2.2.2.2.2.2.1 u2.2.2.2.2.2.2.2.2.2.2.2.2.2.2.2.2.2.2.2.2.1 u2.2.2.2.2.2.2.2.2.2.2.2.2.2.2.2.2.2.2.2.2.2.1 u2.2.2.2.2.2.2.2.2.2.2.2.2.2.2.2.2.2.2.2.2.2.2.1 u2.2.2.2.2.2.2.2.2.2.2.2.2.2.2.2.2.2.2.2.2.2.2.2.1 u2.2.2.2.2.2.2.2.2.2.2.2.2.2.2.2.2.2.2.2.2.2.2.2.2 u45.1 u45.2.1 u45.2.2.1 u45.2.2.2.1 u45.2.2.2.2.1 u45.2.2.2.2.2.1 u45.2.2.2.2.2.2.1 u45.2.2.2.2.2.2.2.1 u45.2.2.2.2.2.2.2.2.1 u45.2.2.2.2.2.2.2.2.2.1 u45.2.2.2.2.2.2.2.2.2.2.1 u45.2.2.2.2.2.2.2.2.2.2.2.1 u45.2.2.2.2.2.2.2.2.2.2.2.2.1 u45.2.2.2.2.2.2.2.2.2.2.2.2.2.1 u45.2.2.2.2.2.2.2.2.2.2.2.2.2.2.1 u45.2.2.2.2.2.2.2.2.2.2.2.2.2.2.2.1 u45.2.2.2.2.2.2.2.2.2.2.2.2.2.2.2.2.1 u45.2.2.2.2.2.2.2.2.2.2.2.2.2.2.2.2.2.1 u45.2.2.2.2.2.2.2.2.2.2.2.2.2.2.2.2.2.2.1 u45.2.2.2.2.2.2.2.2.2.2.2.2.2.2.2.2.2.2.2.1 u45.2.2.2.2.2.2.2.2.2.2.2.2.2.2.2.2.2.2.2.2 (fun _ => 0) 49 641)) )) 
