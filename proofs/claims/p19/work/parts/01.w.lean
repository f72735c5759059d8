theorem wv_0 : Cond.selects "StepCourt" ⟨"StepCourt", "endLateGames", "()V"⟩ ⟨"StepCourt", "endLateGames", "()V"⟩ ∈ wz := wz_s 0 rfl rfl
theorem wv_1 : Cond.selects "StepCourt" ⟨"StepCourt", "challengerWins", "(LStepCourt$Game;)V"⟩ ⟨"StepCourt", "challengerWins", "(LStepCourt$Game;)V"⟩ ∈ wz := wz_s 1 rfl rfl
theorem wv_2 : Cond.selects "StepCourt" ⟨"StepCourt", "pay", "(II)V"⟩ ⟨"StepCourt", "pay", "(II)V"⟩ ∈ wz := wz_s 2 rfl rfl
theorem wv_3 : Cond.selects "StepCourt" ⟨"StepCourt", "closeAssertion", "()V"⟩ ⟨"StepCourt", "closeAssertion", "()V"⟩ ∈ wz := wz_s 3 rfl rfl
theorem wv_4 : Cond.selects "StepCourt" ⟨"StepCourt", "asserterWins", "(LStepCourt$Game;)V"⟩ ⟨"StepCourt", "asserterWins", "(LStepCourt$Game;)V"⟩ ∈ wz := wz_s 4 rfl rfl
theorem wv_5 : Cond.selects "StepCourt" ⟨"StepCourt", "standIfDue", "()V"⟩ ⟨"StepCourt", "standIfDue", "()V"⟩ ∈ wz := wz_s 5 rfl rfl
theorem wv_6 : Cond.selects "StepCourt" ⟨"StepCourt", "countRunning", "()I"⟩ ⟨"StepCourt", "countRunning", "()I"⟩ ∈ wz := wz_s 6 rfl rfl
theorem wv_7 : Cond.selects "StepCourt" ⟨"StepCourt", "moveTrueState", "()V"⟩ ⟨"StepCourt", "moveTrueState", "()V"⟩ ∈ wz := wz_s 7 rfl rfl
theorem wv_8 : Cond.selects "StepCourt$Machine" ⟨"StepCourt$Machine", "exchange", "()V"⟩ ⟨"StepCourt$Machine", "exchange", "()V"⟩ ∈ wz := wz_s 8 rfl rfl
theorem wv_9 : Cond.selects "StepCourt$Machine" ⟨"StepCourt$Machine", "takeWord", "(LStepCourt$Inbox;I)Z"⟩ ⟨"StepCourt$Machine", "takeWord", "(LStepCourt$Inbox;I)Z"⟩ ∈ wz := wz_s 9 rfl rfl
theorem wv_10 : Cond.selects "StepCourt$Machine" ⟨"StepCourt$Machine", "makePayment", "()Z"⟩ ⟨"StepCourt$Machine", "makePayment", "()Z"⟩ ∈ wz := wz_s 10 rfl rfl
theorem wv_11 : Cond.selects "StepCourt" ⟨"StepCourt", "trueCommitment", "(I)J"⟩ ⟨"StepCourt", "trueCommitment", "(I)J"⟩ ∈ wz := wz_s 11 rfl rfl
theorem wv_12 : Cond.selects "StepCourt" ⟨"StepCourt", "runScratch", "(II)V"⟩ ⟨"StepCourt", "runScratch", "(II)V"⟩ ∈ wz := wz_s 12 rfl rfl
theorem wv_13 : Cond.selects "StepCourt" ⟨"StepCourt", "isGame", "(I)Z"⟩ ⟨"StepCourt", "isGame", "(I)Z"⟩ ∈ wz := wz_s 13 rfl rfl
theorem wv_15 : Cond.selects "StepCourt" ⟨"StepCourt", "takeStake", "(I)V"⟩ ⟨"StepCourt", "takeStake", "(I)V"⟩ ∈ wz := wz_s 15 rfl rfl
theorem wv_16 : Cond.selects "StepCourt" ⟨"StepCourt", "hasChallenged", "(I)Z"⟩ ⟨"StepCourt", "hasChallenged", "(I)Z"⟩ ∈ wz := wz_s 16 rfl rfl
theorem wv_17 : Cond.selects "StepCourt$Game" ⟨"StepCourt$Game", "clearMiddle", "()V"⟩ ⟨"StepCourt$Game", "clearMiddle", "()V"⟩ ∈ wz := wz_s 17 rfl rfl
theorem wv_18 : Cond.selects "StepCourt" ⟨"StepCourt", "gameWithDuty", "(II)LStepCourt$Game;"⟩ ⟨"StepCourt", "gameWithDuty", "(II)LStepCourt$Game;"⟩ ∈ wz := wz_s 18 rfl rfl
theorem wv_19 : Cond.selects "StepCourt$Proof" ⟨"StepCourt$Proof", "alterOther", "(II)V"⟩ ⟨"StepCourt$Proof", "alterOther", "(II)V"⟩ ∈ wz := wz_s 19 rfl rfl
theorem wv_20 : Cond.selects "StepCourt" ⟨"StepCourt", "proofLeads", "(JJ)Z"⟩ ⟨"StepCourt", "proofLeads", "(JJ)Z"⟩ ∈ wz := wz_s 20 rfl rfl
theorem wv_21 : Cond.selects "StepCourtModel" ⟨"StepCourtModel", "take", "()V"⟩ ⟨"StepCourtModel", "take", "()V"⟩ ∈ wz := wz_s 21 rfl rfl
theorem wv_22 : Cond.selects "StepCourtModel" ⟨"StepCourtModel", "commitment", "()J"⟩ ⟨"StepCourtModel", "commitment", "()J"⟩ ∈ wz := wz_s 22 rfl rfl
theorem wv_23 : Cond.selects "StepCourtModel" ⟨"StepCourtModel", "tree", "()V"⟩ ⟨"StepCourtModel", "tree", "()V"⟩ ∈ wz := wz_s 23 rfl rfl
theorem wv_24 : Cond.selects "StepCourtModel" ⟨"StepCourtModel", "raise", "(I)I"⟩ ⟨"StepCourtModel", "raise", "(I)I"⟩ ∈ wz := wz_s 24 rfl rfl
theorem wv_25 : Cond.selects "StepCourtModel" ⟨"StepCourtModel", "push", "(I)V"⟩ ⟨"StepCourtModel", "push", "(I)V"⟩ ∈ wz := wz_s 25 rfl rfl
theorem wv_26 : Cond.selects "StepCourtModel" ⟨"StepCourtModel", "trueCommitment", "(I)J"⟩ ⟨"StepCourtModel", "trueCommitment", "(I)J"⟩ ∈ wz := wz_s 26 rfl rfl
theorem wv_27 : Cond.selects "StepCourtModel" ⟨"StepCourtModel", "after", "(II)V"⟩ ⟨"StepCourtModel", "after", "(II)V"⟩ ∈ wz := wz_s 27 rfl rfl
theorem wv_28 : Cond.selects "StepCourtModel" ⟨"StepCourtModel", "step", "(I)V"⟩ ⟨"StepCourtModel", "step", "(I)V"⟩ ∈ wz := wz_s 28 rfl rfl
theorem wv_29 : Cond.selects "StepCourtModel" ⟨"StepCourtModel", "wordAt", "(I)I"⟩ ⟨"StepCourtModel", "wordAt", "(I)I"⟩ ∈ wz := wz_s 29 rfl rfl
theorem wv_30 : Cond.selects "StepCourtModel" ⟨"StepCourtModel", "isGame", "(I)Z"⟩ ⟨"StepCourtModel", "isGame", "(I)Z"⟩ ∈ wz := wz_s 30 rfl rfl
theorem wv_31 : Cond.selects "StepCourtModel" ⟨"StepCourtModel", "due", "(I)I"⟩ ⟨"StepCourtModel", "due", "(I)I"⟩ ∈ wz := wz_s 31 rfl rfl
theorem wv_32 : Cond.selects "StepCourtModel" ⟨"StepCourtModel", "proves", "(III)Z"⟩ ⟨"StepCourtModel", "proves", "(III)Z"⟩ ∈ wz := wz_s 32 rfl rfl
theorem wv_33 : Cond.selects "StepCourtModel" ⟨"StepCourtModel", "rootOf", "(JI)J"⟩ ⟨"StepCourtModel", "rootOf", "(JI)J"⟩ ∈ wz := wz_s 33 rfl rfl
theorem wv_34 : Cond.selects "StepCourtModel" ⟨"StepCourtModel", "keep", "(I)V"⟩ ⟨"StepCourtModel", "keep", "(I)V"⟩ ∈ wz := wz_s 34 rfl rfl
theorem wv_35 : Cond.selects "StepCourtModel" ⟨"StepCourtModel", "settle", "()V"⟩ ⟨"StepCourtModel", "settle", "()V"⟩ ∈ wz := wz_s 35 rfl rfl
theorem wv_36 : Cond.selects "StepCourtModel" ⟨"StepCourtModel", "runningGames", "()I"⟩ ⟨"StepCourtModel", "runningGames", "()I"⟩ ∈ wz := wz_s 36 rfl rfl
theorem wv_37 : Cond.selects "StepCourtModel" ⟨"StepCourtModel", "noAssertion", "()V"⟩ ⟨"StepCourtModel", "noAssertion", "()V"⟩ ∈ wz := wz_s 37 rfl rfl
theorem wv_38 : Cond.selects "StepCourtModel" ⟨"StepCourtModel", "fall", "(I)V"⟩ ⟨"StepCourtModel", "fall", "(I)V"⟩ ∈ wz := wz_s 38 rfl rfl
theorem wv_39 : Cond.selects "StepCourtModel" ⟨"StepCourtModel", "realCommitment", "()J"⟩ ⟨"StepCourtModel", "realCommitment", "()J"⟩ ∈ wz := wz_s 39 rfl rfl
theorem wt_1 : Cond.initialized "StepCourt" ∈ wz := wz_c tq_0_in 1 rfl rfl
theorem wt_2 : Cond.initialized "StepCourt$Code" ∈ wz := wz_c tq_0_in 2 rfl rfl
theorem wt_3 : Cond.initialized "StepCourt$Inbox" ∈ wz := wz_c tq_0_in 3 rfl rfl
theorem wt_4 : Cond.initialized "StepCourt$Machine" ∈ wz := wz_c tq_0_in 4 rfl rfl
theorem wt_5 : Cond.initialized "StepCourt$Payments" ∈ wz := wz_c tq_0_in 5 rfl rfl
theorem wt_6 : Cond.initialized "StepCourt$Proof" ∈ wz := wz_c tq_0_in 6 rfl rfl
theorem wt_7 : Cond.initialized "StepCourt$Assertion" ∈ wz := wz_c tq_0_in 7 rfl rfl
theorem wt_8 : Cond.initialized "StepCourt$Game" ∈ wz := wz_c tq_0_in 8 rfl rfl
theorem wt_9 : Cond.initialized "StepCourt$Mixer" ∈ wz := wz_c tq_0_in 9 rfl rfl
theorem wt_10 : Cond.initialized "StepCourtModel" ∈ wz := wz_c tq_0_in 10 rfl rfl
theorem wt_14 : Cond.initialized "java/lang/IndexOutOfBoundsException" ∈ wz := wz_c tq_0_in 14 rfl rfl
theorem wt_15 : Cond.initialized "java/lang/IllegalArgumentException" ∈ wz := wz_c tq_0_in 15 rfl rfl
theorem wt_16 : Cond.initialized "java/lang/UnsupportedOperationException" ∈ wz := wz_c tq_0_in 16 rfl rfl
theorem wt_17 : Cond.initialized "java/lang/IllegalStateException" ∈ wz := wz_c tq_0_in 17 rfl rfl
theorem wt_18 : Cond.initialized "java/lang/System" ∈ wz := wz_c tq_0_in 18 rfl rfl
theorem wt_24 : Cond.methodLink "StepCourt" 1 ⟨"java/lang/Object", "<init>", "()V"⟩ ∈ wz := wz_c tq_1_in 0 rfl rfl
theorem wt_25 : Cond.instanceMethod ⟨"java/lang/Object", "<init>", "()V"⟩ ∈ wz := wz_c tq_1_in 1 rfl rfl
theorem wt_26 : Cond.code ⟨"java/lang/Object", "<init>", "()V"⟩ object_method_1_code 1 none ∈ wz := wz_c tq_1_in 2 rfl rfl
theorem wt_27 : Cond.classLink "StepCourt" 13 "StepCourt$Code" ∈ wz := wz_c tq_1_in 3 rfl rfl
theorem wt_28 : Cond.instantiable "StepCourt$Code" 2 ∈ wz := wz_c tq_1_in 4 rfl rfl
theorem wt_30 : Cond.instanceMethod ⟨"StepCourt$Code", "<init>", "()V"⟩ ∈ wz := wz_c tq_1_in 6 rfl rfl
theorem wt_31 : Cond.code ⟨"StepCourt$Code", "<init>", "()V"⟩ prog_3_method_1_code 1 none ∈ wz := wz_c tq_1_in 7 rfl rfl
theorem wt_32 : Cond.methodLink "StepCourt$Code" 3 ⟨"java/lang/Object", "<init>", "()V"⟩ ∈ wz := wz_c tq_1_in 8 rfl rfl
theorem wt_33 : Cond.fieldLink "StepCourt$Code" 9 "StepCourt$Code" "ops" "[I" ∈ wz := wz_c tq_1_in 9 rfl rfl
theorem wt_36 : Cond.fieldLink "StepCourt$Code" 15 "StepCourt$Code" "arguments" "[I" ∈ wz := wz_c tq_1_in 12 rfl rfl
theorem wt_44 : Cond.arrayClass .int ∈ wz := wz_c tq_1_in 20 rfl rfl
theorem wt_45 : Cond.classLink "StepCourt" 20 "StepCourt$Inbox" ∈ wz := wz_c tq_1_in 21 rfl rfl
theorem wt_46 : Cond.instantiable "StepCourt$Inbox" 2 ∈ wz := wz_c tq_1_in 22 rfl rfl
theorem wt_48 : Cond.instanceMethod ⟨"StepCourt$Inbox", "<init>", "()V"⟩ ∈ wz := wz_c tq_2_in 0 rfl rfl
theorem wt_49 : Cond.code ⟨"StepCourt$Inbox", "<init>", "()V"⟩ prog_5_method_1_code 1 none ∈ wz := wz_c tq_2_in 1 rfl rfl
theorem wt_50 : Cond.methodLink "StepCourt$Inbox" 3 ⟨"java/lang/Object", "<init>", "()V"⟩ ∈ wz := wz_c tq_2_in 2 rfl rfl
theorem wt_51 : Cond.fieldLink "StepCourt$Inbox" 9 "StepCourt$Inbox" "words" "[I" ∈ wz := wz_c tq_2_in 3 rfl rfl
theorem wt_52 : Cond.fieldLink "StepCourt$Inbox" 15 "StepCourt$Inbox" "size" "I" ∈ wz := wz_c tq_2_in 4 rfl rfl
theorem wt_59 : Cond.classLink "StepCourt" 27 "StepCourt$Machine" ∈ wz := wz_c tq_2_in 11 rfl rfl
theorem wt_60 : Cond.instantiable "StepCourt$Machine" 8 ∈ wz := wz_c tq_2_in 12 rfl rfl
theorem wt_62 : Cond.instanceMethod ⟨"StepCourt$Machine", "<init>", "()V"⟩ ∈ wz := wz_c tq_2_in 14 rfl rfl
theorem wt_63 : Cond.code ⟨"StepCourt$Machine", "<init>", "()V"⟩ prog_6_method_1_code 1 none ∈ wz := wz_c tq_2_in 15 rfl rfl
theorem wt_64 : Cond.methodLink "StepCourt$Machine" 3 ⟨"java/lang/Object", "<init>", "()V"⟩ ∈ wz := wz_c tq_2_in 16 rfl rfl
theorem wt_65 : Cond.fieldLink "StepCourt$Machine" 9 "StepCourt$Machine" "cells" "[I" ∈ wz := wz_c tq_2_in 17 rfl rfl
theorem wt_67 : Cond.fieldLink "StepCourt$Machine" 15 "StepCourt$Machine" "tree" "[J" ∈ wz := wz_c tq_2_in 19 rfl rfl
theorem wt_69 : Cond.fieldLink "StepCourt$Machine" 25 "StepCourt$Machine" "pc" "I" ∈ wz := wz_c tq_2_in 21 rfl rfl
theorem wt_72 : Cond.fieldLink "StepCourt$Machine" 29 "StepCourt$Machine" "a" "I" ∈ wz := wz_c tq_3_in 0 rfl rfl
theorem wt_75 : Cond.fieldLink "StepCourt$Machine" 32 "StepCourt$Machine" "b" "I" ∈ wz := wz_c tq_3_in 3 rfl rfl
theorem wt_78 : Cond.fieldLink "StepCourt$Machine" 35 "StepCourt$Machine" "read" "I" ∈ wz := wz_c tq_3_in 6 rfl rfl
theorem wt_81 : Cond.fieldLink "StepCourt$Machine" 38 "StepCourt$Machine" "paid" "I" ∈ wz := wz_c tq_3_in 9 rfl rfl
theorem wt_84 : Cond.fieldLink "StepCourt$Machine" 41 "StepCourt$Machine" "trail" "J" ∈ wz := wz_c tq_3_in 12 rfl rfl
theorem wt_104 : Cond.arrayClass .long ∈ wz := wz_c tq_4_in 8 rfl rfl
theorem wt_105 : Cond.classLink "StepCourt" 37 "StepCourt$Payments" ∈ wz := wz_c tq_4_in 9 rfl rfl
theorem wt_106 : Cond.instantiable "StepCourt$Payments" 4 ∈ wz := wz_c tq_4_in 10 rfl rfl
theorem wt_108 : Cond.instanceMethod ⟨"StepCourt$Payments", "<init>", "()V"⟩ ∈ wz := wz_c tq_4_in 12 rfl rfl
theorem wt_109 : Cond.code ⟨"StepCourt$Payments", "<init>", "()V"⟩ prog_8_method_1_code 1 none ∈ wz := wz_c tq_4_in 13 rfl rfl
theorem wt_110 : Cond.methodLink "StepCourt$Payments" 3 ⟨"java/lang/Object", "<init>", "()V"⟩ ∈ wz := wz_c tq_4_in 14 rfl rfl
theorem wt_111 : Cond.fieldLink "StepCourt$Payments" 9 "StepCourt$Payments" "receivers" "[I" ∈ wz := wz_c tq_4_in 15 rfl rfl
theorem wt_113 : Cond.fieldLink "StepCourt$Payments" 15 "StepCourt$Payments" "amounts" "[I" ∈ wz := wz_c tq_4_in 17 rfl rfl
theorem wt_115 : Cond.fieldLink "StepCourt$Payments" 18 "StepCourt$Payments" "drawn" "[Z" ∈ wz := wz_c tq_4_in 19 rfl rfl
theorem wt_117 : Cond.fieldLink "StepCourt$Payments" 22 "StepCourt$Payments" "count" "I" ∈ wz := wz_c tq_4_in 21 rfl rfl
theorem wt_128 : Cond.arrayClass .boolean ∈ wz := wz_c tq_5_in 8 rfl rfl
theorem wt_129 : Cond.classLink "StepCourt" 44 "StepCourt$Proof" ∈ wz := wz_c tq_5_in 9 rfl rfl
theorem wt_130 : Cond.instantiable "StepCourt$Proof" 4 ∈ wz := wz_c tq_5_in 10 rfl rfl
theorem wt_132 : Cond.instanceMethod ⟨"StepCourt$Proof", "<init>", "()V"⟩ ∈ wz := wz_c tq_5_in 12 rfl rfl
theorem wt_133 : Cond.code ⟨"StepCourt$Proof", "<init>", "()V"⟩ prog_9_method_1_code 1 none ∈ wz := wz_c tq_5_in 13 rfl rfl
theorem wt_134 : Cond.methodLink "StepCourt$Proof" 3 ⟨"java/lang/Object", "<init>", "()V"⟩ ∈ wz := wz_c tq_5_in 14 rfl rfl
theorem wt_135 : Cond.classLink "StepCourt$Proof" 9 "StepCourt$Machine" ∈ wz := wz_c tq_5_in 15 rfl rfl
theorem wt_137 : Cond.fieldLink "StepCourt$Proof" 12 "StepCourt$Proof" "given" "LStepCourt$Machine;" ∈ wz := wz_c tq_5_in 17 rfl rfl
theorem wt_139 : Cond.fieldLink "StepCourt$Proof" 18 "StepCourt$Proof" "others" "[J" ∈ wz := wz_c tq_5_in 19 rfl rfl
theorem wt_140 : Cond.fieldLink "StepCourt$Proof" 34 "StepCourt$Proof" "cell" "I" ∈ wz := wz_c tq_5_in 20 rfl rfl
theorem wt_141 : Cond.fieldLink "StepCourt$Proof" 67 "StepCourt$Proof" "place" "I" ∈ wz := wz_c tq_5_in 21 rfl rfl
theorem wt_151 : Cond.classLink "StepCourt" 51 "StepCourt$Assertion" ∈ wz := wz_c tq_6_in 7 rfl rfl
theorem wt_152 : Cond.instantiable "StepCourt$Assertion" 7 ∈ wz := wz_c tq_6_in 8 rfl rfl
theorem wt_154 : Cond.instanceMethod ⟨"StepCourt$Assertion", "<init>", "()V"⟩ ∈ wz := wz_c tq_6_in 10 rfl rfl
theorem wt_155 : Cond.code ⟨"StepCourt$Assertion", "<init>", "()V"⟩ prog_2_method_1_code 1 none ∈ wz := wz_c tq_6_in 11 rfl rfl
theorem wt_156 : Cond.methodLink "StepCourt$Assertion" 1 ⟨"java/lang/Object", "<init>", "()V"⟩ ∈ wz := wz_c tq_6_in 12 rfl rfl
theorem wt_157 : Cond.fieldLink "StepCourt$Assertion" 7 "StepCourt$Assertion" "isOpen" "Z" ∈ wz := wz_c tq_6_in 13 rfl rfl
theorem wt_159 : Cond.fieldLink "StepCourt$Assertion" 13 "StepCourt$Assertion" "everMade" "Z" ∈ wz := wz_c tq_6_in 15 rfl rfl
theorem wt_161 : Cond.fieldLink "StepCourt$Assertion" 16 "StepCourt$Assertion" "asserter" "I" ∈ wz := wz_c tq_6_in 17 rfl rfl
theorem wt_163 : Cond.fieldLink "StepCourt$Assertion" 20 "StepCourt$Assertion" "steps" "I" ∈ wz := wz_c tq_6_in 19 rfl rfl
theorem wt_165 : Cond.fieldLink "StepCourt$Assertion" 23 "StepCourt$Assertion" "limit" "I" ∈ wz := wz_c tq_6_in 21 rfl rfl
theorem wt_167 : Cond.fieldLink "StepCourt$Assertion" 26 "StepCourt$Assertion" "madeAt" "I" ∈ wz := wz_c tq_6_in 23 rfl rfl
theorem wt_185 : Cond.classLink "StepCourt" 58 "StepCourt$Game" ∈ wz := wz_c tq_7_in 17 rfl rfl
theorem wt_187 : Cond.instantiable "StepCourt$Game" 9 ∈ wz := wz_c tq_7_in 19 rfl rfl
theorem wt_189 : Cond.instanceMethod ⟨"StepCourt$Game", "<init>", "()V"⟩ ∈ wz := wz_c tq_7_in 21 rfl rfl
theorem wt_190 : Cond.code ⟨"StepCourt$Game", "<init>", "()V"⟩ prog_4_method_1_code 1 none ∈ wz := wz_c tq_7_in 22 rfl rfl
theorem wt_191 : Cond.methodLink "StepCourt$Game" 3 ⟨"java/lang/Object", "<init>", "()V"⟩ ∈ wz := wz_c tq_7_in 23 rfl rfl
theorem wt_192 : Cond.fieldLink "StepCourt$Game" 9 "StepCourt$Game" "challenger" "I" ∈ wz := wz_c tq_8_in 0 rfl rfl
theorem wt_194 : Cond.fieldLink "StepCourt$Game" 15 "StepCourt$Game" "low" "I" ∈ wz := wz_c tq_8_in 2 rfl rfl
theorem wt_196 : Cond.fieldLink "StepCourt$Game" 18 "StepCourt$Game" "high" "I" ∈ wz := wz_c tq_8_in 4 rfl rfl
theorem wt_198 : Cond.fieldLink "StepCourt$Game" 21 "StepCourt$Game" "agreed" "J" ∈ wz := wz_c tq_8_in 6 rfl rfl
theorem wt_200 : Cond.fieldLink "StepCourt$Game" 25 "StepCourt$Game" "disputed" "J" ∈ wz := wz_c tq_8_in 8 rfl rfl
theorem wt_202 : Cond.fieldLink "StepCourt$Game" 38 "StepCourt$Game" "middle" "J" ∈ wz := wz_c tq_8_in 10 rfl rfl
theorem wt_204 : Cond.fieldLink "StepCourt$Game" 41 "StepCourt$Game" "hasMiddle" "Z" ∈ wz := wz_c tq_8_in 12 rfl rfl
theorem wt_205 : Cond.fieldLink "StepCourt$Game" 35 "StepCourt$Game" "deadline" "I" ∈ wz := wz_c tq_8_in 13 rfl rfl
theorem wt_207 : Cond.fieldLink "StepCourt$Game" 31 "StepCourt$Game" "isRunning" "Z" ∈ wz := wz_c tq_8_in 15 rfl rfl
theorem wt_228 : Cond.methodLink "StepCourt" 65 ⟨"StepCourt$Machine", "commitment", "()J"⟩ ∈ wz := wz_c tq_9_in 12 rfl rfl
theorem wt_229 : Cond.instanceMethod ⟨"StepCourt$Machine", "commitment", "()J"⟩ ∈ wz := wz_c tq_9_in 13 rfl rfl
theorem wt_230 : Cond.selects "StepCourt$Machine" ⟨"StepCourt$Machine", "commitment", "()J"⟩ ⟨"StepCourt$Machine", "commitment", "()J"⟩ ∈ wz := wz_c tq_9_in 14 rfl rfl
theorem wt_231 : Cond.code ⟨"StepCourt$Machine", "commitment", "()J"⟩ prog_6_method_11_code 1 (some .long) ∈ wz := wz_c tq_9_in 15 rfl rfl
theorem wt_232 : Cond.methodLink "StepCourt$Machine" 92 ⟨"StepCourt$Machine", "growTree", "()V"⟩ ∈ wz := wz_c tq_9_in 16 rfl rfl
theorem wt_233 : Cond.instanceMethod ⟨"StepCourt$Machine", "growTree", "()V"⟩ ∈ wz := wz_c tq_9_in 17 rfl rfl
theorem wt_234 : Cond.selects "StepCourt$Machine" ⟨"StepCourt$Machine", "growTree", "()V"⟩ ⟨"StepCourt$Machine", "growTree", "()V"⟩ ∈ wz := wz_c tq_9_in 18 rfl rfl
theorem wt_235 : Cond.code ⟨"StepCourt$Machine", "growTree", "()V"⟩ prog_6_method_10_code 2 none ∈ wz := wz_c tq_9_in 19 rfl rfl
theorem wt_236 : Cond.methodLink "StepCourt$Machine" 85 ⟨"StepCourt$Mixer", "mixLeaf", "(I)J"⟩ ∈ wz := wz_c tq_9_in 20 rfl rfl
theorem wt_237 : Cond.static ⟨"StepCourt$Mixer", "mixLeaf", "(I)J"⟩ ∈ wz := wz_c tq_9_in 21 rfl rfl
theorem wt_238 : Cond.code ⟨"StepCourt$Mixer", "mixLeaf", "(I)J"⟩ prog_7_method_3_code 1 (some .long) ∈ wz := wz_c tq_9_in 22 rfl rfl
theorem wt_239 : Cond.methodLink "StepCourt$Mixer" 15 ⟨"StepCourt$Mixer", "mix", "(JJ)J"⟩ ∈ wz := wz_c tq_9_in 23 rfl rfl
theorem wt_240 : Cond.static ⟨"StepCourt$Mixer", "mix", "(JJ)J"⟩ ∈ wz := wz_c tq_10_in 0 rfl rfl
theorem wt_241 : Cond.code ⟨"StepCourt$Mixer", "mix", "(JJ)J"⟩ prog_7_method_2_code 6 (some .long) ∈ wz := wz_c tq_10_in 1 rfl rfl
theorem wt_242 : Cond.constantLong "StepCourt$Mixer" 9 (6364136223846793005) ∈ wz := wz_c tq_10_in 2 rfl rfl
theorem wt_243 : Cond.constantLong "StepCourt$Mixer" 11 (3935559000370003845) ∈ wz := wz_c tq_10_in 3 rfl rfl
theorem wt_244 : Cond.constantLong "StepCourt$Mixer" 13 (-7723592293110705685) ∈ wz := wz_c tq_10_in 4 rfl rfl
theorem wt_245 : Cond.methodLink "StepCourt$Machine" 89 ⟨"StepCourt$Mixer", "mixPair", "(JJ)J"⟩ ∈ wz := wz_c tq_10_in 5 rfl rfl
theorem wt_246 : Cond.static ⟨"StepCourt$Mixer", "mixPair", "(JJ)J"⟩ ∈ wz := wz_c tq_10_in 6 rfl rfl
theorem wt_247 : Cond.code ⟨"StepCourt$Mixer", "mixPair", "(JJ)J"⟩ prog_7_method_4_code 4 (some .long) ∈ wz := wz_c tq_10_in 7 rfl rfl
theorem wt_248 : Cond.constantLong "StepCourt$Mixer" 19 (2) ∈ wz := wz_c tq_10_in 8 rfl rfl
theorem wt_249 : Cond.methodLink "StepCourt$Machine" 95 ⟨"StepCourt$Machine", "commitmentWith", "(J)J"⟩ ∈ wz := wz_c tq_10_in 9 rfl rfl
theorem wt_250 : Cond.instanceMethod ⟨"StepCourt$Machine", "commitmentWith", "(J)J"⟩ ∈ wz := wz_c tq_10_in 10 rfl rfl
theorem wt_251 : Cond.selects "StepCourt$Machine" ⟨"StepCourt$Machine", "commitmentWith", "(J)J"⟩ ⟨"StepCourt$Machine", "commitmentWith", "(J)J"⟩ ∈ wz := wz_c tq_10_in 11 rfl rfl
theorem wt_252 : Cond.code ⟨"StepCourt$Machine", "commitmentWith", "(J)J"⟩ prog_6_method_12_code 5 (some .long) ∈ wz := wz_c tq_10_in 12 rfl rfl
theorem wt_253 : Cond.methodLink "StepCourt$Machine" 79 ⟨"StepCourt$Mixer", "mix", "(JJ)J"⟩ ∈ wz := wz_c tq_10_in 13 rfl rfl
theorem wt_254 : Cond.fieldLink "StepCourt" 9 "StepCourt" "balances" "[I" ∈ wz := wz_c tq_10_in 14 rfl rfl
theorem wt_255 : Cond.fieldLink "StepCourt" 16 "StepCourt" "code" "LStepCourt$Code;" ∈ wz := wz_c tq_10_in 15 rfl rfl
theorem wt_256 : Cond.fieldLink "StepCourt" 23 "StepCourt" "inbox" "LStepCourt$Inbox;" ∈ wz := wz_c tq_10_in 16 rfl rfl
theorem wt_257 : Cond.fieldLink "StepCourt" 30 "StepCourt" "trueState" "LStepCourt$Machine;" ∈ wz := wz_c tq_10_in 17 rfl rfl
theorem wt_258 : Cond.fieldLink "StepCourt" 34 "StepCourt" "scratch" "LStepCourt$Machine;" ∈ wz := wz_c tq_10_in 18 rfl rfl
theorem wt_259 : Cond.fieldLink "StepCourt" 40 "StepCourt" "payments" "LStepCourt$Payments;" ∈ wz := wz_c tq_10_in 19 rfl rfl
theorem wt_260 : Cond.fieldLink "StepCourt" 47 "StepCourt" "proof" "LStepCourt$Proof;" ∈ wz := wz_c tq_10_in 20 rfl rfl
theorem wt_261 : Cond.fieldLink "StepCourt" 54 "StepCourt" "assertion" "LStepCourt$Assertion;" ∈ wz := wz_c tq_10_in 21 rfl rfl
theorem wt_262 : Cond.fieldLink "StepCourt" 60 "StepCourt" "games" "[LStepCourt$Game;" ∈ wz := wz_c tq_10_in 22 rfl rfl
theorem wt_263 : Cond.fieldLink "StepCourt" 149 "StepCourt" "gameCount" "I" ∈ wz := wz_c tq_10_in 23 rfl rfl
theorem wt_264 : Cond.fieldLink "StepCourt" 103 "StepCourt" "pot" "I" ∈ wz := wz_c tq_11_in 0 rfl rfl
theorem wt_265 : Cond.fieldLink "StepCourt" 128 "StepCourt" "blockNumber" "I" ∈ wz := wz_c tq_11_in 1 rfl rfl
theorem wt_266 : Cond.fieldLink "StepCourt" 69 "StepCourt" "base" "J" ∈ wz := wz_c tq_11_in 2 rfl rfl
theorem wt_302 : Cond.methodLink "StepCourt" 221 ⟨"StepCourt", "endLateGames", "()V"⟩ ∈ wz := wz_c tq_12_in 14 rfl rfl
theorem wt_304 : Cond.instanceMethod ⟨"StepCourt", "endLateGames", "()V"⟩ ∈ wz := wz_c tq_12_in 16 rfl rfl
theorem wt_305 : Cond.code ⟨"StepCourt", "endLateGames", "()V"⟩ prog_1_method_31_code 3 none ∈ wz := wz_c tq_12_in 17 rfl rfl
theorem wt_306 : Cond.methodLink "StepCourt" 299 ⟨"StepCourt$Game", "duty", "()I"⟩ ∈ wz := wz_c tq_12_in 18 rfl rfl
theorem wt_307 : Cond.instanceMethod ⟨"StepCourt$Game", "duty", "()I"⟩ ∈ wz := wz_c tq_12_in 19 rfl rfl
theorem wt_308 : Cond.selects "StepCourt$Game" ⟨"StepCourt$Game", "duty", "()I"⟩ ⟨"StepCourt$Game", "duty", "()I"⟩ ∈ wz := wz_c tq_12_in 20 rfl rfl
theorem wt_309 : Cond.code ⟨"StepCourt$Game", "duty", "()I"⟩ prog_4_method_8_code 1 (some .int) ∈ wz := wz_c tq_12_in 21 rfl rfl
theorem wt_310 : Cond.methodLink "StepCourt" 328 ⟨"StepCourt", "challengerWins", "(LStepCourt$Game;)V"⟩ ∈ wz := wz_c tq_12_in 22 rfl rfl
theorem wt_312 : Cond.instanceMethod ⟨"StepCourt", "challengerWins", "(LStepCourt$Game;)V"⟩ ∈ wz := wz_c tq_13_in 0 rfl rfl
theorem wt_313 : Cond.code ⟨"StepCourt", "challengerWins", "(LStepCourt$Game;)V"⟩ prog_1_method_33_code 3 none ∈ wz := wz_c tq_13_in 1 rfl rfl
theorem wt_314 : Cond.methodLink "StepCourt" 248 ⟨"StepCourt", "pay", "(II)V"⟩ ∈ wz := wz_c tq_13_in 2 rfl rfl
theorem wt_316 : Cond.instanceMethod ⟨"StepCourt", "pay", "(II)V"⟩ ∈ wz := wz_c tq_13_in 4 rfl rfl
theorem wt_317 : Cond.code ⟨"StepCourt", "pay", "(II)V"⟩ prog_1_method_25_code 3 none ∈ wz := wz_c tq_13_in 5 rfl rfl
theorem wt_318 : Cond.methodLink "StepCourt" 251 ⟨"StepCourt", "isParty", "(I)Z"⟩ ∈ wz := wz_c tq_13_in 6 rfl rfl
theorem wt_319 : Cond.static ⟨"StepCourt", "isParty", "(I)Z"⟩ ∈ wz := wz_c tq_13_in 7 rfl rfl
theorem wt_320 : Cond.code ⟨"StepCourt", "isParty", "(I)Z"⟩ prog_1_method_20_code 1 (some .boolean) ∈ wz := wz_c tq_13_in 8 rfl rfl
theorem wt_321 : Cond.methodLink "StepCourt" 331 ⟨"StepCourt", "closeAssertion", "()V"⟩ ∈ wz := wz_c tq_13_in 9 rfl rfl
theorem wt_323 : Cond.instanceMethod ⟨"StepCourt", "closeAssertion", "()V"⟩ ∈ wz := wz_c tq_13_in 11 rfl rfl
theorem wt_324 : Cond.code ⟨"StepCourt", "closeAssertion", "()V"⟩ prog_1_method_36_code 1 none ∈ wz := wz_c tq_13_in 12 rfl rfl
theorem wt_325 : Cond.methodLink "StepCourt" 214 ⟨"StepCourt", "asserterWins", "(LStepCourt$Game;)V"⟩ ∈ wz := wz_c tq_13_in 13 rfl rfl
theorem wt_327 : Cond.instanceMethod ⟨"StepCourt", "asserterWins", "(LStepCourt$Game;)V"⟩ ∈ wz := wz_c tq_13_in 15 rfl rfl
theorem wt_328 : Cond.code ⟨"StepCourt", "asserterWins", "(LStepCourt$Game;)V"⟩ prog_1_method_32_code 2 none ∈ wz := wz_c tq_13_in 16 rfl rfl
theorem wt_329 : Cond.methodLink "StepCourt" 218 ⟨"StepCourt", "standIfDue", "()V"⟩ ∈ wz := wz_c tq_13_in 17 rfl rfl
theorem wt_331 : Cond.instanceMethod ⟨"StepCourt", "standIfDue", "()V"⟩ ∈ wz := wz_c tq_13_in 19 rfl rfl
theorem wt_332 : Cond.code ⟨"StepCourt", "standIfDue", "()V"⟩ prog_1_method_34_code 1 none ∈ wz := wz_c tq_13_in 20 rfl rfl
theorem wt_333 : Cond.methodLink "StepCourt" 287 ⟨"StepCourt", "countRunning", "()I"⟩ ∈ wz := wz_c tq_13_in 21 rfl rfl
theorem wt_335 : Cond.instanceMethod ⟨"StepCourt", "countRunning", "()I"⟩ ∈ wz := wz_c tq_13_in 23 rfl rfl
theorem wt_336 : Cond.code ⟨"StepCourt", "countRunning", "()I"⟩ prog_1_method_27_code 3 (some .int) ∈ wz := wz_c tq_14_in 0 rfl rfl
theorem wt_337 : Cond.methodLink "StepCourt" 334 ⟨"StepCourt", "moveTrueState", "()V"⟩ ∈ wz := wz_c tq_14_in 1 rfl rfl
theorem wt_339 : Cond.instanceMethod ⟨"StepCourt", "moveTrueState", "()V"⟩ ∈ wz := wz_c tq_14_in 3 rfl rfl
theorem wt_340 : Cond.code ⟨"StepCourt", "moveTrueState", "()V"⟩ prog_1_method_35_code 3 none ∈ wz := wz_c tq_14_in 4 rfl rfl
theorem wt_341 : Cond.methodLink "StepCourt" 316 ⟨"StepCourt$Machine", "step", "(LStepCourt$Code;LStepCourt$Inbox;I)V"⟩ ∈ wz := wz_c tq_14_in 5 rfl rfl
theorem wt_342 : Cond.instanceMethod ⟨"StepCourt$Machine", "step", "(LStepCourt$Code;LStepCourt$Inbox;I)V"⟩ ∈ wz := wz_c tq_14_in 6 rfl rfl
theorem wt_343 : Cond.selects "StepCourt$Machine" ⟨"StepCourt$Machine", "step", "(LStepCourt$Code;LStepCourt$Inbox;I)V"⟩ ⟨"StepCourt$Machine", "step", "(LStepCourt$Code;LStepCourt$Inbox;I)V"⟩ ∈ wz := wz_c tq_14_in 7 rfl rfl
theorem wt_344 : Cond.code ⟨"StepCourt$Machine", "step", "(LStepCourt$Code;LStepCourt$Inbox;I)V"⟩ prog_6_method_6_code 8 none ∈ wz := wz_c tq_14_in 8 rfl rfl
theorem wt_345 : Cond.methodLink "StepCourt$Machine" 55 ⟨"StepCourt$Machine", "exchange", "()V"⟩ ∈ wz := wz_c tq_14_in 9 rfl rfl
theorem wt_347 : Cond.instanceMethod ⟨"StepCourt$Machine", "exchange", "()V"⟩ ∈ wz := wz_c tq_14_in 11 rfl rfl
theorem wt_348 : Cond.code ⟨"StepCourt$Machine", "exchange", "()V"⟩ prog_6_method_7_code 2 none ∈ wz := wz_c tq_14_in 12 rfl rfl
theorem wt_349 : Cond.methodLink "StepCourt$Machine" 58 ⟨"StepCourt$Machine", "cellPlace", "()I"⟩ ∈ wz := wz_c tq_14_in 13 rfl rfl
theorem wt_350 : Cond.instanceMethod ⟨"StepCourt$Machine", "cellPlace", "()I"⟩ ∈ wz := wz_c tq_14_in 14 rfl rfl
theorem wt_351 : Cond.selects "StepCourt$Machine" ⟨"StepCourt$Machine", "cellPlace", "()I"⟩ ⟨"StepCourt$Machine", "cellPlace", "()I"⟩ ∈ wz := wz_c tq_14_in 15 rfl rfl
theorem wt_352 : Cond.code ⟨"StepCourt$Machine", "cellPlace", "()I"⟩ prog_6_method_3_code 1 (some .int) ∈ wz := wz_c tq_14_in 16 rfl rfl
theorem wt_353 : Cond.methodLink "StepCourt$Machine" 62 ⟨"StepCourt$Machine", "takeWord", "(LStepCourt$Inbox;I)Z"⟩ ∈ wz := wz_c tq_14_in 17 rfl rfl
theorem wt_355 : Cond.instanceMethod ⟨"StepCourt$Machine", "takeWord", "(LStepCourt$Inbox;I)Z"⟩ ∈ wz := wz_c tq_14_in 19 rfl rfl
theorem wt_356 : Cond.code ⟨"StepCourt$Machine", "takeWord", "(LStepCourt$Inbox;I)Z"⟩ prog_6_method_8_code 3 (some .boolean) ∈ wz := wz_c tq_14_in 20 rfl rfl
theorem wt_357 : Cond.methodLink "StepCourt$Machine" 70 ⟨"StepCourt$Inbox", "at", "(I)I"⟩ ∈ wz := wz_c tq_14_in 21 rfl rfl
theorem wt_358 : Cond.instanceMethod ⟨"StepCourt$Inbox", "at", "(I)I"⟩ ∈ wz := wz_c tq_14_in 22 rfl rfl
theorem wt_359 : Cond.selects "StepCourt$Inbox" ⟨"StepCourt$Inbox", "at", "(I)I"⟩ ⟨"StepCourt$Inbox", "at", "(I)I"⟩ ∈ wz := wz_c tq_14_in 23 rfl rfl
theorem wt_360 : Cond.code ⟨"StepCourt$Inbox", "at", "(I)I"⟩ prog_5_method_4_code 2 (some .int) ∈ wz := wz_c tq_15_in 0 rfl rfl
theorem wt_361 : Cond.methodLink "StepCourt$Machine" 66 ⟨"StepCourt$Machine", "makePayment", "()Z"⟩ ∈ wz := wz_c tq_15_in 1 rfl rfl
theorem wt_363 : Cond.instanceMethod ⟨"StepCourt$Machine", "makePayment", "()Z"⟩ ∈ wz := wz_c tq_15_in 3 rfl rfl
theorem wt_364 : Cond.code ⟨"StepCourt$Machine", "makePayment", "()Z"⟩ prog_6_method_9_code 1 (some .boolean) ∈ wz := wz_c tq_15_in 4 rfl rfl
theorem wt_365 : Cond.methodLink "StepCourt$Machine" 76 ⟨"StepCourt$Machine", "receiver", "()I"⟩ ∈ wz := wz_c tq_15_in 5 rfl rfl
theorem wt_366 : Cond.instanceMethod ⟨"StepCourt$Machine", "receiver", "()I"⟩ ∈ wz := wz_c tq_15_in 6 rfl rfl
theorem wt_367 : Cond.selects "StepCourt$Machine" ⟨"StepCourt$Machine", "receiver", "()I"⟩ ⟨"StepCourt$Machine", "receiver", "()I"⟩ ∈ wz := wz_c tq_15_in 7 rfl rfl
theorem wt_368 : Cond.code ⟨"StepCourt$Machine", "receiver", "()I"⟩ prog_6_method_4_code 1 (some .int) ∈ wz := wz_c tq_15_in 8 rfl rfl
theorem wt_369 : Cond.methodLink "StepCourt" 337 ⟨"StepCourt$Machine", "receiver", "()I"⟩ ∈ wz := wz_c tq_15_in 9 rfl rfl
theorem wt_370 : Cond.methodLink "StepCourt" 340 ⟨"StepCourt$Payments", "add", "(II)V"⟩ ∈ wz := wz_c tq_15_in 10 rfl rfl
theorem wt_371 : Cond.instanceMethod ⟨"StepCourt$Payments", "add", "(II)V"⟩ ∈ wz := wz_c tq_15_in 11 rfl rfl
theorem wt_372 : Cond.selects "StepCourt$Payments" ⟨"StepCourt$Payments", "add", "(II)V"⟩ ⟨"StepCourt$Payments", "add", "(II)V"⟩ ∈ wz := wz_c tq_15_in 12 rfl rfl
theorem wt_373 : Cond.code ⟨"StepCourt$Payments", "add", "(II)V"⟩ prog_8_method_2_code 3 none ∈ wz := wz_c tq_15_in 13 rfl rfl
theorem wt_386 : Cond.methodLink "StepCourt" 254 ⟨"StepCourt$Inbox", "at", "(I)I"⟩ ∈ wz := wz_c tq_16_in 2 rfl rfl
theorem wt_391 : Cond.methodLink "StepCourt" 135 ⟨"StepCourt", "trueCommitment", "(I)J"⟩ ∈ wz := wz_c tq_16_in 7 rfl rfl
theorem wt_393 : Cond.instanceMethod ⟨"StepCourt", "trueCommitment", "(I)J"⟩ ∈ wz := wz_c tq_16_in 9 rfl rfl
theorem wt_394 : Cond.code ⟨"StepCourt", "trueCommitment", "(I)J"⟩ prog_1_method_28_code 2 (some .long) ∈ wz := wz_c tq_16_in 10 rfl rfl
theorem wt_395 : Cond.methodLink "StepCourt" 193 ⟨"StepCourt", "runScratch", "(II)V"⟩ ∈ wz := wz_c tq_16_in 11 rfl rfl
theorem wt_397 : Cond.instanceMethod ⟨"StepCourt", "runScratch", "(II)V"⟩ ∈ wz := wz_c tq_16_in 13 rfl rfl
theorem wt_398 : Cond.code ⟨"StepCourt", "runScratch", "(II)V"⟩ prog_1_method_29_code 4 none ∈ wz := wz_c tq_16_in 14 rfl rfl
theorem wt_399 : Cond.methodLink "StepCourt" 313 ⟨"StepCourt$Machine", "copyFrom", "(LStepCourt$Machine;)V"⟩ ∈ wz := wz_c tq_16_in 15 rfl rfl
theorem wt_400 : Cond.instanceMethod ⟨"StepCourt$Machine", "copyFrom", "(LStepCourt$Machine;)V"⟩ ∈ wz := wz_c tq_16_in 16 rfl rfl
theorem wt_401 : Cond.selects "StepCourt$Machine" ⟨"StepCourt$Machine", "copyFrom", "(LStepCourt$Machine;)V"⟩ ⟨"StepCourt$Machine", "copyFrom", "(LStepCourt$Machine;)V"⟩ ∈ wz := wz_c tq_16_in 17 rfl rfl
theorem wt_402 : Cond.code ⟨"StepCourt$Machine", "copyFrom", "(LStepCourt$Machine;)V"⟩ prog_6_method_2_code 2 none ∈ wz := wz_c tq_16_in 18 rfl rfl
theorem wt_403 : Cond.methodLink "StepCourt$Machine" 19 ⟨"java/lang/System", "arraycopy", "(Ljava/lang/Object;ILjava/lang/Object;II)V"⟩ ∈ wz := wz_c tq_16_in 19 rfl rfl
theorem wt_404 : Cond.static ⟨"java/lang/System", "arraycopy", "(Ljava/lang/Object;ILjava/lang/Object;II)V"⟩ ∈ wz := wz_c tq_16_in 20 rfl rfl
theorem wt_405 : Cond.native ⟨"java/lang/System", "arraycopy", "(Ljava/lang/Object;ILjava/lang/Object;II)V"⟩ ∈ wz := wz_c tq_16_in 21 rfl rfl
theorem wt_414 : Cond.constantLong "StepCourt" 276 (6) ∈ wz := wz_c tq_17_in 6 rfl rfl
theorem wt_415 : Cond.methodLink "StepCourt" 278 ⟨"StepCourt$Machine", "cellOrZero", "(J)J"⟩ ∈ wz := wz_c tq_17_in 7 rfl rfl
theorem wt_416 : Cond.instanceMethod ⟨"StepCourt$Machine", "cellOrZero", "(J)J"⟩ ∈ wz := wz_c tq_17_in 8 rfl rfl
theorem wt_417 : Cond.selects "StepCourt$Machine" ⟨"StepCourt$Machine", "cellOrZero", "(J)J"⟩ ⟨"StepCourt$Machine", "cellOrZero", "(J)J"⟩ ∈ wz := wz_c tq_17_in 9 rfl rfl
theorem wt_418 : Cond.code ⟨"StepCourt$Machine", "cellOrZero", "(J)J"⟩ prog_6_method_5_code 3 (some .long) ∈ wz := wz_c tq_17_in 10 rfl rfl
theorem wt_419 : Cond.constantLong "StepCourt$Machine" 45 (8) ∈ wz := wz_c tq_17_in 11 rfl rfl
theorem wt_424 : Cond.constantLong "StepCourt" 282 (-1) ∈ wz := wz_c tq_17_in 16 rfl rfl
theorem wt_429 : Cond.methodLink "StepCourt" 290 ⟨"StepCourt", "isGame", "(I)Z"⟩ ∈ wz := wz_c tq_17_in 21 rfl rfl
theorem wt_431 : Cond.instanceMethod ⟨"StepCourt", "isGame", "(I)Z"⟩ ∈ wz := wz_c tq_17_in 23 rfl rfl
theorem wt_432 : Cond.code ⟨"StepCourt", "isGame", "(I)Z"⟩ prog_1_method_22_code 2 (some .boolean) ∈ wz := wz_c tq_18_in 0 rfl rfl
theorem wt_436 : Cond.classLink "StepCourtLaw" 13 "java/lang/IndexOutOfBoundsException" ∈ wz := wz_c tq_18_in 4 rfl rfl
theorem wt_437 : Cond.classLink "StepCourtLaw" 15 "java/lang/IllegalArgumentException" ∈ wz := wz_c tq_18_in 5 rfl rfl
theorem wt_438 : Cond.classLink "StepCourtLaw" 17 "java/lang/UnsupportedOperationException" ∈ wz := wz_c tq_18_in 6 rfl rfl
theorem wt_439 : Cond.methodLink "StepCourtLaw" 7 ⟨"StepCourt", "deposit", "(II)I"⟩ ∈ wz := wz_c tq_18_in 7 rfl rfl
theorem wt_440 : Cond.instanceMethod ⟨"StepCourt", "deposit", "(II)I"⟩ ∈ wz := wz_c tq_18_in 8 rfl rfl
theorem wt_441 : Cond.selects "StepCourt" ⟨"StepCourt", "deposit", "(II)I"⟩ ⟨"StepCourt", "deposit", "(II)I"⟩ ∈ wz := wz_c tq_18_in 9 rfl rfl
theorem wt_442 : Cond.code ⟨"StepCourt", "deposit", "(II)I"⟩ prog_1_method_3_code 3 (some .int) ∈ wz := wz_c tq_18_in 10 rfl rfl
theorem wt_443 : Cond.methodLink "StepCourt" 83 ⟨"StepCourt", "requireParty", "(I)V"⟩ ∈ wz := wz_c tq_18_in 11 rfl rfl
theorem wt_444 : Cond.static ⟨"StepCourt", "requireParty", "(I)V"⟩ ∈ wz := wz_c tq_18_in 12 rfl rfl
theorem wt_445 : Cond.code ⟨"StepCourt", "requireParty", "(I)V"⟩ prog_1_method_21_code 1 none ∈ wz := wz_c tq_18_in 13 rfl rfl
theorem wt_446 : Cond.classLink "StepCourt" 227 "java/lang/IndexOutOfBoundsException" ∈ wz := wz_c tq_18_in 14 rfl rfl
theorem wt_515 : Cond.classLink "StepCourt" 87 "java/lang/IllegalArgumentException" ∈ wz := wz_c tq_21_in 11 rfl rfl
theorem wt_531 : Cond.methodLink "StepCourt" 94 ⟨"StepCourt$Inbox", "room", "()I"⟩ ∈ wz := wz_c tq_22_in 3 rfl rfl
theorem wt_532 : Cond.instanceMethod ⟨"StepCourt$Inbox", "room", "()I"⟩ ∈ wz := wz_c tq_22_in 4 rfl rfl
theorem wt_533 : Cond.selects "StepCourt$Inbox" ⟨"StepCourt$Inbox", "room", "()I"⟩ ⟨"StepCourt$Inbox", "room", "()I"⟩ ∈ wz := wz_c tq_22_in 5 rfl rfl
theorem wt_534 : Cond.code ⟨"StepCourt$Inbox", "room", "()I"⟩ prog_5_method_2_code 1 (some .int) ∈ wz := wz_c tq_22_in 6 rfl rfl
theorem wt_535 : Cond.classLink "StepCourt" 98 "java/lang/UnsupportedOperationException" ∈ wz := wz_c tq_22_in 7 rfl rfl
theorem wt_551 : Cond.methodLink "StepCourt" 107 ⟨"StepCourt$Inbox", "add", "(I)V"⟩ ∈ wz := wz_c tq_22_in 23 rfl rfl
theorem wt_552 : Cond.instanceMethod ⟨"StepCourt$Inbox", "add", "(I)V"⟩ ∈ wz := wz_c tq_23_in 0 rfl rfl
theorem wt_553 : Cond.selects "StepCourt$Inbox" ⟨"StepCourt$Inbox", "add", "(I)V"⟩ ⟨"StepCourt$Inbox", "add", "(I)V"⟩ ∈ wz := wz_c tq_23_in 1 rfl rfl
theorem wt_554 : Cond.code ⟨"StepCourt$Inbox", "add", "(I)V"⟩ prog_5_method_3_code 2 none ∈ wz := wz_c tq_23_in 2 rfl rfl
theorem wt_558 : Cond.methodLink "StepCourtLaw" 19 ⟨"StepCourt", "send", "(I)I"⟩ ∈ wz := wz_c tq_23_in 6 rfl rfl
theorem wt_559 : Cond.instanceMethod ⟨"StepCourt", "send", "(I)I"⟩ ∈ wz := wz_c tq_23_in 7 rfl rfl
theorem wt_560 : Cond.selects "StepCourt" ⟨"StepCourt", "send", "(I)I"⟩ ⟨"StepCourt", "send", "(I)I"⟩ ∈ wz := wz_c tq_23_in 8 rfl rfl
theorem wt_561 : Cond.code ⟨"StepCourt", "send", "(I)I"⟩ prog_1_method_4_code 2 (some .int) ∈ wz := wz_c tq_23_in 9 rfl rfl
theorem wt_566 : Cond.classLink "StepCourtLaw" 27 "java/lang/IllegalStateException" ∈ wz := wz_c tq_23_in 14 rfl rfl
theorem wt_567 : Cond.methodLink "StepCourtLaw" 23 ⟨"StepCourt", "claim", "(IIJ)J"⟩ ∈ wz := wz_c tq_23_in 15 rfl rfl
theorem wt_568 : Cond.instanceMethod ⟨"StepCourt", "claim", "(IIJ)J"⟩ ∈ wz := wz_c tq_23_in 16 rfl rfl
theorem wt_569 : Cond.selects "StepCourt" ⟨"StepCourt", "claim", "(IIJ)J"⟩ ⟨"StepCourt", "claim", "(IIJ)J"⟩ ∈ wz := wz_c tq_23_in 17 rfl rfl
theorem wt_570 : Cond.code ⟨"StepCourt", "claim", "(IIJ)J"⟩ prog_1_method_5_code 5 (some .long) ∈ wz := wz_c tq_23_in 18 rfl rfl
theorem wt_571 : Cond.classLink "StepCourt" 118 "java/lang/IllegalStateException" ∈ wz := wz_c tq_23_in 19 rfl rfl
theorem wt_588 : Cond.methodLink "StepCourt" 125 ⟨"StepCourt", "takeStake", "(I)V"⟩ ∈ wz := wz_c tq_24_in 12 rfl rfl
theorem wt_590 : Cond.instanceMethod ⟨"StepCourt", "takeStake", "(I)V"⟩ ∈ wz := wz_c tq_24_in 14 rfl rfl
theorem wt_591 : Cond.code ⟨"StepCourt", "takeStake", "(I)V"⟩ prog_1_method_24_code 2 none ∈ wz := wz_c tq_24_in 15 rfl rfl
theorem wt_593 : Cond.methodLink "StepCourt" 131 ⟨"StepCourt$Assertion", "open", "(IIII)V"⟩ ∈ wz := wz_c tq_24_in 17 rfl rfl
theorem wt_594 : Cond.instanceMethod ⟨"StepCourt$Assertion", "open", "(IIII)V"⟩ ∈ wz := wz_c tq_24_in 18 rfl rfl
theorem wt_595 : Cond.selects "StepCourt$Assertion" ⟨"StepCourt$Assertion", "open", "(IIII)V"⟩ ⟨"StepCourt$Assertion", "open", "(IIII)V"⟩ ∈ wz := wz_c tq_24_in 19 rfl rfl
theorem wt_596 : Cond.code ⟨"StepCourt$Assertion", "open", "(IIII)V"⟩ prog_2_method_2_code 5 none ∈ wz := wz_c tq_24_in 20 rfl rfl
theorem wt_600 : Cond.methodLink "StepCourtLaw" 29 ⟨"StepCourt", "challenge", "(I)I"⟩ ∈ wz := wz_c tq_25_in 0 rfl rfl
theorem wt_601 : Cond.instanceMethod ⟨"StepCourt", "challenge", "(I)I"⟩ ∈ wz := wz_c tq_25_in 1 rfl rfl
theorem wt_602 : Cond.selects "StepCourt" ⟨"StepCourt", "challenge", "(I)I"⟩ ⟨"StepCourt", "challenge", "(I)I"⟩ ∈ wz := wz_c tq_25_in 2 rfl rfl
theorem wt_603 : Cond.code ⟨"StepCourt", "challenge", "(I)I"⟩ prog_1_method_6_code 3 (some .int) ∈ wz := wz_c tq_25_in 3 rfl rfl
theorem wt_604 : Cond.methodLink "StepCourt" 145 ⟨"StepCourt", "hasChallenged", "(I)Z"⟩ ∈ wz := wz_c tq_25_in 4 rfl rfl
theorem wt_606 : Cond.instanceMethod ⟨"StepCourt", "hasChallenged", "(I)Z"⟩ ∈ wz := wz_c tq_25_in 6 rfl rfl
theorem wt_607 : Cond.code ⟨"StepCourt", "hasChallenged", "(I)Z"⟩ prog_1_method_26_code 3 (some .boolean) ∈ wz := wz_c tq_25_in 7 rfl rfl
theorem wt_609 : Cond.methodLink "StepCourt" 157 ⟨"StepCourt$Game", "begin", "(IIJJ)V"⟩ ∈ wz := wz_c tq_25_in 9 rfl rfl
theorem wt_610 : Cond.instanceMethod ⟨"StepCourt$Game", "begin", "(IIJJ)V"⟩ ∈ wz := wz_c tq_25_in 10 rfl rfl
theorem wt_611 : Cond.selects "StepCourt$Game" ⟨"StepCourt$Game", "begin", "(IIJJ)V"⟩ ⟨"StepCourt$Game", "begin", "(IIJJ)V"⟩ ∈ wz := wz_c tq_25_in 11 rfl rfl
theorem wt_612 : Cond.code ⟨"StepCourt$Game", "begin", "(IIJJ)V"⟩ prog_4_method_2_code 7 none ∈ wz := wz_c tq_25_in 12 rfl rfl
theorem wt_613 : Cond.methodLink "StepCourt$Game" 28 ⟨"StepCourt$Game", "clearMiddle", "()V"⟩ ∈ wz := wz_c tq_25_in 13 rfl rfl
theorem wt_615 : Cond.instanceMethod ⟨"StepCourt$Game", "clearMiddle", "()V"⟩ ∈ wz := wz_c tq_25_in 15 rfl rfl
theorem wt_616 : Cond.code ⟨"StepCourt$Game", "clearMiddle", "()V"⟩ prog_4_method_6_code 1 none ∈ wz := wz_c tq_25_in 16 rfl rfl
theorem wt_617 : Cond.methodLink "StepCourt" 161 ⟨"StepCourt$Game", "setDeadline", "(I)V"⟩ ∈ wz := wz_c tq_25_in 17 rfl rfl
theorem wt_618 : Cond.instanceMethod ⟨"StepCourt$Game", "setDeadline", "(I)V"⟩ ∈ wz := wz_c tq_25_in 18 rfl rfl
theorem wt_619 : Cond.selects "StepCourt$Game" ⟨"StepCourt$Game", "setDeadline", "(I)V"⟩ ⟨"StepCourt$Game", "setDeadline", "(I)V"⟩ ∈ wz := wz_c tq_25_in 19 rfl rfl
theorem wt_620 : Cond.code ⟨"StepCourt$Game", "setDeadline", "(I)V"⟩ prog_4_method_3_code 2 none ∈ wz := wz_c tq_25_in 20 rfl rfl
theorem wt_624 : Cond.methodLink "StepCourtLaw" 32 ⟨"StepCourt", "post", "(IJ)J"⟩ ∈ wz := wz_c tq_26_in 0 rfl rfl
theorem wt_625 : Cond.instanceMethod ⟨"StepCourt", "post", "(IJ)J"⟩ ∈ wz := wz_c tq_26_in 1 rfl rfl
theorem wt_626 : Cond.selects "StepCourt" ⟨"StepCourt", "post", "(IJ)J"⟩ ⟨"StepCourt", "post", "(IJ)J"⟩ ∈ wz := wz_c tq_26_in 2 rfl rfl
theorem wt_627 : Cond.code ⟨"StepCourt", "post", "(IJ)J"⟩ prog_1_method_7_code 5 (some .long) ∈ wz := wz_c tq_26_in 3 rfl rfl
theorem wt_628 : Cond.methodLink "StepCourt" 164 ⟨"StepCourt", "gameWithDuty", "(II)LStepCourt$Game;"⟩ ∈ wz := wz_c tq_26_in 4 rfl rfl
theorem wt_630 : Cond.instanceMethod ⟨"StepCourt", "gameWithDuty", "(II)LStepCourt$Game;"⟩ ∈ wz := wz_c tq_26_in 6 rfl rfl
theorem wt_631 : Cond.code ⟨"StepCourt", "gameWithDuty", "(II)LStepCourt$Game;"⟩ prog_1_method_23_code 4 (some (.object "StepCourt$Game")) ∈ wz := wz_c tq_26_in 7 rfl rfl
theorem wt_634 : Cond.methodLink "StepCourt" 168 ⟨"StepCourt$Game", "middleStep", "()I"⟩ ∈ wz := wz_c tq_26_in 10 rfl rfl
theorem wt_635 : Cond.instanceMethod ⟨"StepCourt$Game", "middleStep", "()I"⟩ ∈ wz := wz_c tq_26_in 11 rfl rfl
theorem wt_636 : Cond.selects "StepCourt$Game" ⟨"StepCourt$Game", "middleStep", "()I"⟩ ⟨"StepCourt$Game", "middleStep", "()I"⟩ ∈ wz := wz_c tq_26_in 12 rfl rfl
theorem wt_637 : Cond.code ⟨"StepCourt$Game", "middleStep", "()I"⟩ prog_4_method_4_code 1 (some .int) ∈ wz := wz_c tq_26_in 13 rfl rfl
theorem wt_638 : Cond.methodLink "StepCourt" 171 ⟨"StepCourt$Game", "setMiddle", "(J)V"⟩ ∈ wz := wz_c tq_26_in 14 rfl rfl
theorem wt_639 : Cond.instanceMethod ⟨"StepCourt$Game", "setMiddle", "(J)V"⟩ ∈ wz := wz_c tq_26_in 15 rfl rfl
theorem wt_640 : Cond.selects "StepCourt$Game" ⟨"StepCourt$Game", "setMiddle", "(J)V"⟩ ⟨"StepCourt$Game", "setMiddle", "(J)V"⟩ ∈ wz := wz_c tq_26_in 16 rfl rfl
theorem wt_641 : Cond.code ⟨"StepCourt$Game", "setMiddle", "(J)V"⟩ prog_4_method_5_code 3 none ∈ wz := wz_c tq_26_in 17 rfl rfl
theorem wt_645 : Cond.methodLink "StepCourtLaw" 36 ⟨"StepCourt", "pick", "(IZ)I"⟩ ∈ wz := wz_c tq_26_in 21 rfl rfl
theorem wt_646 : Cond.instanceMethod ⟨"StepCourt", "pick", "(IZ)I"⟩ ∈ wz := wz_c tq_26_in 22 rfl rfl
theorem wt_647 : Cond.selects "StepCourt" ⟨"StepCourt", "pick", "(IZ)I"⟩ ⟨"StepCourt", "pick", "(IZ)I"⟩ ∈ wz := wz_c tq_26_in 23 rfl rfl
theorem wt_648 : Cond.code ⟨"StepCourt", "pick", "(IZ)I"⟩ prog_1_method_8_code 4 (some .int) ∈ wz := wz_c tq_27_in 0 rfl rfl
theorem wt_649 : Cond.methodLink "StepCourt" 178 ⟨"StepCourt$Game", "halve", "(Z)V"⟩ ∈ wz := wz_c tq_27_in 1 rfl rfl
theorem wt_650 : Cond.instanceMethod ⟨"StepCourt$Game", "halve", "(Z)V"⟩ ∈ wz := wz_c tq_27_in 2 rfl rfl
theorem wt_651 : Cond.selects "StepCourt$Game" ⟨"StepCourt$Game", "halve", "(Z)V"⟩ ⟨"StepCourt$Game", "halve", "(Z)V"⟩ ∈ wz := wz_c tq_27_in 3 rfl rfl
theorem wt_652 : Cond.code ⟨"StepCourt$Game", "halve", "(Z)V"⟩ prog_4_method_7_code 2 none ∈ wz := wz_c tq_27_in 4 rfl rfl
theorem wt_653 : Cond.methodLink "StepCourt$Game" 44 ⟨"StepCourt$Game", "middleStep", "()I"⟩ ∈ wz := wz_c tq_27_in 5 rfl rfl
theorem wt_657 : Cond.methodLink "StepCourtLaw" 40 ⟨"StepCourt", "prove", "(III)Z"⟩ ∈ wz := wz_c tq_27_in 9 rfl rfl
theorem wt_658 : Cond.instanceMethod ⟨"StepCourt", "prove", "(III)Z"⟩ ∈ wz := wz_c tq_27_in 10 rfl rfl
theorem wt_659 : Cond.selects "StepCourt" ⟨"StepCourt", "prove", "(III)Z"⟩ ⟨"StepCourt", "prove", "(III)Z"⟩ ∈ wz := wz_c tq_27_in 11 rfl rfl
theorem wt_660 : Cond.code ⟨"StepCourt", "prove", "(III)Z"⟩ prog_1_method_9_code 5 (some .boolean) ∈ wz := wz_c tq_27_in 12 rfl rfl
theorem wt_662 : Cond.methodLink "StepCourt" 197 ⟨"StepCourt$Proof", "takeFrom", "(LStepCourt$Machine;)V"⟩ ∈ wz := wz_c tq_27_in 14 rfl rfl
theorem wt_663 : Cond.instanceMethod ⟨"StepCourt$Proof", "takeFrom", "(LStepCourt$Machine;)V"⟩ ∈ wz := wz_c tq_27_in 15 rfl rfl
theorem wt_664 : Cond.selects "StepCourt$Proof" ⟨"StepCourt$Proof", "takeFrom", "(LStepCourt$Machine;)V"⟩ ⟨"StepCourt$Proof", "takeFrom", "(LStepCourt$Machine;)V"⟩ ∈ wz := wz_c tq_27_in 16 rfl rfl
theorem wt_665 : Cond.code ⟨"StepCourt$Proof", "takeFrom", "(LStepCourt$Machine;)V"⟩ prog_9_method_2_code 4 none ∈ wz := wz_c tq_27_in 17 rfl rfl
theorem wt_666 : Cond.methodLink "StepCourt$Proof" 22 ⟨"StepCourt$Machine", "copyFrom", "(LStepCourt$Machine;)V"⟩ ∈ wz := wz_c tq_27_in 18 rfl rfl
theorem wt_667 : Cond.methodLink "StepCourt$Proof" 26 ⟨"StepCourt$Machine", "cellPlace", "()I"⟩ ∈ wz := wz_c tq_27_in 19 rfl rfl
theorem wt_668 : Cond.methodLink "StepCourt$Proof" 38 ⟨"StepCourt$Machine", "growTree", "()V"⟩ ∈ wz := wz_c tq_27_in 20 rfl rfl
theorem wt_669 : Cond.methodLink "StepCourt" 201 ⟨"StepCourt$Proof", "alter", "(II)V"⟩ ∈ wz := wz_c tq_27_in 21 rfl rfl
theorem wt_670 : Cond.instanceMethod ⟨"StepCourt$Proof", "alter", "(II)V"⟩ ∈ wz := wz_c tq_27_in 22 rfl rfl
theorem wt_671 : Cond.selects "StepCourt$Proof" ⟨"StepCourt$Proof", "alter", "(II)V"⟩ ⟨"StepCourt$Proof", "alter", "(II)V"⟩ ∈ wz := wz_c tq_27_in 23 rfl rfl
theorem wt_672 : Cond.code ⟨"StepCourt$Proof", "alter", "(II)V"⟩ prog_9_method_3_code 3 none ∈ wz := wz_c tq_28_in 0 rfl rfl
theorem wt_673 : Cond.methodLink "StepCourt$Proof" 63 ⟨"StepCourt$Proof", "alterOther", "(II)V"⟩ ∈ wz := wz_c tq_28_in 1 rfl rfl
theorem wt_675 : Cond.instanceMethod ⟨"StepCourt$Proof", "alterOther", "(II)V"⟩ ∈ wz := wz_c tq_28_in 3 rfl rfl
theorem wt_676 : Cond.code ⟨"StepCourt$Proof", "alterOther", "(II)V"⟩ prog_9_method_4_code 3 none ∈ wz := wz_c tq_28_in 4 rfl rfl
theorem wt_677 : Cond.methodLink "StepCourt" 210 ⟨"StepCourt", "proofLeads", "(JJ)Z"⟩ ∈ wz := wz_c tq_28_in 5 rfl rfl
theorem wt_679 : Cond.instanceMethod ⟨"StepCourt", "proofLeads", "(JJ)Z"⟩ ∈ wz := wz_c tq_28_in 7 rfl rfl
theorem wt_680 : Cond.code ⟨"StepCourt", "proofLeads", "(JJ)Z"⟩ prog_1_method_30_code 5 (some .boolean) ∈ wz := wz_c tq_28_in 8 rfl rfl
theorem wt_681 : Cond.methodLink "StepCourt" 320 ⟨"StepCourt$Proof", "commitment", "()J"⟩ ∈ wz := wz_c tq_28_in 9 rfl rfl
theorem wt_682 : Cond.instanceMethod ⟨"StepCourt$Proof", "commitment", "()J"⟩ ∈ wz := wz_c tq_28_in 10 rfl rfl
theorem wt_683 : Cond.selects "StepCourt$Proof" ⟨"StepCourt$Proof", "commitment", "()J"⟩ ⟨"StepCourt$Proof", "commitment", "()J"⟩ ∈ wz := wz_c tq_28_in 11 rfl rfl
theorem wt_684 : Cond.code ⟨"StepCourt$Proof", "commitment", "()J"⟩ prog_9_method_6_code 5 (some .long) ∈ wz := wz_c tq_28_in 12 rfl rfl
theorem wt_685 : Cond.methodLink "StepCourt$Proof" 70 ⟨"StepCourt$Mixer", "mixLeaf", "(I)J"⟩ ∈ wz := wz_c tq_28_in 13 rfl rfl
theorem wt_686 : Cond.methodLink "StepCourt$Proof" 76 ⟨"StepCourt$Mixer", "mixPair", "(JJ)J"⟩ ∈ wz := wz_c tq_28_in 14 rfl rfl
theorem wt_687 : Cond.methodLink "StepCourt$Proof" 80 ⟨"StepCourt$Machine", "commitmentWith", "(J)J"⟩ ∈ wz := wz_c tq_28_in 15 rfl rfl
theorem wt_688 : Cond.methodLink "StepCourt" 321 ⟨"StepCourt$Proof", "hasPlaceInCode", "()Z"⟩ ∈ wz := wz_c tq_28_in 16 rfl rfl
theorem wt_689 : Cond.instanceMethod ⟨"StepCourt$Proof", "hasPlaceInCode", "()Z"⟩ ∈ wz := wz_c tq_28_in 17 rfl rfl
theorem wt_690 : Cond.selects "StepCourt$Proof" ⟨"StepCourt$Proof", "hasPlaceInCode", "()Z"⟩ ⟨"StepCourt$Proof", "hasPlaceInCode", "()Z"⟩ ∈ wz := wz_c tq_28_in 18 rfl rfl
theorem wt_691 : Cond.code ⟨"StepCourt$Proof", "hasPlaceInCode", "()Z"⟩ prog_9_method_5_code 1 (some .boolean) ∈ wz := wz_c tq_28_in 19 rfl rfl
theorem wt_695 : Cond.methodLink "StepCourtLaw" 44 ⟨"StepCourt", "draw", "(I)I"⟩ ∈ wz := wz_c tq_28_in 23 rfl rfl
theorem wt_696 : Cond.instanceMethod ⟨"StepCourt", "draw", "(I)I"⟩ ∈ wz := wz_c tq_29_in 0 rfl rfl
theorem wt_697 : Cond.selects "StepCourt" ⟨"StepCourt", "draw", "(I)I"⟩ ⟨"StepCourt", "draw", "(I)I"⟩ ∈ wz := wz_c tq_29_in 1 rfl rfl
theorem wt_698 : Cond.code ⟨"StepCourt", "draw", "(I)I"⟩ prog_1_method_11_code 3 (some .int) ∈ wz := wz_c tq_29_in 2 rfl rfl
theorem wt_708 : Cond.methodLink "StepCourtModel" 1 ⟨"java/lang/Object", "<init>", "()V"⟩ ∈ wz := wz_c tq_29_in 12 rfl rfl
theorem wt_709 : Cond.methodLink "StepCourtModel" 72 ⟨"StepCourtModel", "take", "()V"⟩ ∈ wz := wz_c tq_29_in 13 rfl rfl
theorem wt_711 : Cond.instanceMethod ⟨"StepCourtModel", "take", "()V"⟩ ∈ wz := wz_c tq_29_in 15 rfl rfl
theorem wt_712 : Cond.code ⟨"StepCourtModel", "take", "()V"⟩ prog_11_method_6_code 2 none ∈ wz := wz_c tq_29_in 16 rfl rfl
theorem wt_713 : Cond.methodLink "StepCourtModel" 75 ⟨"StepCourtModel", "commitment", "()J"⟩ ∈ wz := wz_c tq_29_in 17 rfl rfl
theorem wt_715 : Cond.instanceMethod ⟨"StepCourtModel", "commitment", "()J"⟩ ∈ wz := wz_c tq_29_in 19 rfl rfl
theorem wt_716 : Cond.code ⟨"StepCourtModel", "commitment", "()J"⟩ prog_11_method_9_code 1 (some .long) ∈ wz := wz_c tq_29_in 20 rfl rfl
theorem wt_717 : Cond.methodLink "StepCourtModel" 108 ⟨"StepCourtModel", "tree", "()V"⟩ ∈ wz := wz_c tq_29_in 21 rfl rfl
theorem wt_719 : Cond.instanceMethod ⟨"StepCourtModel", "tree", "()V"⟩ ∈ wz := wz_c tq_29_in 23 rfl rfl
theorem wt_720 : Cond.code ⟨"StepCourtModel", "tree", "()V"⟩ prog_11_method_8_code 2 none ∈ wz := wz_c tq_30_in 0 rfl rfl
theorem wt_721 : Cond.methodLink "StepCourtModel" 95 ⟨"StepCourtModel", "mix", "(JJ)J"⟩ ∈ wz := wz_c tq_30_in 1 rfl rfl
theorem wt_722 : Cond.static ⟨"StepCourtModel", "mix", "(JJ)J"⟩ ∈ wz := wz_c tq_30_in 2 rfl rfl
theorem wt_723 : Cond.code ⟨"StepCourtModel", "mix", "(JJ)J"⟩ prog_11_method_4_code 6 (some .long) ∈ wz := wz_c tq_30_in 3 rfl rfl
theorem wt_724 : Cond.constantLong "StepCourtModel" 87 (6364136223846793005) ∈ wz := wz_c tq_30_in 4 rfl rfl
theorem wt_725 : Cond.constantLong "StepCourtModel" 89 (3935559000370003845) ∈ wz := wz_c tq_30_in 5 rfl rfl
theorem wt_726 : Cond.constantLong "StepCourtModel" 91 (-7723592293110705685) ∈ wz := wz_c tq_30_in 6 rfl rfl
theorem wt_727 : Cond.methodLink "StepCourtModel" 105 ⟨"StepCourtModel", "pair", "(JJ)J"⟩ ∈ wz := wz_c tq_30_in 7 rfl rfl
theorem wt_728 : Cond.static ⟨"StepCourtModel", "pair", "(JJ)J"⟩ ∈ wz := wz_c tq_30_in 8 rfl rfl
theorem wt_729 : Cond.code ⟨"StepCourtModel", "pair", "(JJ)J"⟩ prog_11_method_5_code 4 (some .long) ∈ wz := wz_c tq_30_in 9 rfl rfl
theorem wt_730 : Cond.constantLong "StepCourtModel" 93 (2) ∈ wz := wz_c tq_30_in 10 rfl rfl
theorem wt_731 : Cond.methodLink "StepCourtModel" 111 ⟨"StepCourtModel", "whole", "(JJJJJJJ)J"⟩ ∈ wz := wz_c tq_30_in 11 rfl rfl
theorem wt_732 : Cond.static ⟨"StepCourtModel", "whole", "(JJJJJJJ)J"⟩ ∈ wz := wz_c tq_30_in 12 rfl rfl
theorem wt_733 : Cond.code ⟨"StepCourtModel", "whole", "(JJJJJJJ)J"⟩ prog_11_method_7_code 16 (some .long) ∈ wz := wz_c tq_30_in 13 rfl rfl
theorem wt_734 : Cond.fieldLink "StepCourtModel" 83 "StepCourtModel" "thrown" "I" ∈ wz := wz_c tq_30_in 14 rfl rfl
theorem wt_735 : Cond.fieldLink "StepCourtModel" 7 "StepCourtModel" "op" "[I" ∈ wz := wz_c tq_30_in 15 rfl rfl
theorem wt_736 : Cond.fieldLink "StepCourtModel" 13 "StepCourtModel" "argument" "[I" ∈ wz := wz_c tq_30_in 16 rfl rfl
theorem wt_737 : Cond.fieldLink "StepCourtModel" 137 "StepCourtModel" "sealed" "Z" ∈ wz := wz_c tq_30_in 17 rfl rfl
theorem wt_738 : Cond.fieldLink "StepCourtModel" 16 "StepCourtModel" "balance" "[I" ∈ wz := wz_c tq_30_in 18 rfl rfl
theorem wt_739 : Cond.fieldLink "StepCourtModel" 147 "StepCourtModel" "pot" "I" ∈ wz := wz_c tq_30_in 19 rfl rfl
theorem wt_740 : Cond.fieldLink "StepCourtModel" 115 "StepCourtModel" "words" "I" ∈ wz := wz_c tq_30_in 20 rfl rfl
theorem wt_741 : Cond.fieldLink "StepCourtModel" 19 "StepCourtModel" "inbox" "[I" ∈ wz := wz_c tq_30_in 21 rfl rfl
theorem wt_742 : Cond.fieldLink "StepCourtModel" 166 "StepCourtModel" "blocks" "I" ∈ wz := wz_c tq_30_in 22 rfl rfl
theorem wt_743 : Cond.fieldLink "StepCourtModel" 22 "StepCourtModel" "real" "[I" ∈ wz := wz_c tq_30_in 23 rfl rfl
theorem wt_744 : Cond.fieldLink "StepCourtModel" 99 "StepCourtModel" "realTrail" "J" ∈ wz := wz_c tq_31_in 0 rfl rfl
theorem wt_745 : Cond.fieldLink "StepCourtModel" 25 "StepCourtModel" "hand" "[I" ∈ wz := wz_c tq_31_in 1 rfl rfl
theorem wt_746 : Cond.fieldLink "StepCourtModel" 102 "StepCourtModel" "handTrail" "J" ∈ wz := wz_c tq_31_in 2 rfl rfl
theorem wt_747 : Cond.fieldLink "StepCourtModel" 28 "StepCourtModel" "payee" "[I" ∈ wz := wz_c tq_31_in 3 rfl rfl
theorem wt_748 : Cond.fieldLink "StepCourtModel" 31 "StepCourtModel" "paid" "[I" ∈ wz := wz_c tq_31_in 4 rfl rfl
theorem wt_749 : Cond.fieldLink "StepCourtModel" 34 "StepCourtModel" "drawn" "[Z" ∈ wz := wz_c tq_31_in 5 rfl rfl
theorem wt_750 : Cond.fieldLink "StepCourtModel" 79 "StepCourtModel" "base" "J" ∈ wz := wz_c tq_31_in 6 rfl rfl
theorem wt_751 : Cond.fieldLink "StepCourtModel" 126 "StepCourtModel" "asserted" "Z" ∈ wz := wz_c tq_31_in 7 rfl rfl
theorem wt_752 : Cond.fieldLink "StepCourtModel" 160 "StepCourtModel" "asserter" "I" ∈ wz := wz_c tq_31_in 8 rfl rfl
theorem wt_753 : Cond.fieldLink "StepCourtModel" 163 "StepCourtModel" "span" "I" ∈ wz := wz_c tq_31_in 9 rfl rfl
theorem wt_754 : Cond.fieldLink "StepCourtModel" 130 "StepCourtModel" "limit" "I" ∈ wz := wz_c tq_31_in 10 rfl rfl
theorem wt_755 : Cond.fieldLink "StepCourtModel" 169 "StepCourtModel" "made" "I" ∈ wz := wz_c tq_31_in 11 rfl rfl
theorem wt_756 : Cond.fieldLink "StepCourtModel" 157 "StepCourtModel" "claim" "J" ∈ wz := wz_c tq_31_in 12 rfl rfl
theorem wt_757 : Cond.fieldLink "StepCourtModel" 172 "StepCourtModel" "games" "I" ∈ wz := wz_c tq_31_in 13 rfl rfl
theorem wt_758 : Cond.fieldLink "StepCourtModel" 38 "StepCourtModel" "challenger" "[I" ∈ wz := wz_c tq_31_in 14 rfl rfl
theorem wt_759 : Cond.fieldLink "StepCourtModel" 41 "StepCourtModel" "low" "[I" ∈ wz := wz_c tq_31_in 15 rfl rfl
theorem wt_760 : Cond.fieldLink "StepCourtModel" 44 "StepCourtModel" "high" "[I" ∈ wz := wz_c tq_31_in 16 rfl rfl
theorem wt_761 : Cond.fieldLink "StepCourtModel" 47 "StepCourtModel" "agreed" "[J" ∈ wz := wz_c tq_31_in 17 rfl rfl
theorem wt_762 : Cond.fieldLink "StepCourtModel" 51 "StepCourtModel" "disputed" "[J" ∈ wz := wz_c tq_31_in 18 rfl rfl
theorem wt_763 : Cond.fieldLink "StepCourtModel" 54 "StepCourtModel" "posted" "[Z" ∈ wz := wz_c tq_31_in 19 rfl rfl
theorem wt_764 : Cond.fieldLink "StepCourtModel" 57 "StepCourtModel" "middle" "[J" ∈ wz := wz_c tq_31_in 20 rfl rfl
theorem wt_765 : Cond.fieldLink "StepCourtModel" 60 "StepCourtModel" "deadline" "[I" ∈ wz := wz_c tq_31_in 21 rfl rfl
theorem wt_766 : Cond.fieldLink "StepCourtModel" 63 "StepCourtModel" "running" "[Z" ∈ wz := wz_c tq_31_in 22 rfl rfl
theorem wt_767 : Cond.fieldLink "StepCourtModel" 66 "StepCourtModel" "node" "[J" ∈ wz := wz_c tq_31_in 23 rfl rfl
theorem wt_768 : Cond.fieldLink "StepCourtModel" 69 "StepCourtModel" "side" "[J" ∈ wz := wz_c tq_32_in 0 rfl rfl
theorem wt_848 : Cond.methodLink "StepCourtModel" 140 ⟨"StepCourtModel", "isParty", "(I)Z"⟩ ∈ wz := wz_c tq_35_in 8 rfl rfl
theorem wt_849 : Cond.static ⟨"StepCourtModel", "isParty", "(I)Z"⟩ ∈ wz := wz_c tq_35_in 9 rfl rfl
theorem wt_850 : Cond.code ⟨"StepCourtModel", "isParty", "(I)Z"⟩ prog_11_method_14_code 1 (some .boolean) ∈ wz := wz_c tq_35_in 10 rfl rfl
theorem wt_851 : Cond.methodLink "StepCourtModel" 144 ⟨"StepCourtModel", "raise", "(I)I"⟩ ∈ wz := wz_c tq_35_in 11 rfl rfl
theorem wt_853 : Cond.instanceMethod ⟨"StepCourtModel", "raise", "(I)I"⟩ ∈ wz := wz_c tq_35_in 13 rfl rfl
theorem wt_854 : Cond.code ⟨"StepCourtModel", "raise", "(I)I"⟩ prog_11_method_3_code 2 (some .int) ∈ wz := wz_c tq_35_in 14 rfl rfl
theorem wt_855 : Cond.methodLink "StepCourtModel" 150 ⟨"StepCourtModel", "push", "(I)V"⟩ ∈ wz := wz_c tq_35_in 15 rfl rfl
theorem wt_857 : Cond.instanceMethod ⟨"StepCourtModel", "push", "(I)V"⟩ ∈ wz := wz_c tq_35_in 17 rfl rfl
theorem wt_858 : Cond.code ⟨"StepCourtModel", "push", "(I)V"⟩ prog_11_method_16_code 2 none ∈ wz := wz_c tq_35_in 18 rfl rfl
theorem wt_867 : Cond.methodLink "StepCourtModel" 153 ⟨"StepCourtModel", "trueCommitment", "(I)J"⟩ ∈ wz := wz_c tq_36_in 3 rfl rfl
theorem wt_869 : Cond.instanceMethod ⟨"StepCourtModel", "trueCommitment", "(I)J"⟩ ∈ wz := wz_c tq_36_in 5 rfl rfl
theorem wt_870 : Cond.code ⟨"StepCourtModel", "trueCommitment", "(I)J"⟩ prog_11_method_13_code 2 (some .long) ∈ wz := wz_c tq_36_in 6 rfl rfl
theorem wt_871 : Cond.methodLink "StepCourtModel" 133 ⟨"StepCourtModel", "after", "(II)V"⟩ ∈ wz := wz_c tq_36_in 7 rfl rfl
theorem wt_873 : Cond.instanceMethod ⟨"StepCourtModel", "after", "(II)V"⟩ ∈ wz := wz_c tq_36_in 9 rfl rfl
theorem wt_874 : Cond.code ⟨"StepCourtModel", "after", "(II)V"⟩ prog_11_method_12_code 4 none ∈ wz := wz_c tq_36_in 10 rfl rfl
theorem wt_875 : Cond.methodLink "StepCourtModel" 122 ⟨"StepCourtModel", "step", "(I)V"⟩ ∈ wz := wz_c tq_36_in 11 rfl rfl
theorem wt_877 : Cond.instanceMethod ⟨"StepCourtModel", "step", "(I)V"⟩ ∈ wz := wz_c tq_36_in 13 rfl rfl
theorem wt_878 : Cond.code ⟨"StepCourtModel", "step", "(I)V"⟩ prog_11_method_11_code 10 none ∈ wz := wz_c tq_36_in 14 rfl rfl
theorem wt_879 : Cond.methodLink "StepCourtModel" 118 ⟨"StepCourtModel", "wordAt", "(I)I"⟩ ∈ wz := wz_c tq_36_in 15 rfl rfl
theorem wt_881 : Cond.instanceMethod ⟨"StepCourtModel", "wordAt", "(I)I"⟩ ∈ wz := wz_c tq_36_in 17 rfl rfl
theorem wt_882 : Cond.code ⟨"StepCourtModel", "wordAt", "(I)I"⟩ prog_11_method_10_code 2 (some .int) ∈ wz := wz_c tq_36_in 18 rfl rfl
theorem wt_891 : Cond.methodLink "StepCourtModel" 185 ⟨"StepCourtModel", "isGame", "(I)Z"⟩ ∈ wz := wz_c tq_37_in 3 rfl rfl
theorem wt_893 : Cond.instanceMethod ⟨"StepCourtModel", "isGame", "(I)Z"⟩ ∈ wz := wz_c tq_37_in 5 rfl rfl
theorem wt_894 : Cond.code ⟨"StepCourtModel", "isGame", "(I)Z"⟩ prog_11_method_27_code 2 (some .boolean) ∈ wz := wz_c tq_37_in 6 rfl rfl
theorem wt_895 : Cond.methodLink "StepCourtModel" 188 ⟨"StepCourtModel", "due", "(I)I"⟩ ∈ wz := wz_c tq_37_in 7 rfl rfl
theorem wt_897 : Cond.instanceMethod ⟨"StepCourtModel", "due", "(I)I"⟩ ∈ wz := wz_c tq_37_in 9 rfl rfl
theorem wt_898 : Cond.code ⟨"StepCourtModel", "due", "(I)I"⟩ prog_11_method_21_code 2 (some .int) ∈ wz := wz_c tq_37_in 10 rfl rfl
theorem wt_907 : Cond.methodLink "StepCourtModel" 195 ⟨"StepCourtModel", "proves", "(III)Z"⟩ ∈ wz := wz_c tq_37_in 19 rfl rfl
theorem wt_909 : Cond.instanceMethod ⟨"StepCourtModel", "proves", "(III)Z"⟩ ∈ wz := wz_c tq_37_in 21 rfl rfl
theorem wt_910 : Cond.code ⟨"StepCourtModel", "proves", "(III)Z"⟩ prog_11_method_31_code 9 (some .boolean) ∈ wz := wz_c tq_37_in 22 rfl rfl
theorem wt_911 : Cond.methodLink "StepCourtModel" 191 ⟨"StepCourtModel", "rootOf", "(JI)J"⟩ ∈ wz := wz_c tq_37_in 23 rfl rfl
theorem wt_913 : Cond.instanceMethod ⟨"StepCourtModel", "rootOf", "(JI)J"⟩ ∈ wz := wz_c tq_38_in 1 rfl rfl
theorem wt_914 : Cond.code ⟨"StepCourtModel", "rootOf", "(JI)J"⟩ prog_11_method_30_code 7 (some .long) ∈ wz := wz_c tq_38_in 2 rfl rfl
theorem wt_915 : Cond.methodLink "StepCourtModel" 199 ⟨"StepCourtModel", "keep", "(I)V"⟩ ∈ wz := wz_c tq_38_in 3 rfl rfl
theorem wt_917 : Cond.instanceMethod ⟨"StepCourtModel", "keep", "(I)V"⟩ ∈ wz := wz_c tq_38_in 5 rfl rfl
theorem wt_918 : Cond.code ⟨"StepCourtModel", "keep", "(I)V"⟩ prog_11_method_25_code 2 none ∈ wz := wz_c tq_38_in 6 rfl rfl
theorem wt_919 : Cond.methodLink "StepCourtModel" 178 ⟨"StepCourtModel", "settle", "()V"⟩ ∈ wz := wz_c tq_38_in 7 rfl rfl
theorem wt_921 : Cond.instanceMethod ⟨"StepCourtModel", "settle", "()V"⟩ ∈ wz := wz_c tq_38_in 9 rfl rfl
theorem wt_922 : Cond.code ⟨"StepCourtModel", "settle", "()V"⟩ prog_11_method_26_code 5 none ∈ wz := wz_c tq_38_in 10 rfl rfl
theorem wt_923 : Cond.methodLink "StepCourtModel" 181 ⟨"StepCourtModel", "runningGames", "()I"⟩ ∈ wz := wz_c tq_38_in 11 rfl rfl
theorem wt_925 : Cond.instanceMethod ⟨"StepCourtModel", "runningGames", "()I"⟩ ∈ wz := wz_c tq_38_in 13 rfl rfl
theorem wt_926 : Cond.code ⟨"StepCourtModel", "runningGames", "()I"⟩ prog_11_method_22_code 3 (some .int) ∈ wz := wz_c tq_38_in 14 rfl rfl
theorem wt_927 : Cond.methodLink "StepCourtModel" 175 ⟨"StepCourtModel", "noAssertion", "()V"⟩ ∈ wz := wz_c tq_38_in 15 rfl rfl
theorem wt_929 : Cond.instanceMethod ⟨"StepCourtModel", "noAssertion", "()V"⟩ ∈ wz := wz_c tq_38_in 17 rfl rfl
theorem wt_930 : Cond.code ⟨"StepCourtModel", "noAssertion", "()V"⟩ prog_11_method_23_code 1 none ∈ wz := wz_c tq_38_in 18 rfl rfl
theorem wt_935 : Cond.methodLink "StepCourtModel" 202 ⟨"StepCourtModel", "fall", "(I)V"⟩ ∈ wz := wz_c tq_38_in 23 rfl rfl
theorem wt_937 : Cond.instanceMethod ⟨"StepCourtModel", "fall", "(I)V"⟩ ∈ wz := wz_c tq_39_in 1 rfl rfl
theorem wt_938 : Cond.code ⟨"StepCourtModel", "fall", "(I)V"⟩ prog_11_method_24_code 3 none ∈ wz := wz_c tq_39_in 2 rfl rfl
theorem wt_943 : Cond.methodLink "StepCourtModel" 205 ⟨"StepCourtModel", "realCommitment", "()J"⟩ ∈ wz := wz_c tq_39_in 7 rfl rfl
theorem wt_945 : Cond.instanceMethod ⟨"StepCourtModel", "realCommitment", "()J"⟩ ∈ wz := wz_c tq_39_in 9 rfl rfl
theorem wt_946 : Cond.code ⟨"StepCourtModel", "realCommitment", "()J"⟩ prog_11_method_34_code 1 (some .long) ∈ wz := wz_c tq_39_in 10 rfl rfl
theorem wt_975 : Cond.constantLong "StepCourtModel" 208 (-1) ∈ wz := wz_c tq_40_in 15 rfl rfl
theorem inAs : ∀ w ∈ u_ws "StepCourt$Assertion" TAs 7, w ∈ wz := fun w h => by
  obtain ⟨k, hk, rfl⟩ := List.mem_map.mp h
  have hk := List.mem_range.mp hk
  rcases (show k = 0 ∨ k = 1 ∨ k = 2 ∨ k = 3 ∨ k = 4 ∨ k = 5 ∨ k = 6 by omega) with rfl | rfl | rfl | rfl | rfl | rfl | rfl
  · exact wz_c tq_7_in 2 rfl rfl
  · exact wz_c tq_7_in 4 rfl rfl
  · exact wz_c tq_7_in 6 rfl rfl
  · exact wz_c tq_7_in 8 rfl rfl
  · exact wz_c tq_7_in 10 rfl rfl
  · exact wz_c tq_7_in 12 rfl rfl
  · exact wz_c tq_7_in 14 rfl rfl
theorem inCo : ∀ w ∈ u_ws "StepCourt$Code" TCo 2, w ∈ wz := fun w h => by
  obtain ⟨k, hk, rfl⟩ := List.mem_map.mp h
  have hk := List.mem_range.mp hk
  rcases (show k = 0 ∨ k = 1 by omega) with rfl | rfl
  · exact wz_c tq_1_in 15 rfl rfl
  · exact wz_c tq_1_in 17 rfl rfl
theorem inGa : ∀ w ∈ u_ws "StepCourt$Game" TGa 9, w ∈ wz := fun w h => by
  obtain ⟨k, hk, rfl⟩ := List.mem_map.mp h
  have hk := List.mem_range.mp hk
  rcases (show k = 0 ∨ k = 1 ∨ k = 2 ∨ k = 3 ∨ k = 4 ∨ k = 5 ∨ k = 6 ∨ k = 7 ∨ k = 8 by omega) with rfl | rfl | rfl | rfl | rfl | rfl | rfl | rfl | rfl
  · exact wz_c tq_8_in 17 rfl rfl
  · exact wz_c tq_8_in 19 rfl rfl
  · exact wz_c tq_8_in 21 rfl rfl
  · exact wz_c tq_8_in 23 rfl rfl
  · exact wz_c tq_9_in 1 rfl rfl
  · exact wz_c tq_9_in 3 rfl rfl
  · exact wz_c tq_9_in 5 rfl rfl
  · exact wz_c tq_9_in 7 rfl rfl
  · exact wz_c tq_9_in 9 rfl rfl
theorem inIn : ∀ w ∈ u_ws "StepCourt$Inbox" TIn 2, w ∈ wz := fun w h => by
  obtain ⟨k, hk, rfl⟩ := List.mem_map.mp h
  have hk := List.mem_range.mp hk
  rcases (show k = 0 ∨ k = 1 by omega) with rfl | rfl
  · exact wz_c tq_2_in 6 rfl rfl
  · exact wz_c tq_2_in 8 rfl rfl
theorem inMa : ∀ w ∈ u_ws "StepCourt$Machine" TMa 8, w ∈ wz := fun w h => by
  obtain ⟨k, hk, rfl⟩ := List.mem_map.mp h
  have hk := List.mem_range.mp hk
  rcases (show k = 0 ∨ k = 1 ∨ k = 2 ∨ k = 3 ∨ k = 4 ∨ k = 5 ∨ k = 6 ∨ k = 7 by omega) with rfl | rfl | rfl | rfl | rfl | rfl | rfl | rfl
  · exact wz_c tq_3_in 15 rfl rfl
  · exact wz_c tq_3_in 17 rfl rfl
  · exact wz_c tq_3_in 19 rfl rfl
  · exact wz_c tq_3_in 21 rfl rfl
  · exact wz_c tq_3_in 23 rfl rfl
  · exact wz_c tq_4_in 1 rfl rfl
  · exact wz_c tq_4_in 3 rfl rfl
  · exact wz_c tq_4_in 5 rfl rfl
theorem inPa : ∀ w ∈ u_ws "StepCourt$Payments" TPa 4, w ∈ wz := fun w h => by
  obtain ⟨k, hk, rfl⟩ := List.mem_map.mp h
  have hk := List.mem_range.mp hk
  rcases (show k = 0 ∨ k = 1 ∨ k = 2 ∨ k = 3 by omega) with rfl | rfl | rfl | rfl
  · exact wz_c tq_4_in 23 rfl rfl
  · exact wz_c tq_5_in 1 rfl rfl
  · exact wz_c tq_5_in 3 rfl rfl
  · exact wz_c tq_5_in 5 rfl rfl
theorem inPr : ∀ w ∈ u_ws "StepCourt$Proof" TPr 4, w ∈ wz := fun w h => by
  obtain ⟨k, hk, rfl⟩ := List.mem_map.mp h
  have hk := List.mem_range.mp hk
  rcases (show k = 0 ∨ k = 1 ∨ k = 2 ∨ k = 3 by omega) with rfl | rfl | rfl | rfl
  · exact wz_c tq_5_in 22 rfl rfl
  · exact wz_c tq_6_in 0 rfl rfl
  · exact wz_c tq_6_in 2 rfl rfl
  · exact wz_c tq_6_in 4 rfl rfl
theorem inSc : ∀ w ∈ u_ws "StepCourt" TSc 13, w ∈ wz := fun w h => by
  obtain ⟨k, hk, rfl⟩ := List.mem_map.mp h
  have hk := List.mem_range.mp hk
  rcases (show k = 0 ∨ k = 1 ∨ k = 2 ∨ k = 3 ∨ k = 4 ∨ k = 5 ∨ k = 6 ∨ k = 7 ∨ k = 8 ∨ k = 9 ∨ k = 10 ∨ k = 11 ∨ k = 12 by omega) with rfl | rfl | rfl | rfl | rfl | rfl | rfl | rfl | rfl | rfl | rfl | rfl | rfl
  · exact wz_c tq_11_in 3 rfl rfl
  · exact wz_c tq_11_in 5 rfl rfl
  · exact wz_c tq_11_in 7 rfl rfl
  · exact wz_c tq_11_in 9 rfl rfl
  · exact wz_c tq_11_in 11 rfl rfl
  · exact wz_c tq_11_in 13 rfl rfl
  · exact wz_c tq_11_in 15 rfl rfl
  · exact wz_c tq_11_in 17 rfl rfl
  · exact wz_c tq_11_in 19 rfl rfl
  · exact wz_c tq_11_in 21 rfl rfl
  · exact wz_c tq_11_in 23 rfl rfl
  · exact wz_c tq_12_in 1 rfl rfl
  · exact wz_c tq_12_in 3 rfl rfl
theorem inMo : ∀ w ∈ u_ws "StepCourtModel" TMo 35, w ∈ wz := fun w h => by
  obtain ⟨k, hk, rfl⟩ := List.mem_map.mp h
  have hk := List.mem_range.mp hk
  rcases (show k = 0 ∨ k = 1 ∨ k = 2 ∨ k = 3 ∨ k = 4 ∨ k = 5 ∨ k = 6 ∨ k = 7 ∨ k = 8 ∨ k = 9 ∨ k = 10 ∨ k = 11 ∨ k = 12 ∨ k = 13 ∨ k = 14 ∨ k = 15 ∨ k = 16 ∨ k = 17 ∨ k = 18 ∨ k = 19 ∨ k = 20 ∨ k = 21 ∨ k = 22 ∨ k = 23 ∨ k = 24 ∨ k = 25 ∨ k = 26 ∨ k = 27 ∨ k = 28 ∨ k = 29 ∨ k = 30 ∨ k = 31 ∨ k = 32 ∨ k = 33 ∨ k = 34 by omega) with rfl | rfl | rfl | rfl | rfl | rfl | rfl | rfl | rfl | rfl | rfl | rfl | rfl | rfl | rfl | rfl | rfl | rfl | rfl | rfl | rfl | rfl | rfl | rfl | rfl | rfl | rfl | rfl | rfl | rfl | rfl | rfl | rfl | rfl | rfl
  · exact wz_c tq_32_in 1 rfl rfl
  · exact wz_c tq_32_in 3 rfl rfl
  · exact wz_c tq_32_in 5 rfl rfl
  · exact wz_c tq_32_in 7 rfl rfl
  · exact wz_c tq_32_in 9 rfl rfl
  · exact wz_c tq_32_in 11 rfl rfl
  · exact wz_c tq_32_in 13 rfl rfl
  · exact wz_c tq_32_in 15 rfl rfl
  · exact wz_c tq_32_in 17 rfl rfl
  · exact wz_c tq_32_in 19 rfl rfl
  · exact wz_c tq_32_in 21 rfl rfl
  · exact wz_c tq_32_in 23 rfl rfl
  · exact wz_c tq_33_in 1 rfl rfl
  · exact wz_c tq_33_in 3 rfl rfl
  · exact wz_c tq_33_in 5 rfl rfl
  · exact wz_c tq_33_in 7 rfl rfl
  · exact wz_c tq_33_in 9 rfl rfl
  · exact wz_c tq_33_in 11 rfl rfl
  · exact wz_c tq_33_in 13 rfl rfl
  · exact wz_c tq_33_in 15 rfl rfl
  · exact wz_c tq_33_in 17 rfl rfl
  · exact wz_c tq_33_in 19 rfl rfl
  · exact wz_c tq_33_in 21 rfl rfl
  · exact wz_c tq_33_in 23 rfl rfl
  · exact wz_c tq_34_in 1 rfl rfl
  · exact wz_c tq_34_in 3 rfl rfl
  · exact wz_c tq_34_in 5 rfl rfl
  · exact wz_c tq_34_in 7 rfl rfl
  · exact wz_c tq_34_in 9 rfl rfl
  · exact wz_c tq_34_in 11 rfl rfl
  · exact wz_c tq_34_in 13 rfl rfl
  · exact wz_c tq_34_in 15 rfl rfl
  · exact wz_c tq_34_in 17 rfl rfl
  · exact wz_c tq_34_in 19 rfl rfl
  · exact wz_c tq_34_in 21 rfl rfl
abbrev wsSc_init : List Cond := Cond.code ⟨"StepCourt", "<init>", "()V"⟩ cSc_init 2 none :: wz
theorem hd_Sc_init : ySc_init.cls ≠ "java/lang/invoke/MethodHandle" ∧ ySc_init.cls ≠ "java/lang/invoke/VarHandle" ∧ (parseMethodDescriptor ySc_init.desc).map (fun d => d.parameters.length) = some 0 := by decide +kernel
abbrev wsCo_init : List Cond := Cond.code ⟨"StepCourt$Code", "<init>", "()V"⟩ cCo_init 1 none :: wz
theorem hd_Co_init : yCo_init.cls ≠ "java/lang/invoke/MethodHandle" ∧ yCo_init.cls ≠ "java/lang/invoke/VarHandle" ∧ (parseMethodDescriptor yCo_init.desc).map (fun d => d.parameters.length) = some 0 := by decide +kernel
abbrev wsIn_init : List Cond := Cond.code ⟨"StepCourt$Inbox", "<init>", "()V"⟩ cIn_init 1 none :: wz
theorem hd_In_init : yIn_init.cls ≠ "java/lang/invoke/MethodHandle" ∧ yIn_init.cls ≠ "java/lang/invoke/VarHandle" ∧ (parseMethodDescriptor yIn_init.desc).map (fun d => d.parameters.length) = some 0 := by decide +kernel
abbrev wsMa_init : List Cond := Cond.code ⟨"StepCourt$Machine", "<init>", "()V"⟩ cMa_init 1 none :: wz
theorem hd_Ma_init : yMa_init.cls ≠ "java/lang/invoke/MethodHandle" ∧ yMa_init.cls ≠ "java/lang/invoke/VarHandle" ∧ (parseMethodDescriptor yMa_init.desc).map (fun d => d.parameters.length) = some 0 := by decide +kernel
abbrev wsPa_init : List Cond := Cond.code ⟨"StepCourt$Payments", "<init>", "()V"⟩ cPa_init 1 none :: wz
theorem hd_Pa_init : yPa_init.cls ≠ "java/lang/invoke/MethodHandle" ∧ yPa_init.cls ≠ "java/lang/invoke/VarHandle" ∧ (parseMethodDescriptor yPa_init.desc).map (fun d => d.parameters.length) = some 0 := by decide +kernel
abbrev wsPr_init : List Cond := Cond.code ⟨"StepCourt$Proof", "<init>", "()V"⟩ cPr_init 1 none :: wz
theorem hd_Pr_init : yPr_init.cls ≠ "java/lang/invoke/MethodHandle" ∧ yPr_init.cls ≠ "java/lang/invoke/VarHandle" ∧ (parseMethodDescriptor yPr_init.desc).map (fun d => d.parameters.length) = some 0 := by decide +kernel
abbrev wsAs_init : List Cond := Cond.code ⟨"StepCourt$Assertion", "<init>", "()V"⟩ cAs_init 1 none :: wz
theorem hd_As_init : yAs_init.cls ≠ "java/lang/invoke/MethodHandle" ∧ yAs_init.cls ≠ "java/lang/invoke/VarHandle" ∧ (parseMethodDescriptor yAs_init.desc).map (fun d => d.parameters.length) = some 0 := by decide +kernel
abbrev wsGa_init : List Cond := Cond.code ⟨"StepCourt$Game", "<init>", "()V"⟩ cGa_init 1 none :: wz
theorem hd_Ga_init : yGa_init.cls ≠ "java/lang/invoke/MethodHandle" ∧ yGa_init.cls ≠ "java/lang/invoke/VarHandle" ∧ (parseMethodDescriptor yGa_init.desc).map (fun d => d.parameters.length) = some 0 := by decide +kernel
abbrev wsMa_commitment : List Cond := Cond.code ⟨"StepCourt$Machine", "commitment", "()J"⟩ cMa_commitment 1 (some .long) :: wz
theorem hd_Ma_commitment : yMa_commitment.cls ≠ "java/lang/invoke/MethodHandle" ∧ yMa_commitment.cls ≠ "java/lang/invoke/VarHandle" ∧ (parseMethodDescriptor yMa_commitment.desc).map (fun d => d.parameters.length) = some 0 := by decide +kernel
abbrev wsMa_growTree : List Cond := Cond.code ⟨"StepCourt$Machine", "growTree", "()V"⟩ cMa_growTree 2 none :: wz
theorem hd_Ma_growTree : yMa_growTree.cls ≠ "java/lang/invoke/MethodHandle" ∧ yMa_growTree.cls ≠ "java/lang/invoke/VarHandle" ∧ (parseMethodDescriptor yMa_growTree.desc).map (fun d => d.parameters.length) = some 0 := by decide +kernel
abbrev wsMi_mixLeaf : List Cond := Cond.code ⟨"StepCourt$Mixer", "mixLeaf", "(I)J"⟩ cMi_mixLeaf 1 (some .long) :: wz
theorem hd_Mi_mixLeaf : yMi_mixLeaf.cls ≠ "java/lang/invoke/MethodHandle" ∧ yMi_mixLeaf.cls ≠ "java/lang/invoke/VarHandle" ∧ (parseMethodDescriptor yMi_mixLeaf.desc).map (fun d => d.parameters.length) = some 1 := by decide +kernel
abbrev wsMi_mix : List Cond := Cond.code ⟨"StepCourt$Mixer", "mix", "(JJ)J"⟩ cMi_mix 6 (some .long) :: wz
theorem hd_Mi_mix : yMi_mix.cls ≠ "java/lang/invoke/MethodHandle" ∧ yMi_mix.cls ≠ "java/lang/invoke/VarHandle" ∧ (parseMethodDescriptor yMi_mix.desc).map (fun d => d.parameters.length) = some 2 := by decide +kernel
abbrev wsMi_mixPair : List Cond := Cond.code ⟨"StepCourt$Mixer", "mixPair", "(JJ)J"⟩ cMi_mixPair 4 (some .long) :: wz
theorem hd_Mi_mixPair : yMi_mixPair.cls ≠ "java/lang/invoke/MethodHandle" ∧ yMi_mixPair.cls ≠ "java/lang/invoke/VarHandle" ∧ (parseMethodDescriptor yMi_mixPair.desc).map (fun d => d.parameters.length) = some 2 := by decide +kernel
abbrev wsMa_commitmentWith : List Cond := Cond.code ⟨"StepCourt$Machine", "commitmentWith", "(J)J"⟩ cMa_commitmentWith 5 (some .long) :: wz
theorem hd_Ma_commitmentWith : yMa_commitmentWith.cls ≠ "java/lang/invoke/MethodHandle" ∧ yMa_commitmentWith.cls ≠ "java/lang/invoke/VarHandle" ∧ (parseMethodDescriptor yMa_commitmentWith.desc).map (fun d => d.parameters.length) = some 1 := by decide +kernel
abbrev wsSc_code : List Cond := Cond.code ⟨"StepCourt", "code", "(III)Z"⟩ cSc_code 4 (some .boolean) :: wz
theorem hd_Sc_code : ySc_code.cls ≠ "java/lang/invoke/MethodHandle" ∧ ySc_code.cls ≠ "java/lang/invoke/VarHandle" ∧ (parseMethodDescriptor ySc_code.desc).map (fun d => d.parameters.length) = some 3 := by decide +kernel
abbrev wsSc_block : List Cond := Cond.code ⟨"StepCourt", "block", "()I"⟩ cSc_block 1 (some .int) :: wz
theorem hd_Sc_block : ySc_block.cls ≠ "java/lang/invoke/MethodHandle" ∧ ySc_block.cls ≠ "java/lang/invoke/VarHandle" ∧ (parseMethodDescriptor ySc_block.desc).map (fun d => d.parameters.length) = some 0 := by decide +kernel
abbrev wsSc_endLateGames : List Cond := Cond.code ⟨"StepCourt", "endLateGames", "()V"⟩ cSc_endLateGames 3 none :: wz
theorem hd_Sc_endLateGames : ySc_endLateGames.cls ≠ "java/lang/invoke/MethodHandle" ∧ ySc_endLateGames.cls ≠ "java/lang/invoke/VarHandle" ∧ (parseMethodDescriptor ySc_endLateGames.desc).map (fun d => d.parameters.length) = some 0 := by decide +kernel
abbrev wsGa_duty : List Cond := Cond.code ⟨"StepCourt$Game", "duty", "()I"⟩ cGa_duty 1 (some .int) :: wz
theorem hd_Ga_duty : yGa_duty.cls ≠ "java/lang/invoke/MethodHandle" ∧ yGa_duty.cls ≠ "java/lang/invoke/VarHandle" ∧ (parseMethodDescriptor yGa_duty.desc).map (fun d => d.parameters.length) = some 0 := by decide +kernel
abbrev wsSc_challengerWins : List Cond := Cond.code ⟨"StepCourt", "challengerWins", "(LStepCourt$Game;)V"⟩ cSc_challengerWins 3 none :: wz
theorem hd_Sc_challengerWins : ySc_challengerWins.cls ≠ "java/lang/invoke/MethodHandle" ∧ ySc_challengerWins.cls ≠ "java/lang/invoke/VarHandle" ∧ (parseMethodDescriptor ySc_challengerWins.desc).map (fun d => d.parameters.length) = some 1 := by decide +kernel
abbrev wsSc_pay : List Cond := Cond.code ⟨"StepCourt", "pay", "(II)V"⟩ cSc_pay 3 none :: wz
theorem hd_Sc_pay : ySc_pay.cls ≠ "java/lang/invoke/MethodHandle" ∧ ySc_pay.cls ≠ "java/lang/invoke/VarHandle" ∧ (parseMethodDescriptor ySc_pay.desc).map (fun d => d.parameters.length) = some 2 := by decide +kernel
abbrev wsSc_isParty : List Cond := Cond.code ⟨"StepCourt", "isParty", "(I)Z"⟩ cSc_isParty 1 (some .boolean) :: wz
theorem hd_Sc_isParty : ySc_isParty.cls ≠ "java/lang/invoke/MethodHandle" ∧ ySc_isParty.cls ≠ "java/lang/invoke/VarHandle" ∧ (parseMethodDescriptor ySc_isParty.desc).map (fun d => d.parameters.length) = some 1 := by decide +kernel
abbrev wsSc_closeAssertion : List Cond := Cond.code ⟨"StepCourt", "closeAssertion", "()V"⟩ cSc_closeAssertion 1 none :: wz
theorem hd_Sc_closeAssertion : ySc_closeAssertion.cls ≠ "java/lang/invoke/MethodHandle" ∧ ySc_closeAssertion.cls ≠ "java/lang/invoke/VarHandle" ∧ (parseMethodDescriptor ySc_closeAssertion.desc).map (fun d => d.parameters.length) = some 0 := by decide +kernel
abbrev wsSc_asserterWins : List Cond := Cond.code ⟨"StepCourt", "asserterWins", "(LStepCourt$Game;)V"⟩ cSc_asserterWins 2 none :: wz
theorem hd_Sc_asserterWins : ySc_asserterWins.cls ≠ "java/lang/invoke/MethodHandle" ∧ ySc_asserterWins.cls ≠ "java/lang/invoke/VarHandle" ∧ (parseMethodDescriptor ySc_asserterWins.desc).map (fun d => d.parameters.length) = some 1 := by decide +kernel
abbrev wsSc_standIfDue : List Cond := Cond.code ⟨"StepCourt", "standIfDue", "()V"⟩ cSc_standIfDue 1 none :: wz
theorem hd_Sc_standIfDue : ySc_standIfDue.cls ≠ "java/lang/invoke/MethodHandle" ∧ ySc_standIfDue.cls ≠ "java/lang/invoke/VarHandle" ∧ (parseMethodDescriptor ySc_standIfDue.desc).map (fun d => d.parameters.length) = some 0 := by decide +kernel
abbrev wsSc_countRunning : List Cond := Cond.code ⟨"StepCourt", "countRunning", "()I"⟩ cSc_countRunning 3 (some .int) :: wz
theorem hd_Sc_countRunning : ySc_countRunning.cls ≠ "java/lang/invoke/MethodHandle" ∧ ySc_countRunning.cls ≠ "java/lang/invoke/VarHandle" ∧ (parseMethodDescriptor ySc_countRunning.desc).map (fun d => d.parameters.length) = some 0 := by decide +kernel
abbrev wsSc_moveTrueState : List Cond := Cond.code ⟨"StepCourt", "moveTrueState", "()V"⟩ cSc_moveTrueState 3 none :: wz
theorem hd_Sc_moveTrueState : ySc_moveTrueState.cls ≠ "java/lang/invoke/MethodHandle" ∧ ySc_moveTrueState.cls ≠ "java/lang/invoke/VarHandle" ∧ (parseMethodDescriptor ySc_moveTrueState.desc).map (fun d => d.parameters.length) = some 0 := by decide +kernel
abbrev wsMa_step : List Cond := Cond.code ⟨"StepCourt$Machine", "step", "(LStepCourt$Code;LStepCourt$Inbox;I)V"⟩ cMa_step 8 none :: wz
theorem hd_Ma_step : yMa_step.cls ≠ "java/lang/invoke/MethodHandle" ∧ yMa_step.cls ≠ "java/lang/invoke/VarHandle" ∧ (parseMethodDescriptor yMa_step.desc).map (fun d => d.parameters.length) = some 3 := by decide +kernel
abbrev wsMa_exchange : List Cond := Cond.code ⟨"StepCourt$Machine", "exchange", "()V"⟩ cMa_exchange 2 none :: wz
theorem hd_Ma_exchange : yMa_exchange.cls ≠ "java/lang/invoke/MethodHandle" ∧ yMa_exchange.cls ≠ "java/lang/invoke/VarHandle" ∧ (parseMethodDescriptor yMa_exchange.desc).map (fun d => d.parameters.length) = some 0 := by decide +kernel
abbrev wsMa_cellPlace : List Cond := Cond.code ⟨"StepCourt$Machine", "cellPlace", "()I"⟩ cMa_cellPlace 1 (some .int) :: wz
theorem hd_Ma_cellPlace : yMa_cellPlace.cls ≠ "java/lang/invoke/MethodHandle" ∧ yMa_cellPlace.cls ≠ "java/lang/invoke/VarHandle" ∧ (parseMethodDescriptor yMa_cellPlace.desc).map (fun d => d.parameters.length) = some 0 := by decide +kernel
abbrev wsMa_takeWord : List Cond := Cond.code ⟨"StepCourt$Machine", "takeWord", "(LStepCourt$Inbox;I)Z"⟩ cMa_takeWord 3 (some .boolean) :: wz
theorem hd_Ma_takeWord : yMa_takeWord.cls ≠ "java/lang/invoke/MethodHandle" ∧ yMa_takeWord.cls ≠ "java/lang/invoke/VarHandle" ∧ (parseMethodDescriptor yMa_takeWord.desc).map (fun d => d.parameters.length) = some 2 := by decide +kernel
abbrev wsIn_at : List Cond := Cond.code ⟨"StepCourt$Inbox", "at", "(I)I"⟩ cIn_at 2 (some .int) :: wz
theorem hd_In_at : yIn_at.cls ≠ "java/lang/invoke/MethodHandle" ∧ yIn_at.cls ≠ "java/lang/invoke/VarHandle" ∧ (parseMethodDescriptor yIn_at.desc).map (fun d => d.parameters.length) = some 1 := by decide +kernel
abbrev wsMa_makePayment : List Cond := Cond.code ⟨"StepCourt$Machine", "makePayment", "()Z"⟩ cMa_makePayment 1 (some .boolean) :: wz
theorem hd_Ma_makePayment : yMa_makePayment.cls ≠ "java/lang/invoke/MethodHandle" ∧ yMa_makePayment.cls ≠ "java/lang/invoke/VarHandle" ∧ (parseMethodDescriptor yMa_makePayment.desc).map (fun d => d.parameters.length) = some 0 := by decide +kernel
abbrev wsMa_receiver : List Cond := Cond.code ⟨"StepCourt$Machine", "receiver", "()I"⟩ cMa_receiver 1 (some .int) :: wz
theorem hd_Ma_receiver : yMa_receiver.cls ≠ "java/lang/invoke/MethodHandle" ∧ yMa_receiver.cls ≠ "java/lang/invoke/VarHandle" ∧ (parseMethodDescriptor yMa_receiver.desc).map (fun d => d.parameters.length) = some 0 := by decide +kernel
abbrev wsPa_add : List Cond := Cond.code ⟨"StepCourt$Payments", "add", "(II)V"⟩ cPa_add 3 none :: wz
theorem hd_Pa_add : yPa_add.cls ≠ "java/lang/invoke/MethodHandle" ∧ yPa_add.cls ≠ "java/lang/invoke/VarHandle" ∧ (parseMethodDescriptor yPa_add.desc).map (fun d => d.parameters.length) = some 2 := by decide +kernel
abbrev wsSc_balance : List Cond := Cond.code ⟨"StepCourt", "balance", "(I)I"⟩ cSc_balance 2 (some .int) :: wz
theorem hd_Sc_balance : ySc_balance.cls ≠ "java/lang/invoke/MethodHandle" ∧ ySc_balance.cls ≠ "java/lang/invoke/VarHandle" ∧ (parseMethodDescriptor ySc_balance.desc).map (fun d => d.parameters.length) = some 1 := by decide +kernel
abbrev wsSc_pot : List Cond := Cond.code ⟨"StepCourt", "pot", "()I"⟩ cSc_pot 1 (some .int) :: wz
theorem hd_Sc_pot : ySc_pot.cls ≠ "java/lang/invoke/MethodHandle" ∧ ySc_pot.cls ≠ "java/lang/invoke/VarHandle" ∧ (parseMethodDescriptor ySc_pot.desc).map (fun d => d.parameters.length) = some 0 := by decide +kernel
abbrev wsSc_word : List Cond := Cond.code ⟨"StepCourt", "word", "(I)I"⟩ cSc_word 2 (some .int) :: wz
theorem hd_Sc_word : ySc_word.cls ≠ "java/lang/invoke/MethodHandle" ∧ ySc_word.cls ≠ "java/lang/invoke/VarHandle" ∧ (parseMethodDescriptor ySc_word.desc).map (fun d => d.parameters.length) = some 1 := by decide +kernel
abbrev wsSc_truth : List Cond := Cond.code ⟨"StepCourt", "truth", "(I)J"⟩ cSc_truth 2 (some .long) :: wz
theorem hd_Sc_truth : ySc_truth.cls ≠ "java/lang/invoke/MethodHandle" ∧ ySc_truth.cls ≠ "java/lang/invoke/VarHandle" ∧ (parseMethodDescriptor ySc_truth.desc).map (fun d => d.parameters.length) = some 1 := by decide +kernel
abbrev wsSc_trueCommitment : List Cond := Cond.code ⟨"StepCourt", "trueCommitment", "(I)J"⟩ cSc_trueCommitment 2 (some .long) :: wz
theorem hd_Sc_trueCommitment : ySc_trueCommitment.cls ≠ "java/lang/invoke/MethodHandle" ∧ ySc_trueCommitment.cls ≠ "java/lang/invoke/VarHandle" ∧ (parseMethodDescriptor ySc_trueCommitment.desc).map (fun d => d.parameters.length) = some 1 := by decide +kernel
abbrev wsSc_runScratch : List Cond := Cond.code ⟨"StepCourt", "runScratch", "(II)V"⟩ cSc_runScratch 4 none :: wz
theorem hd_Sc_runScratch : ySc_runScratch.cls ≠ "java/lang/invoke/MethodHandle" ∧ ySc_runScratch.cls ≠ "java/lang/invoke/VarHandle" ∧ (parseMethodDescriptor ySc_runScratch.desc).map (fun d => d.parameters.length) = some 2 := by decide +kernel
abbrev wsMa_copyFrom : List Cond := Cond.code ⟨"StepCourt$Machine", "copyFrom", "(LStepCourt$Machine;)V"⟩ cMa_copyFrom 2 none :: wz
theorem hd_Ma_copyFrom : yMa_copyFrom.cls ≠ "java/lang/invoke/MethodHandle" ∧ yMa_copyFrom.cls ≠ "java/lang/invoke/VarHandle" ∧ (parseMethodDescriptor yMa_copyFrom.desc).map (fun d => d.parameters.length) = some 1 := by decide +kernel
abbrev wsSc_base : List Cond := Cond.code ⟨"StepCourt", "base", "()J"⟩ cSc_base 1 (some .long) :: wz
theorem hd_Sc_base : ySc_base.cls ≠ "java/lang/invoke/MethodHandle" ∧ ySc_base.cls ≠ "java/lang/invoke/VarHandle" ∧ (parseMethodDescriptor ySc_base.desc).map (fun d => d.parameters.length) = some 0 := by decide +kernel
abbrev wsSc_state : List Cond := Cond.code ⟨"StepCourt", "state", "(I)J"⟩ cSc_state 2 (some .long) :: wz
theorem hd_Sc_state : ySc_state.cls ≠ "java/lang/invoke/MethodHandle" ∧ ySc_state.cls ≠ "java/lang/invoke/VarHandle" ∧ (parseMethodDescriptor ySc_state.desc).map (fun d => d.parameters.length) = some 1 := by decide +kernel
abbrev wsMa_cellOrZero : List Cond := Cond.code ⟨"StepCourt$Machine", "cellOrZero", "(J)J"⟩ cMa_cellOrZero 3 (some .long) :: wz
theorem hd_Ma_cellOrZero : yMa_cellOrZero.cls ≠ "java/lang/invoke/MethodHandle" ∧ yMa_cellOrZero.cls ≠ "java/lang/invoke/VarHandle" ∧ (parseMethodDescriptor yMa_cellOrZero.desc).map (fun d => d.parameters.length) = some 1 := by decide +kernel
abbrev wsSc_assertion : List Cond := Cond.code ⟨"StepCourt", "assertion", "(I)J"⟩ cSc_assertion 2 (some .long) :: wz
theorem hd_Sc_assertion : ySc_assertion.cls ≠ "java/lang/invoke/MethodHandle" ∧ ySc_assertion.cls ≠ "java/lang/invoke/VarHandle" ∧ (parseMethodDescriptor ySc_assertion.desc).map (fun d => d.parameters.length) = some 1 := by decide +kernel
abbrev wsSc_game : List Cond := Cond.code ⟨"StepCourt", "game", "(II)J"⟩ cSc_game 4 (some .long) :: wz
theorem hd_Sc_game : ySc_game.cls ≠ "java/lang/invoke/MethodHandle" ∧ ySc_game.cls ≠ "java/lang/invoke/VarHandle" ∧ (parseMethodDescriptor ySc_game.desc).map (fun d => d.parameters.length) = some 2 := by decide +kernel
abbrev wsSc_isGame : List Cond := Cond.code ⟨"StepCourt", "isGame", "(I)Z"⟩ cSc_isGame 2 (some .boolean) :: wz
theorem hd_Sc_isGame : ySc_isGame.cls ≠ "java/lang/invoke/MethodHandle" ∧ ySc_isGame.cls ≠ "java/lang/invoke/VarHandle" ∧ (parseMethodDescriptor ySc_isGame.desc).map (fun d => d.parameters.length) = some 1 := by decide +kernel
abbrev wsLa_deposit : List Cond := Cond.codeWith ⟨"StepCourtLaw", "deposit", "(LStepCourt;II[J)I"⟩ cLa_deposit 5 (some .int) [(0, 10, 13, 13), (0, 10, 17, 15), (0, 10, 21, 17)] :: wz
theorem hd_La_deposit : yLa_deposit.cls ≠ "java/lang/invoke/MethodHandle" ∧ yLa_deposit.cls ≠ "java/lang/invoke/VarHandle" ∧ (parseMethodDescriptor yLa_deposit.desc).map (fun d => d.parameters.length) = some 4 := by decide +kernel
abbrev wsSc_deposit : List Cond := Cond.code ⟨"StepCourt", "deposit", "(II)I"⟩ cSc_deposit 3 (some .int) :: wz
theorem hd_Sc_deposit : ySc_deposit.cls ≠ "java/lang/invoke/MethodHandle" ∧ ySc_deposit.cls ≠ "java/lang/invoke/VarHandle" ∧ (parseMethodDescriptor ySc_deposit.desc).map (fun d => d.parameters.length) = some 2 := by decide +kernel
abbrev wsSc_requireParty : List Cond := Cond.code ⟨"StepCourt", "requireParty", "(I)V"⟩ cSc_requireParty 1 none :: wz
theorem hd_Sc_requireParty : ySc_requireParty.cls ≠ "java/lang/invoke/MethodHandle" ∧ ySc_requireParty.cls ≠ "java/lang/invoke/VarHandle" ∧ (parseMethodDescriptor ySc_requireParty.desc).map (fun d => d.parameters.length) = some 1 := by decide +kernel
abbrev wsIn_room : List Cond := Cond.code ⟨"StepCourt$Inbox", "room", "()I"⟩ cIn_room 1 (some .int) :: wz
theorem hd_In_room : yIn_room.cls ≠ "java/lang/invoke/MethodHandle" ∧ yIn_room.cls ≠ "java/lang/invoke/VarHandle" ∧ (parseMethodDescriptor yIn_room.desc).map (fun d => d.parameters.length) = some 0 := by decide +kernel
abbrev wsIn_add : List Cond := Cond.code ⟨"StepCourt$Inbox", "add", "(I)V"⟩ cIn_add 2 none :: wz
theorem hd_In_add : yIn_add.cls ≠ "java/lang/invoke/MethodHandle" ∧ yIn_add.cls ≠ "java/lang/invoke/VarHandle" ∧ (parseMethodDescriptor yIn_add.desc).map (fun d => d.parameters.length) = some 1 := by decide +kernel
abbrev wsLa_send : List Cond := Cond.codeWith ⟨"StepCourtLaw", "send", "(LStepCourt;I[J)I"⟩ cLa_send 4 (some .int) [(0, 9, 12, 17)] :: wz
theorem hd_La_send : yLa_send.cls ≠ "java/lang/invoke/MethodHandle" ∧ yLa_send.cls ≠ "java/lang/invoke/VarHandle" ∧ (parseMethodDescriptor yLa_send.desc).map (fun d => d.parameters.length) = some 3 := by decide +kernel
abbrev wsSc_send : List Cond := Cond.code ⟨"StepCourt", "send", "(I)I"⟩ cSc_send 2 (some .int) :: wz
theorem hd_Sc_send : ySc_send.cls ≠ "java/lang/invoke/MethodHandle" ∧ ySc_send.cls ≠ "java/lang/invoke/VarHandle" ∧ (parseMethodDescriptor ySc_send.desc).map (fun d => d.parameters.length) = some 1 := by decide +kernel
abbrev wsLa_claim : List Cond := Cond.codeWith ⟨"StepCourtLaw", "claim", "(LStepCourt;IIJ[J)I"⟩ cLa_claim 7 (some .int) [(0, 11, 14, 13), (0, 11, 18, 27), (0, 11, 22, 15), (0, 11, 26, 17)] :: wz
theorem hd_La_claim : yLa_claim.cls ≠ "java/lang/invoke/MethodHandle" ∧ yLa_claim.cls ≠ "java/lang/invoke/VarHandle" ∧ (parseMethodDescriptor yLa_claim.desc).map (fun d => d.parameters.length) = some 5 := by decide +kernel
abbrev wsSc_claim : List Cond := Cond.code ⟨"StepCourt", "claim", "(IIJ)J"⟩ cSc_claim 5 (some .long) :: wz
theorem hd_Sc_claim : ySc_claim.cls ≠ "java/lang/invoke/MethodHandle" ∧ ySc_claim.cls ≠ "java/lang/invoke/VarHandle" ∧ (parseMethodDescriptor ySc_claim.desc).map (fun d => d.parameters.length) = some 3 := by decide +kernel
abbrev wsSc_takeStake : List Cond := Cond.code ⟨"StepCourt", "takeStake", "(I)V"⟩ cSc_takeStake 2 none :: wz
theorem hd_Sc_takeStake : ySc_takeStake.cls ≠ "java/lang/invoke/MethodHandle" ∧ ySc_takeStake.cls ≠ "java/lang/invoke/VarHandle" ∧ (parseMethodDescriptor ySc_takeStake.desc).map (fun d => d.parameters.length) = some 1 := by decide +kernel
abbrev wsAs_open : List Cond := Cond.code ⟨"StepCourt$Assertion", "open", "(IIII)V"⟩ cAs_open 5 none :: wz
theorem hd_As_open : yAs_open.cls ≠ "java/lang/invoke/MethodHandle" ∧ yAs_open.cls ≠ "java/lang/invoke/VarHandle" ∧ (parseMethodDescriptor yAs_open.desc).map (fun d => d.parameters.length) = some 4 := by decide +kernel
abbrev wsLa_challenge : List Cond := Cond.codeWith ⟨"StepCourtLaw", "challenge", "(LStepCourt;I[J)I"⟩ cLa_challenge 4 (some .int) [(0, 9, 12, 13), (0, 9, 15, 27), (0, 9, 18, 17)] :: wz
theorem hd_La_challenge : yLa_challenge.cls ≠ "java/lang/invoke/MethodHandle" ∧ yLa_challenge.cls ≠ "java/lang/invoke/VarHandle" ∧ (parseMethodDescriptor yLa_challenge.desc).map (fun d => d.parameters.length) = some 3 := by decide +kernel
abbrev wsSc_challenge : List Cond := Cond.code ⟨"StepCourt", "challenge", "(I)I"⟩ cSc_challenge 3 (some .int) :: wz
theorem hd_Sc_challenge : ySc_challenge.cls ≠ "java/lang/invoke/MethodHandle" ∧ ySc_challenge.cls ≠ "java/lang/invoke/VarHandle" ∧ (parseMethodDescriptor ySc_challenge.desc).map (fun d => d.parameters.length) = some 1 := by decide +kernel
abbrev wsSc_hasChallenged : List Cond := Cond.code ⟨"StepCourt", "hasChallenged", "(I)Z"⟩ cSc_hasChallenged 3 (some .boolean) :: wz
theorem hd_Sc_hasChallenged : ySc_hasChallenged.cls ≠ "java/lang/invoke/MethodHandle" ∧ ySc_hasChallenged.cls ≠ "java/lang/invoke/VarHandle" ∧ (parseMethodDescriptor ySc_hasChallenged.desc).map (fun d => d.parameters.length) = some 1 := by decide +kernel
abbrev wsGa_begin : List Cond := Cond.code ⟨"StepCourt$Game", "begin", "(IIJJ)V"⟩ cGa_begin 7 none :: wz
theorem hd_Ga_begin : yGa_begin.cls ≠ "java/lang/invoke/MethodHandle" ∧ yGa_begin.cls ≠ "java/lang/invoke/VarHandle" ∧ (parseMethodDescriptor yGa_begin.desc).map (fun d => d.parameters.length) = some 4 := by decide +kernel
abbrev wsGa_clearMiddle : List Cond := Cond.code ⟨"StepCourt$Game", "clearMiddle", "()V"⟩ cGa_clearMiddle 1 none :: wz
theorem hd_Ga_clearMiddle : yGa_clearMiddle.cls ≠ "java/lang/invoke/MethodHandle" ∧ yGa_clearMiddle.cls ≠ "java/lang/invoke/VarHandle" ∧ (parseMethodDescriptor yGa_clearMiddle.desc).map (fun d => d.parameters.length) = some 0 := by decide +kernel
abbrev wsGa_setDeadline : List Cond := Cond.code ⟨"StepCourt$Game", "setDeadline", "(I)V"⟩ cGa_setDeadline 2 none :: wz
theorem hd_Ga_setDeadline : yGa_setDeadline.cls ≠ "java/lang/invoke/MethodHandle" ∧ yGa_setDeadline.cls ≠ "java/lang/invoke/VarHandle" ∧ (parseMethodDescriptor yGa_setDeadline.desc).map (fun d => d.parameters.length) = some 1 := by decide +kernel
abbrev wsLa_post : List Cond := Cond.codeWith ⟨"StepCourtLaw", "post", "(LStepCourt;IJ[J)I"⟩ cLa_post 6 (some .int) [(0, 10, 13, 13), (0, 10, 17, 27)] :: wz
theorem hd_La_post : yLa_post.cls ≠ "java/lang/invoke/MethodHandle" ∧ yLa_post.cls ≠ "java/lang/invoke/VarHandle" ∧ (parseMethodDescriptor yLa_post.desc).map (fun d => d.parameters.length) = some 4 := by decide +kernel
abbrev wsSc_post : List Cond := Cond.code ⟨"StepCourt", "post", "(IJ)J"⟩ cSc_post 5 (some .long) :: wz
theorem hd_Sc_post : ySc_post.cls ≠ "java/lang/invoke/MethodHandle" ∧ ySc_post.cls ≠ "java/lang/invoke/VarHandle" ∧ (parseMethodDescriptor ySc_post.desc).map (fun d => d.parameters.length) = some 2 := by decide +kernel
abbrev wsSc_gameWithDuty : List Cond := Cond.code ⟨"StepCourt", "gameWithDuty", "(II)LStepCourt$Game;"⟩ cSc_gameWithDuty 4 (some (.object "StepCourt$Game")) :: wz
theorem hd_Sc_gameWithDuty : ySc_gameWithDuty.cls ≠ "java/lang/invoke/MethodHandle" ∧ ySc_gameWithDuty.cls ≠ "java/lang/invoke/VarHandle" ∧ (parseMethodDescriptor ySc_gameWithDuty.desc).map (fun d => d.parameters.length) = some 2 := by decide +kernel
abbrev wsGa_middleStep : List Cond := Cond.code ⟨"StepCourt$Game", "middleStep", "()I"⟩ cGa_middleStep 1 (some .int) :: wz
theorem hd_Ga_middleStep : yGa_middleStep.cls ≠ "java/lang/invoke/MethodHandle" ∧ yGa_middleStep.cls ≠ "java/lang/invoke/VarHandle" ∧ (parseMethodDescriptor yGa_middleStep.desc).map (fun d => d.parameters.length) = some 0 := by decide +kernel
abbrev wsGa_setMiddle : List Cond := Cond.code ⟨"StepCourt$Game", "setMiddle", "(J)V"⟩ cGa_setMiddle 3 none :: wz
theorem hd_Ga_setMiddle : yGa_setMiddle.cls ≠ "java/lang/invoke/MethodHandle" ∧ yGa_setMiddle.cls ≠ "java/lang/invoke/VarHandle" ∧ (parseMethodDescriptor yGa_setMiddle.desc).map (fun d => d.parameters.length) = some 1 := by decide +kernel
abbrev wsLa_pick : List Cond := Cond.codeWith ⟨"StepCourtLaw", "pick", "(LStepCourt;IZ[J)I"⟩ cLa_pick 5 (some .int) [(0, 10, 13, 13), (0, 10, 17, 27)] :: wz
theorem hd_La_pick : yLa_pick.cls ≠ "java/lang/invoke/MethodHandle" ∧ yLa_pick.cls ≠ "java/lang/invoke/VarHandle" ∧ (parseMethodDescriptor yLa_pick.desc).map (fun d => d.parameters.length) = some 4 := by decide +kernel
abbrev wsSc_pick : List Cond := Cond.code ⟨"StepCourt", "pick", "(IZ)I"⟩ cSc_pick 4 (some .int) :: wz
theorem hd_Sc_pick : ySc_pick.cls ≠ "java/lang/invoke/MethodHandle" ∧ ySc_pick.cls ≠ "java/lang/invoke/VarHandle" ∧ (parseMethodDescriptor ySc_pick.desc).map (fun d => d.parameters.length) = some 2 := by decide +kernel
abbrev wsGa_halve : List Cond := Cond.code ⟨"StepCourt$Game", "halve", "(Z)V"⟩ cGa_halve 2 none :: wz
theorem hd_Ga_halve : yGa_halve.cls ≠ "java/lang/invoke/MethodHandle" ∧ yGa_halve.cls ≠ "java/lang/invoke/VarHandle" ∧ (parseMethodDescriptor yGa_halve.desc).map (fun d => d.parameters.length) = some 1 := by decide +kernel
abbrev wsLa_prove : List Cond := Cond.codeWith ⟨"StepCourtLaw", "prove", "(LStepCourt;III[J)I"⟩ cLa_prove 6 (some .int) [(0, 19, 22, 13), (0, 19, 26, 27), (0, 19, 30, 15)] :: wz
theorem hd_La_prove : yLa_prove.cls ≠ "java/lang/invoke/MethodHandle" ∧ yLa_prove.cls ≠ "java/lang/invoke/VarHandle" ∧ (parseMethodDescriptor yLa_prove.desc).map (fun d => d.parameters.length) = some 5 := by decide +kernel
abbrev wsSc_prove : List Cond := Cond.code ⟨"StepCourt", "prove", "(III)Z"⟩ cSc_prove 5 (some .boolean) :: wz
theorem hd_Sc_prove : ySc_prove.cls ≠ "java/lang/invoke/MethodHandle" ∧ ySc_prove.cls ≠ "java/lang/invoke/VarHandle" ∧ (parseMethodDescriptor ySc_prove.desc).map (fun d => d.parameters.length) = some 3 := by decide +kernel
abbrev wsPr_takeFrom : List Cond := Cond.code ⟨"StepCourt$Proof", "takeFrom", "(LStepCourt$Machine;)V"⟩ cPr_takeFrom 4 none :: wz
theorem hd_Pr_takeFrom : yPr_takeFrom.cls ≠ "java/lang/invoke/MethodHandle" ∧ yPr_takeFrom.cls ≠ "java/lang/invoke/VarHandle" ∧ (parseMethodDescriptor yPr_takeFrom.desc).map (fun d => d.parameters.length) = some 1 := by decide +kernel
abbrev wsPr_alter : List Cond := Cond.code ⟨"StepCourt$Proof", "alter", "(II)V"⟩ cPr_alter 3 none :: wz
theorem hd_Pr_alter : yPr_alter.cls ≠ "java/lang/invoke/MethodHandle" ∧ yPr_alter.cls ≠ "java/lang/invoke/VarHandle" ∧ (parseMethodDescriptor yPr_alter.desc).map (fun d => d.parameters.length) = some 2 := by decide +kernel
abbrev wsPr_alterOther : List Cond := Cond.code ⟨"StepCourt$Proof", "alterOther", "(II)V"⟩ cPr_alterOther 3 none :: wz
theorem hd_Pr_alterOther : yPr_alterOther.cls ≠ "java/lang/invoke/MethodHandle" ∧ yPr_alterOther.cls ≠ "java/lang/invoke/VarHandle" ∧ (parseMethodDescriptor yPr_alterOther.desc).map (fun d => d.parameters.length) = some 2 := by decide +kernel
abbrev wsSc_proofLeads : List Cond := Cond.code ⟨"StepCourt", "proofLeads", "(JJ)Z"⟩ cSc_proofLeads 5 (some .boolean) :: wz
theorem hd_Sc_proofLeads : ySc_proofLeads.cls ≠ "java/lang/invoke/MethodHandle" ∧ ySc_proofLeads.cls ≠ "java/lang/invoke/VarHandle" ∧ (parseMethodDescriptor ySc_proofLeads.desc).map (fun d => d.parameters.length) = some 2 := by decide +kernel
abbrev wsPr_commitment : List Cond := Cond.code ⟨"StepCourt$Proof", "commitment", "()J"⟩ cPr_commitment 5 (some .long) :: wz
theorem hd_Pr_commitment : yPr_commitment.cls ≠ "java/lang/invoke/MethodHandle" ∧ yPr_commitment.cls ≠ "java/lang/invoke/VarHandle" ∧ (parseMethodDescriptor yPr_commitment.desc).map (fun d => d.parameters.length) = some 0 := by decide +kernel
abbrev wsPr_hasPlaceInCode : List Cond := Cond.code ⟨"StepCourt$Proof", "hasPlaceInCode", "()Z"⟩ cPr_hasPlaceInCode 1 (some .boolean) :: wz
theorem hd_Pr_hasPlaceInCode : yPr_hasPlaceInCode.cls ≠ "java/lang/invoke/MethodHandle" ∧ yPr_hasPlaceInCode.cls ≠ "java/lang/invoke/VarHandle" ∧ (parseMethodDescriptor yPr_hasPlaceInCode.desc).map (fun d => d.parameters.length) = some 0 := by decide +kernel
abbrev wsLa_draw : List Cond := Cond.codeWith ⟨"StepCourtLaw", "draw", "(LStepCourt;I[J)I"⟩ cLa_draw 4 (some .int) [(0, 9, 12, 13), (0, 9, 15, 27), (0, 9, 18, 15), (0, 9, 21, 17)] :: wz
theorem hd_La_draw : yLa_draw.cls ≠ "java/lang/invoke/MethodHandle" ∧ yLa_draw.cls ≠ "java/lang/invoke/VarHandle" ∧ (parseMethodDescriptor yLa_draw.desc).map (fun d => d.parameters.length) = some 3 := by decide +kernel
abbrev wsSc_draw : List Cond := Cond.code ⟨"StepCourt", "draw", "(I)I"⟩ cSc_draw 3 (some .int) :: wz
theorem hd_Sc_draw : ySc_draw.cls ≠ "java/lang/invoke/MethodHandle" ∧ ySc_draw.cls ≠ "java/lang/invoke/VarHandle" ∧ (parseMethodDescriptor ySc_draw.desc).map (fun d => d.parameters.length) = some 1 := by decide +kernel
abbrev wsMo_init : List Cond := Cond.code ⟨"StepCourtModel", "<init>", "()V"⟩ cMo_init 1 none :: wz
theorem hd_Mo_init : yMo_init.cls ≠ "java/lang/invoke/MethodHandle" ∧ yMo_init.cls ≠ "java/lang/invoke/VarHandle" ∧ (parseMethodDescriptor yMo_init.desc).map (fun d => d.parameters.length) = some 0 := by decide +kernel
abbrev wsMo_take : List Cond := Cond.code ⟨"StepCourtModel", "take", "()V"⟩ cMo_take 2 none :: wz
theorem hd_Mo_take : yMo_take.cls ≠ "java/lang/invoke/MethodHandle" ∧ yMo_take.cls ≠ "java/lang/invoke/VarHandle" ∧ (parseMethodDescriptor yMo_take.desc).map (fun d => d.parameters.length) = some 0 := by decide +kernel
abbrev wsMo_commitment : List Cond := Cond.code ⟨"StepCourtModel", "commitment", "()J"⟩ cMo_commitment 1 (some .long) :: wz
theorem hd_Mo_commitment : yMo_commitment.cls ≠ "java/lang/invoke/MethodHandle" ∧ yMo_commitment.cls ≠ "java/lang/invoke/VarHandle" ∧ (parseMethodDescriptor yMo_commitment.desc).map (fun d => d.parameters.length) = some 0 := by decide +kernel
abbrev wsMo_tree : List Cond := Cond.code ⟨"StepCourtModel", "tree", "()V"⟩ cMo_tree 2 none :: wz
theorem hd_Mo_tree : yMo_tree.cls ≠ "java/lang/invoke/MethodHandle" ∧ yMo_tree.cls ≠ "java/lang/invoke/VarHandle" ∧ (parseMethodDescriptor yMo_tree.desc).map (fun d => d.parameters.length) = some 0 := by decide +kernel
abbrev wsMo_mix : List Cond := Cond.code ⟨"StepCourtModel", "mix", "(JJ)J"⟩ cMo_mix 6 (some .long) :: wz
theorem hd_Mo_mix : yMo_mix.cls ≠ "java/lang/invoke/MethodHandle" ∧ yMo_mix.cls ≠ "java/lang/invoke/VarHandle" ∧ (parseMethodDescriptor yMo_mix.desc).map (fun d => d.parameters.length) = some 2 := by decide +kernel
abbrev wsMo_pair : List Cond := Cond.code ⟨"StepCourtModel", "pair", "(JJ)J"⟩ cMo_pair 4 (some .long) :: wz
theorem hd_Mo_pair : yMo_pair.cls ≠ "java/lang/invoke/MethodHandle" ∧ yMo_pair.cls ≠ "java/lang/invoke/VarHandle" ∧ (parseMethodDescriptor yMo_pair.desc).map (fun d => d.parameters.length) = some 2 := by decide +kernel
abbrev wsMo_whole : List Cond := Cond.code ⟨"StepCourtModel", "whole", "(JJJJJJJ)J"⟩ cMo_whole 16 (some .long) :: wz
theorem hd_Mo_whole : yMo_whole.cls ≠ "java/lang/invoke/MethodHandle" ∧ yMo_whole.cls ≠ "java/lang/invoke/VarHandle" ∧ (parseMethodDescriptor yMo_whole.desc).map (fun d => d.parameters.length) = some 7 := by decide +kernel
abbrev wsMo_code : List Cond := Cond.code ⟨"StepCourtModel", "code", "(III)Z"⟩ cMo_code 4 (some .boolean) :: wz
theorem hd_Mo_code : yMo_code.cls ≠ "java/lang/invoke/MethodHandle" ∧ yMo_code.cls ≠ "java/lang/invoke/VarHandle" ∧ (parseMethodDescriptor yMo_code.desc).map (fun d => d.parameters.length) = some 3 := by decide +kernel
abbrev wsMo_deposit : List Cond := Cond.code ⟨"StepCourtModel", "deposit", "(II)I"⟩ cMo_deposit 3 (some .int) :: wz
theorem hd_Mo_deposit : yMo_deposit.cls ≠ "java/lang/invoke/MethodHandle" ∧ yMo_deposit.cls ≠ "java/lang/invoke/VarHandle" ∧ (parseMethodDescriptor yMo_deposit.desc).map (fun d => d.parameters.length) = some 2 := by decide +kernel
abbrev wsMo_isParty : List Cond := Cond.code ⟨"StepCourtModel", "isParty", "(I)Z"⟩ cMo_isParty 1 (some .boolean) :: wz
theorem hd_Mo_isParty : yMo_isParty.cls ≠ "java/lang/invoke/MethodHandle" ∧ yMo_isParty.cls ≠ "java/lang/invoke/VarHandle" ∧ (parseMethodDescriptor yMo_isParty.desc).map (fun d => d.parameters.length) = some 1 := by decide +kernel
abbrev wsMo_raise : List Cond := Cond.code ⟨"StepCourtModel", "raise", "(I)I"⟩ cMo_raise 2 (some .int) :: wz
theorem hd_Mo_raise : yMo_raise.cls ≠ "java/lang/invoke/MethodHandle" ∧ yMo_raise.cls ≠ "java/lang/invoke/VarHandle" ∧ (parseMethodDescriptor yMo_raise.desc).map (fun d => d.parameters.length) = some 1 := by decide +kernel
abbrev wsMo_push : List Cond := Cond.code ⟨"StepCourtModel", "push", "(I)V"⟩ cMo_push 2 none :: wz
theorem hd_Mo_push : yMo_push.cls ≠ "java/lang/invoke/MethodHandle" ∧ yMo_push.cls ≠ "java/lang/invoke/VarHandle" ∧ (parseMethodDescriptor yMo_push.desc).map (fun d => d.parameters.length) = some 1 := by decide +kernel
abbrev wsMo_send : List Cond := Cond.code ⟨"StepCourtModel", "send", "(I)I"⟩ cMo_send 2 (some .int) :: wz
theorem hd_Mo_send : yMo_send.cls ≠ "java/lang/invoke/MethodHandle" ∧ yMo_send.cls ≠ "java/lang/invoke/VarHandle" ∧ (parseMethodDescriptor yMo_send.desc).map (fun d => d.parameters.length) = some 1 := by decide +kernel
abbrev wsMo_claim : List Cond := Cond.code ⟨"StepCourtModel", "claim", "(IIJ)J"⟩ cMo_claim 5 (some .long) :: wz
theorem hd_Mo_claim : yMo_claim.cls ≠ "java/lang/invoke/MethodHandle" ∧ yMo_claim.cls ≠ "java/lang/invoke/VarHandle" ∧ (parseMethodDescriptor yMo_claim.desc).map (fun d => d.parameters.length) = some 3 := by decide +kernel
abbrev wsMo_trueCommitment : List Cond := Cond.code ⟨"StepCourtModel", "trueCommitment", "(I)J"⟩ cMo_trueCommitment 2 (some .long) :: wz
theorem hd_Mo_trueCommitment : yMo_trueCommitment.cls ≠ "java/lang/invoke/MethodHandle" ∧ yMo_trueCommitment.cls ≠ "java/lang/invoke/VarHandle" ∧ (parseMethodDescriptor yMo_trueCommitment.desc).map (fun d => d.parameters.length) = some 1 := by decide +kernel
abbrev wsMo_after : List Cond := Cond.code ⟨"StepCourtModel", "after", "(II)V"⟩ cMo_after 4 none :: wz
theorem hd_Mo_after : yMo_after.cls ≠ "java/lang/invoke/MethodHandle" ∧ yMo_after.cls ≠ "java/lang/invoke/VarHandle" ∧ (parseMethodDescriptor yMo_after.desc).map (fun d => d.parameters.length) = some 2 := by decide +kernel
abbrev wsMo_step : List Cond := Cond.code ⟨"StepCourtModel", "step", "(I)V"⟩ cMo_step 10 none :: wz
theorem hd_Mo_step : yMo_step.cls ≠ "java/lang/invoke/MethodHandle" ∧ yMo_step.cls ≠ "java/lang/invoke/VarHandle" ∧ (parseMethodDescriptor yMo_step.desc).map (fun d => d.parameters.length) = some 1 := by decide +kernel
abbrev wsMo_wordAt : List Cond := Cond.code ⟨"StepCourtModel", "wordAt", "(I)I"⟩ cMo_wordAt 2 (some .int) :: wz
theorem hd_Mo_wordAt : yMo_wordAt.cls ≠ "java/lang/invoke/MethodHandle" ∧ yMo_wordAt.cls ≠ "java/lang/invoke/VarHandle" ∧ (parseMethodDescriptor yMo_wordAt.desc).map (fun d => d.parameters.length) = some 1 := by decide +kernel
abbrev wsMo_challenge : List Cond := Cond.code ⟨"StepCourtModel", "challenge", "(I)I"⟩ cMo_challenge 4 (some .int) :: wz
theorem hd_Mo_challenge : yMo_challenge.cls ≠ "java/lang/invoke/MethodHandle" ∧ yMo_challenge.cls ≠ "java/lang/invoke/VarHandle" ∧ (parseMethodDescriptor yMo_challenge.desc).map (fun d => d.parameters.length) = some 1 := by decide +kernel
abbrev wsMo_post : List Cond := Cond.code ⟨"StepCourtModel", "post", "(IJ)J"⟩ cMo_post 4 (some .long) :: wz
theorem hd_Mo_post : yMo_post.cls ≠ "java/lang/invoke/MethodHandle" ∧ yMo_post.cls ≠ "java/lang/invoke/VarHandle" ∧ (parseMethodDescriptor yMo_post.desc).map (fun d => d.parameters.length) = some 2 := by decide +kernel
abbrev wsMo_isGame : List Cond := Cond.code ⟨"StepCourtModel", "isGame", "(I)Z"⟩ cMo_isGame 2 (some .boolean) :: wz
theorem hd_Mo_isGame : yMo_isGame.cls ≠ "java/lang/invoke/MethodHandle" ∧ yMo_isGame.cls ≠ "java/lang/invoke/VarHandle" ∧ (parseMethodDescriptor yMo_isGame.desc).map (fun d => d.parameters.length) = some 1 := by decide +kernel
abbrev wsMo_due : List Cond := Cond.code ⟨"StepCourtModel", "due", "(I)I"⟩ cMo_due 2 (some .int) :: wz
theorem hd_Mo_due : yMo_due.cls ≠ "java/lang/invoke/MethodHandle" ∧ yMo_due.cls ≠ "java/lang/invoke/VarHandle" ∧ (parseMethodDescriptor yMo_due.desc).map (fun d => d.parameters.length) = some 1 := by decide +kernel
abbrev wsMo_pick : List Cond := Cond.code ⟨"StepCourtModel", "pick", "(IZ)I"⟩ cMo_pick 4 (some .int) :: wz
theorem hd_Mo_pick : yMo_pick.cls ≠ "java/lang/invoke/MethodHandle" ∧ yMo_pick.cls ≠ "java/lang/invoke/VarHandle" ∧ (parseMethodDescriptor yMo_pick.desc).map (fun d => d.parameters.length) = some 2 := by decide +kernel
abbrev wsMo_prove : List Cond := Cond.code ⟨"StepCourtModel", "prove", "(III)Z"⟩ cMo_prove 4 (some .boolean) :: wz
theorem hd_Mo_prove : yMo_prove.cls ≠ "java/lang/invoke/MethodHandle" ∧ yMo_prove.cls ≠ "java/lang/invoke/VarHandle" ∧ (parseMethodDescriptor yMo_prove.desc).map (fun d => d.parameters.length) = some 3 := by decide +kernel
abbrev wsMo_proves : List Cond := Cond.code ⟨"StepCourtModel", "proves", "(III)Z"⟩ cMo_proves 9 (some .boolean) :: wz
theorem hd_Mo_proves : yMo_proves.cls ≠ "java/lang/invoke/MethodHandle" ∧ yMo_proves.cls ≠ "java/lang/invoke/VarHandle" ∧ (parseMethodDescriptor yMo_proves.desc).map (fun d => d.parameters.length) = some 3 := by decide +kernel
abbrev wsMo_rootOf : List Cond := Cond.code ⟨"StepCourtModel", "rootOf", "(JI)J"⟩ cMo_rootOf 7 (some .long) :: wz
theorem hd_Mo_rootOf : yMo_rootOf.cls ≠ "java/lang/invoke/MethodHandle" ∧ yMo_rootOf.cls ≠ "java/lang/invoke/VarHandle" ∧ (parseMethodDescriptor yMo_rootOf.desc).map (fun d => d.parameters.length) = some 2 := by decide +kernel
abbrev wsMo_keep : List Cond := Cond.code ⟨"StepCourtModel", "keep", "(I)V"⟩ cMo_keep 2 none :: wz
theorem hd_Mo_keep : yMo_keep.cls ≠ "java/lang/invoke/MethodHandle" ∧ yMo_keep.cls ≠ "java/lang/invoke/VarHandle" ∧ (parseMethodDescriptor yMo_keep.desc).map (fun d => d.parameters.length) = some 1 := by decide +kernel
abbrev wsMo_settle : List Cond := Cond.code ⟨"StepCourtModel", "settle", "()V"⟩ cMo_settle 5 none :: wz
theorem hd_Mo_settle : yMo_settle.cls ≠ "java/lang/invoke/MethodHandle" ∧ yMo_settle.cls ≠ "java/lang/invoke/VarHandle" ∧ (parseMethodDescriptor yMo_settle.desc).map (fun d => d.parameters.length) = some 0 := by decide +kernel
abbrev wsMo_runningGames : List Cond := Cond.code ⟨"StepCourtModel", "runningGames", "()I"⟩ cMo_runningGames 3 (some .int) :: wz
theorem hd_Mo_runningGames : yMo_runningGames.cls ≠ "java/lang/invoke/MethodHandle" ∧ yMo_runningGames.cls ≠ "java/lang/invoke/VarHandle" ∧ (parseMethodDescriptor yMo_runningGames.desc).map (fun d => d.parameters.length) = some 0 := by decide +kernel
abbrev wsMo_noAssertion : List Cond := Cond.code ⟨"StepCourtModel", "noAssertion", "()V"⟩ cMo_noAssertion 1 none :: wz
theorem hd_Mo_noAssertion : yMo_noAssertion.cls ≠ "java/lang/invoke/MethodHandle" ∧ yMo_noAssertion.cls ≠ "java/lang/invoke/VarHandle" ∧ (parseMethodDescriptor yMo_noAssertion.desc).map (fun d => d.parameters.length) = some 0 := by decide +kernel
abbrev wsMo_block : List Cond := Cond.code ⟨"StepCourtModel", "block", "()I"⟩ cMo_block 2 (some .int) :: wz
theorem hd_Mo_block : yMo_block.cls ≠ "java/lang/invoke/MethodHandle" ∧ yMo_block.cls ≠ "java/lang/invoke/VarHandle" ∧ (parseMethodDescriptor yMo_block.desc).map (fun d => d.parameters.length) = some 0 := by decide +kernel
abbrev wsMo_fall : List Cond := Cond.code ⟨"StepCourtModel", "fall", "(I)V"⟩ cMo_fall 3 none :: wz
theorem hd_Mo_fall : yMo_fall.cls ≠ "java/lang/invoke/MethodHandle" ∧ yMo_fall.cls ≠ "java/lang/invoke/VarHandle" ∧ (parseMethodDescriptor yMo_fall.desc).map (fun d => d.parameters.length) = some 1 := by decide +kernel
abbrev wsMo_draw : List Cond := Cond.code ⟨"StepCourtModel", "draw", "(I)I"⟩ cMo_draw 2 (some .int) :: wz
theorem hd_Mo_draw : yMo_draw.cls ≠ "java/lang/invoke/MethodHandle" ∧ yMo_draw.cls ≠ "java/lang/invoke/VarHandle" ∧ (parseMethodDescriptor yMo_draw.desc).map (fun d => d.parameters.length) = some 1 := by decide +kernel
abbrev wsMo_realCommitment : List Cond := Cond.code ⟨"StepCourtModel", "realCommitment", "()J"⟩ cMo_realCommitment 1 (some .long) :: wz
theorem hd_Mo_realCommitment : yMo_realCommitment.cls ≠ "java/lang/invoke/MethodHandle" ∧ yMo_realCommitment.cls ≠ "java/lang/invoke/VarHandle" ∧ (parseMethodDescriptor yMo_realCommitment.desc).map (fun d => d.parameters.length) = some 0 := by decide +kernel
abbrev wsMo_balance : List Cond := Cond.code ⟨"StepCourtModel", "balance", "(I)I"⟩ cMo_balance 2 (some .int) :: wz
theorem hd_Mo_balance : yMo_balance.cls ≠ "java/lang/invoke/MethodHandle" ∧ yMo_balance.cls ≠ "java/lang/invoke/VarHandle" ∧ (parseMethodDescriptor yMo_balance.desc).map (fun d => d.parameters.length) = some 1 := by decide +kernel
abbrev wsMo_pot : List Cond := Cond.code ⟨"StepCourtModel", "pot", "()I"⟩ cMo_pot 1 (some .int) :: wz
theorem hd_Mo_pot : yMo_pot.cls ≠ "java/lang/invoke/MethodHandle" ∧ yMo_pot.cls ≠ "java/lang/invoke/VarHandle" ∧ (parseMethodDescriptor yMo_pot.desc).map (fun d => d.parameters.length) = some 0 := by decide +kernel
abbrev wsMo_word : List Cond := Cond.code ⟨"StepCourtModel", "word", "(I)I"⟩ cMo_word 2 (some .int) :: wz
theorem hd_Mo_word : yMo_word.cls ≠ "java/lang/invoke/MethodHandle" ∧ yMo_word.cls ≠ "java/lang/invoke/VarHandle" ∧ (parseMethodDescriptor yMo_word.desc).map (fun d => d.parameters.length) = some 1 := by decide +kernel
abbrev wsMo_truth : List Cond := Cond.code ⟨"StepCourtModel", "truth", "(I)J"⟩ cMo_truth 2 (some .long) :: wz
theorem hd_Mo_truth : yMo_truth.cls ≠ "java/lang/invoke/MethodHandle" ∧ yMo_truth.cls ≠ "java/lang/invoke/VarHandle" ∧ (parseMethodDescriptor yMo_truth.desc).map (fun d => d.parameters.length) = some 1 := by decide +kernel
abbrev wsMo_base : List Cond := Cond.code ⟨"StepCourtModel", "base", "()J"⟩ cMo_base 1 (some .long) :: wz
theorem hd_Mo_base : yMo_base.cls ≠ "java/lang/invoke/MethodHandle" ∧ yMo_base.cls ≠ "java/lang/invoke/VarHandle" ∧ (parseMethodDescriptor yMo_base.desc).map (fun d => d.parameters.length) = some 0 := by decide +kernel
abbrev wsMo_state : List Cond := Cond.code ⟨"StepCourtModel", "state", "(I)J"⟩ cMo_state 2 (some .long) :: wz
theorem hd_Mo_state : yMo_state.cls ≠ "java/lang/invoke/MethodHandle" ∧ yMo_state.cls ≠ "java/lang/invoke/VarHandle" ∧ (parseMethodDescriptor yMo_state.desc).map (fun d => d.parameters.length) = some 1 := by decide +kernel
abbrev wsMo_assertion : List Cond := Cond.code ⟨"StepCourtModel", "assertion", "(I)J"⟩ cMo_assertion 2 (some .long) :: wz
theorem hd_Mo_assertion : yMo_assertion.cls ≠ "java/lang/invoke/MethodHandle" ∧ yMo_assertion.cls ≠ "java/lang/invoke/VarHandle" ∧ (parseMethodDescriptor yMo_assertion.desc).map (fun d => d.parameters.length) = some 1 := by decide +kernel
abbrev wsMo_game : List Cond := Cond.code ⟨"StepCourtModel", "game", "(II)J"⟩ cMo_game 3 (some .long) :: wz
theorem hd_Mo_game : yMo_game.cls ≠ "java/lang/invoke/MethodHandle" ∧ yMo_game.cls ≠ "java/lang/invoke/VarHandle" ∧ (parseMethodDescriptor yMo_game.desc).map (fun d => d.parameters.length) = some 2 := by decide +kernel
theorem hd_La_law : yLa_law.cls ≠ "java/lang/invoke/MethodHandle" ∧ yLa_law.cls ≠ "java/lang/invoke/VarHandle" ∧ (parseMethodDescriptor yLa_law.desc).map (fun d => d.parameters.length) = some 1 := by decide +kernel
abbrev ct_As : Type := Int32 × Int32 × Int32 × Int32 × Int32 × Int32 × Int64
abbrev ce_As (o : ct_As) : va_E := .inr (0, [.int o.1, .int o.2.1, .int o.2.2.1, .int o.2.2.2.1, .int o.2.2.2.2.1, .int o.2.2.2.2.2.1, .long o.2.2.2.2.2.2])
abbrev ce_Co (q0 q1 : Nat) : va_E := .inr (1, [.ref q0, .ref q1])
abbrev ct_Ga : Type := Int32 × Int32 × Int32 × Int64 × Int64 × Int64 × Int32 × Int32 × Int32
abbrev ce_Ga (o : ct_Ga) : va_E := .inr (2, [.int o.1, .int o.2.1, .int o.2.2.1, .long o.2.2.2.1, .long o.2.2.2.2.1, .long o.2.2.2.2.2.1, .int o.2.2.2.2.2.2.1, .int o.2.2.2.2.2.2.2.1, .int o.2.2.2.2.2.2.2.2])
abbrev ct_In : Type := Int32
abbrev ce_In (q0 : Nat) (o : ct_In) : va_E := .inr (3, [.ref q0, .int o])
abbrev ct_Ma : Type := Int32 × Int32 × Int32 × Int32 × Int32 × Int64
abbrev ce_Ma (q0 q1 : Nat) (o : ct_Ma) : va_E := .inr (4, [.ref q0, .ref q1, .int o.1, .int o.2.1, .int o.2.2.1, .int o.2.2.2.1, .int o.2.2.2.2.1, .long o.2.2.2.2.2])
abbrev ct_Pa : Type := Int32
abbrev ce_Pa (q0 q1 q2 : Nat) (o : ct_Pa) : va_E := .inr (5, [.ref q0, .ref q1, .ref q2, .int o])
abbrev ct_Pr : Type := Int32 × Int32
abbrev ce_Pr (q0 q1 : Nat) (o : ct_Pr) : va_E := .inr (6, [.ref q0, .ref q1, .int o.1, .int o.2])
abbrev ct_Sc : Type := Int32 × Int32 × Int32 × Int64
abbrev ce_Sc (q0 q1 q2 q3 q4 q5 q6 q7 q8 : Nat) (o : ct_Sc) : va_E := .inr (7, [.ref q0, .ref q1, .ref q2, .ref q3, .ref q4, .ref q5, .ref q6, .ref q7, .ref q8, .int o.1, .int o.2.1, .int o.2.2.1, .long o.2.2.2])
abbrev ct_Mo : Type := Int32 × Int32 × Int32 × Int32 × Int32 × Int64 × Int64 × Int64 × Int32 × Int32 × Int32 × Int32 × Int32 × Int64 × Int32
abbrev ce_Mo (q1 q2 q4 q7 q9 q11 q13 q14 q15 q24 q25 q26 q27 q28 q29 q30 q31 q32 q33 q34 : Nat) (o : ct_Mo) : va_E := .inr (8, [.int o.1, .ref q1, .ref q2, .int o.2.1, .ref q4, .int o.2.2.1, .int o.2.2.2.1, .ref q7, .int o.2.2.2.2.1, .ref q9, .long o.2.2.2.2.2.1, .ref q11, .long o.2.2.2.2.2.2.1, .ref q13, .ref q14, .ref q15, .long o.2.2.2.2.2.2.2.1, .int o.2.2.2.2.2.2.2.2.1, .int o.2.2.2.2.2.2.2.2.2.1, .int o.2.2.2.2.2.2.2.2.2.2.1, .int o.2.2.2.2.2.2.2.2.2.2.2.1, .int o.2.2.2.2.2.2.2.2.2.2.2.2.1, .long o.2.2.2.2.2.2.2.2.2.2.2.2.2.1, .int o.2.2.2.2.2.2.2.2.2.2.2.2.2.2, .ref q24, .ref q25, .ref q26, .ref q27, .ref q28, .ref q29, .ref q30, .ref q31, .ref q32, .ref q33, .ref q34])
