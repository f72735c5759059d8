theorem dSc_code_0 : decode cSc_code 0 = .ok (.iload_n 1, 1) := by decide +kernel
theorem dSc_code_1 : decode cSc_code 1 = .ok (.ifCond .lt 29, 3) := by decide +kernel
theorem dSc_code_4 : decode cSc_code 4 = .ok (.iload_n 1, 1) := by decide +kernel
theorem dSc_code_5 : decode cSc_code 5 = .ok (.bipush 16, 2) := by decide +kernel
theorem dSc_code_7 : decode cSc_code 7 = .ok (.if_icmp .ge 23, 3) := by decide +kernel
theorem dSc_code_10 : decode cSc_code 10 = .ok (.iload_n 2, 1) := by decide +kernel
theorem dSc_code_11 : decode cSc_code 11 = .ok (.ifCond .lt 19, 3) := by decide +kernel
theorem dSc_code_14 : decode cSc_code 14 = .ok (.iload_n 2, 1) := by decide +kernel
theorem dSc_code_15 : decode cSc_code 15 = .ok (.bipush 13, 2) := by decide +kernel
theorem dSc_code_17 : decode cSc_code 17 = .ok (.if_icmp .gt 13, 3) := by decide +kernel
theorem dSc_code_20 : decode cSc_code 20 = .ok (.aload_n 0, 1) := by decide +kernel
theorem dSc_code_21 : decode cSc_code 21 = .ok (.getfield 54, 3) := by decide +kernel
theorem dSc_code_24 : decode cSc_code 24 = .ok (.getfield 73, 3) := by decide +kernel
theorem dSc_code_27 : decode cSc_code 27 = .ok (.ifCond .eq 5, 3) := by decide +kernel
theorem dSc_code_30 : decode cSc_code 30 = .ok (.iconst 0, 1) := by decide +kernel
theorem dSc_code_31 : decode cSc_code 31 = .ok (.ireturn, 1) := by decide +kernel
theorem dSc_code_32 : decode cSc_code 32 = .ok (.aload_n 0, 1) := by decide +kernel
theorem dSc_code_33 : decode cSc_code 33 = .ok (.getfield 16, 3) := by decide +kernel
theorem dSc_code_36 : decode cSc_code 36 = .ok (.getfield 77, 3) := by decide +kernel
theorem dSc_code_39 : decode cSc_code 39 = .ok (.iload_n 1, 1) := by decide +kernel
theorem dSc_code_40 : decode cSc_code 40 = .ok (.iload_n 2, 1) := by decide +kernel
theorem dSc_code_41 : decode cSc_code 41 = .ok (.iastore, 1) := by decide +kernel
theorem dSc_code_42 : decode cSc_code 42 = .ok (.aload_n 0, 1) := by decide +kernel
theorem dSc_code_43 : decode cSc_code 43 = .ok (.getfield 16, 3) := by decide +kernel
theorem dSc_code_46 : decode cSc_code 46 = .ok (.getfield 80, 3) := by decide +kernel
theorem dSc_code_49 : decode cSc_code 49 = .ok (.iload_n 1, 1) := by decide +kernel
theorem dSc_code_50 : decode cSc_code 50 = .ok (.iload_n 3, 1) := by decide +kernel
theorem dSc_code_51 : decode cSc_code 51 = .ok (.iastore, 1) := by decide +kernel
theorem dSc_code_52 : decode cSc_code 52 = .ok (.iconst 1, 1) := by decide +kernel
theorem dSc_code_53 : decode cSc_code 53 = .ok (.ireturn, 1) := by decide +kernel
theorem dSc_block_0 : decode cSc_block 0 = .ok (.aload_n 0, 1) := by decide +kernel
theorem dSc_block_1 : decode cSc_block 1 = .ok (.dup, 1) := by decide +kernel
theorem dSc_block_2 : decode cSc_block 2 = .ok (.getfield 128, 3) := by decide +kernel
theorem dSc_block_5 : decode cSc_block 5 = .ok (.iconst 1, 1) := by decide +kernel
theorem dSc_block_6 : decode cSc_block 6 = .ok (.iadd, 1) := by decide +kernel
theorem dSc_block_7 : decode cSc_block 7 = .ok (.putfield 128, 3) := by decide +kernel
theorem dSc_block_10 : decode cSc_block 10 = .ok (.aload_n 0, 1) := by decide +kernel
theorem dSc_block_11 : decode cSc_block 11 = .ok (.invokevirtual 221, 3) := by decide +kernel
theorem dSc_block_14 : decode cSc_block 14 = .ok (.aload_n 0, 1) := by decide +kernel
theorem dSc_block_15 : decode cSc_block 15 = .ok (.invokevirtual 218, 3) := by decide +kernel
theorem dSc_block_18 : decode cSc_block 18 = .ok (.aload_n 0, 1) := by decide +kernel
theorem dSc_block_19 : decode cSc_block 19 = .ok (.getfield 128, 3) := by decide +kernel
theorem dSc_block_22 : decode cSc_block 22 = .ok (.ireturn, 1) := by decide +kernel
theorem dSc_balance_0 : decode cSc_balance 0 = .ok (.iload_n 1, 1) := by decide +kernel
theorem dSc_balance_1 : decode cSc_balance 1 = .ok (.invokestatic 251, 3) := by decide +kernel
theorem dSc_balance_4 : decode cSc_balance 4 = .ok (.ifCond .eq 12, 3) := by decide +kernel
theorem dSc_balance_7 : decode cSc_balance 7 = .ok (.aload_n 0, 1) := by decide +kernel
theorem dSc_balance_8 : decode cSc_balance 8 = .ok (.getfield 9, 3) := by decide +kernel
theorem dSc_balance_11 : decode cSc_balance 11 = .ok (.iload_n 1, 1) := by decide +kernel
theorem dSc_balance_12 : decode cSc_balance 12 = .ok (.iaload, 1) := by decide +kernel
theorem dSc_balance_13 : decode cSc_balance 13 = .ok (.goto 4, 3) := by decide +kernel
theorem dSc_balance_16 : decode cSc_balance 16 = .ok (.iconst (-1), 1) := by decide +kernel
theorem dSc_balance_17 : decode cSc_balance 17 = .ok (.ireturn, 1) := by decide +kernel
theorem dSc_pot_0 : decode cSc_pot 0 = .ok (.aload_n 0, 1) := by decide +kernel
theorem dSc_pot_1 : decode cSc_pot 1 = .ok (.getfield 103, 3) := by decide +kernel
theorem dSc_pot_4 : decode cSc_pot 4 = .ok (.ireturn, 1) := by decide +kernel
theorem dSc_word_0 : decode cSc_word 0 = .ok (.aload_n 0, 1) := by decide +kernel
theorem dSc_word_1 : decode cSc_word 1 = .ok (.getfield 23, 3) := by decide +kernel
theorem dSc_word_4 : decode cSc_word 4 = .ok (.iload_n 1, 1) := by decide +kernel
theorem dSc_word_5 : decode cSc_word 5 = .ok (.invokevirtual 254, 3) := by decide +kernel
theorem dSc_word_8 : decode cSc_word 8 = .ok (.ireturn, 1) := by decide +kernel
theorem dSc_truth_0 : decode cSc_truth 0 = .ok (.iload_n 1, 1) := by decide +kernel
theorem dSc_truth_1 : decode cSc_truth 1 = .ok (.ifCond .lt 9, 3) := by decide +kernel
theorem dSc_truth_4 : decode cSc_truth 4 = .ok (.iload_n 1, 1) := by decide +kernel
theorem dSc_truth_5 : decode cSc_truth 5 = .ok (.bipush 64, 2) := by decide +kernel
theorem dSc_truth_7 : decode cSc_truth 7 = .ok (.if_icmp .le 7, 3) := by decide +kernel
theorem dSc_truth_10 : decode cSc_truth 10 = .ok (.lconst 0, 1) := by decide +kernel
theorem dSc_truth_11 : decode cSc_truth 11 = .ok (.goto 8, 3) := by decide +kernel
theorem dSc_truth_14 : decode cSc_truth 14 = .ok (.aload_n 0, 1) := by decide +kernel
theorem dSc_truth_15 : decode cSc_truth 15 = .ok (.iload_n 1, 1) := by decide +kernel
theorem dSc_truth_16 : decode cSc_truth 16 = .ok (.invokevirtual 135, 3) := by decide +kernel
theorem dSc_truth_19 : decode cSc_truth 19 = .ok (.lreturn, 1) := by decide +kernel
theorem dSc_base_0 : decode cSc_base 0 = .ok (.aload_n 0, 1) := by decide +kernel
theorem dSc_base_1 : decode cSc_base 1 = .ok (.getfield 69, 3) := by decide +kernel
theorem dSc_base_4 : decode cSc_base 4 = .ok (.lreturn, 1) := by decide +kernel
theorem dSc_state_0 : decode cSc_state 0 = .ok (.iload_n 1, 1) := by decide +kernel
theorem dSc_state_1 : decode cSc_state 1 = .ok (.tableswitch 92 0 5 #[39, 48, 57, 66, 75, 84], 39) := by decide +kernel
theorem dSc_state_40 : decode cSc_state 40 = .ok (.aload_n 0, 1) := by decide +kernel
theorem dSc_state_41 : decode cSc_state 41 = .ok (.getfield 30, 3) := by decide +kernel
theorem dSc_state_44 : decode cSc_state 44 = .ok (.getfield 258, 3) := by decide +kernel
theorem dSc_state_47 : decode cSc_state 47 = .ok (.i2l, 1) := by decide +kernel
theorem dSc_state_48 : decode cSc_state 48 = .ok (.lreturn, 1) := by decide +kernel
theorem dSc_state_49 : decode cSc_state 49 = .ok (.aload_n 0, 1) := by decide +kernel
theorem dSc_state_50 : decode cSc_state 50 = .ok (.getfield 30, 3) := by decide +kernel
theorem dSc_state_53 : decode cSc_state 53 = .ok (.getfield 261, 3) := by decide +kernel
theorem dSc_state_56 : decode cSc_state 56 = .ok (.i2l, 1) := by decide +kernel
theorem dSc_state_57 : decode cSc_state 57 = .ok (.lreturn, 1) := by decide +kernel
theorem dSc_state_58 : decode cSc_state 58 = .ok (.aload_n 0, 1) := by decide +kernel
theorem dSc_state_59 : decode cSc_state 59 = .ok (.getfield 30, 3) := by decide +kernel
theorem dSc_state_62 : decode cSc_state 62 = .ok (.getfield 264, 3) := by decide +kernel
theorem dSc_state_65 : decode cSc_state 65 = .ok (.i2l, 1) := by decide +kernel
theorem dSc_state_66 : decode cSc_state 66 = .ok (.lreturn, 1) := by decide +kernel
theorem dSc_state_67 : decode cSc_state 67 = .ok (.aload_n 0, 1) := by decide +kernel
theorem dSc_state_68 : decode cSc_state 68 = .ok (.getfield 30, 3) := by decide +kernel
theorem dSc_state_71 : decode cSc_state 71 = .ok (.getfield 267, 3) := by decide +kernel
theorem dSc_state_74 : decode cSc_state 74 = .ok (.i2l, 1) := by decide +kernel
theorem dSc_state_75 : decode cSc_state 75 = .ok (.lreturn, 1) := by decide +kernel
theorem dSc_state_76 : decode cSc_state 76 = .ok (.aload_n 0, 1) := by decide +kernel
theorem dSc_state_77 : decode cSc_state 77 = .ok (.getfield 30, 3) := by decide +kernel
theorem dSc_state_80 : decode cSc_state 80 = .ok (.getfield 270, 3) := by decide +kernel
theorem dSc_state_83 : decode cSc_state 83 = .ok (.i2l, 1) := by decide +kernel
theorem dSc_state_84 : decode cSc_state 84 = .ok (.lreturn, 1) := by decide +kernel
theorem dSc_state_85 : decode cSc_state 85 = .ok (.aload_n 0, 1) := by decide +kernel
theorem dSc_state_86 : decode cSc_state 86 = .ok (.getfield 30, 3) := by decide +kernel
theorem dSc_state_89 : decode cSc_state 89 = .ok (.getfield 273, 3) := by decide +kernel
theorem dSc_state_92 : decode cSc_state 92 = .ok (.lreturn, 1) := by decide +kernel
theorem dSc_state_93 : decode cSc_state 93 = .ok (.aload_n 0, 1) := by decide +kernel
theorem dSc_state_94 : decode cSc_state 94 = .ok (.getfield 30, 3) := by decide +kernel
theorem dSc_state_97 : decode cSc_state 97 = .ok (.iload_n 1, 1) := by decide +kernel
theorem dSc_state_98 : decode cSc_state 98 = .ok (.i2l, 1) := by decide +kernel
theorem dSc_state_99 : decode cSc_state 99 = .ok (.ldc2_w 276, 3) := by decide +kernel
theorem dSc_state_102 : decode cSc_state 102 = .ok (.lsub, 1) := by decide +kernel
theorem dSc_state_103 : decode cSc_state 103 = .ok (.invokevirtual 278, 3) := by decide +kernel
theorem dSc_state_106 : decode cSc_state 106 = .ok (.lreturn, 1) := by decide +kernel
theorem dSc_assertion_0 : decode cSc_assertion 0 = .ok (.aload_n 0, 1) := by decide +kernel
theorem dSc_assertion_1 : decode cSc_assertion 1 = .ok (.getfield 54, 3) := by decide +kernel
theorem dSc_assertion_4 : decode cSc_assertion 4 = .ok (.getfield 115, 3) := by decide +kernel
theorem dSc_assertion_7 : decode cSc_assertion 7 = .ok (.ifCond .ne 7, 3) := by decide +kernel
theorem dSc_assertion_10 : decode cSc_assertion 10 = .ok (.ldc2_w 282, 3) := by decide +kernel
theorem dSc_assertion_13 : decode cSc_assertion 13 = .ok (.lreturn, 1) := by decide +kernel
theorem dSc_assertion_14 : decode cSc_assertion 14 = .ok (.iload_n 1, 1) := by decide +kernel
theorem dSc_assertion_15 : decode cSc_assertion 15 = .ok (.tableswitch 97 0 6 #[41, 50, 59, 68, 77, 85, 91], 41) := by decide +kernel
theorem dSc_assertion_56 : decode cSc_assertion 56 = .ok (.aload_n 0, 1) := by decide +kernel
theorem dSc_assertion_57 : decode cSc_assertion 57 = .ok (.getfield 54, 3) := by decide +kernel
theorem dSc_assertion_60 : decode cSc_assertion 60 = .ok (.getfield 142, 3) := by decide +kernel
theorem dSc_assertion_63 : decode cSc_assertion 63 = .ok (.i2l, 1) := by decide +kernel
theorem dSc_assertion_64 : decode cSc_assertion 64 = .ok (.lreturn, 1) := by decide +kernel
theorem dSc_assertion_65 : decode cSc_assertion 65 = .ok (.aload_n 0, 1) := by decide +kernel
theorem dSc_assertion_66 : decode cSc_assertion 66 = .ok (.getfield 54, 3) := by decide +kernel
theorem dSc_assertion_69 : decode cSc_assertion 69 = .ok (.getfield 154, 3) := by decide +kernel
theorem dSc_assertion_72 : decode cSc_assertion 72 = .ok (.i2l, 1) := by decide +kernel
theorem dSc_assertion_73 : decode cSc_assertion 73 = .ok (.lreturn, 1) := by decide +kernel
theorem dSc_assertion_74 : decode cSc_assertion 74 = .ok (.aload_n 0, 1) := by decide +kernel
theorem dSc_assertion_75 : decode cSc_assertion 75 = .ok (.getfield 54, 3) := by decide +kernel
theorem dSc_assertion_78 : decode cSc_assertion 78 = .ok (.getfield 190, 3) := by decide +kernel
theorem dSc_assertion_81 : decode cSc_assertion 81 = .ok (.i2l, 1) := by decide +kernel
theorem dSc_assertion_82 : decode cSc_assertion 82 = .ok (.lreturn, 1) := by decide +kernel
theorem dSc_assertion_83 : decode cSc_assertion 83 = .ok (.aload_n 0, 1) := by decide +kernel
theorem dSc_assertion_84 : decode cSc_assertion 84 = .ok (.getfield 54, 3) := by decide +kernel
theorem dSc_assertion_87 : decode cSc_assertion 87 = .ok (.getfield 284, 3) := by decide +kernel
theorem dSc_assertion_90 : decode cSc_assertion 90 = .ok (.i2l, 1) := by decide +kernel
theorem dSc_assertion_91 : decode cSc_assertion 91 = .ok (.lreturn, 1) := by decide +kernel
theorem dSc_assertion_92 : decode cSc_assertion 92 = .ok (.aload_n 0, 1) := by decide +kernel
theorem dSc_assertion_93 : decode cSc_assertion 93 = .ok (.getfield 54, 3) := by decide +kernel
theorem dSc_assertion_96 : decode cSc_assertion 96 = .ok (.getfield 139, 3) := by decide +kernel
theorem dSc_assertion_99 : decode cSc_assertion 99 = .ok (.lreturn, 1) := by decide +kernel
theorem dSc_assertion_100 : decode cSc_assertion 100 = .ok (.aload_n 0, 1) := by decide +kernel
theorem dSc_assertion_101 : decode cSc_assertion 101 = .ok (.getfield 149, 3) := by decide +kernel
theorem dSc_assertion_104 : decode cSc_assertion 104 = .ok (.i2l, 1) := by decide +kernel
theorem dSc_assertion_105 : decode cSc_assertion 105 = .ok (.lreturn, 1) := by decide +kernel
theorem dSc_assertion_106 : decode cSc_assertion 106 = .ok (.aload_n 0, 1) := by decide +kernel
theorem dSc_assertion_107 : decode cSc_assertion 107 = .ok (.invokevirtual 287, 3) := by decide +kernel
theorem dSc_assertion_110 : decode cSc_assertion 110 = .ok (.i2l, 1) := by decide +kernel
theorem dSc_assertion_111 : decode cSc_assertion 111 = .ok (.lreturn, 1) := by decide +kernel
theorem dSc_assertion_112 : decode cSc_assertion 112 = .ok (.ldc2_w 282, 3) := by decide +kernel
theorem dSc_assertion_115 : decode cSc_assertion 115 = .ok (.lreturn, 1) := by decide +kernel
theorem dSc_game_0 : decode cSc_game 0 = .ok (.aload_n 0, 1) := by decide +kernel
theorem dSc_game_1 : decode cSc_game 1 = .ok (.iload_n 1, 1) := by decide +kernel
theorem dSc_game_2 : decode cSc_game 2 = .ok (.invokevirtual 290, 3) := by decide +kernel
theorem dSc_game_5 : decode cSc_game 5 = .ok (.ifCond .ne 7, 3) := by decide +kernel
theorem dSc_game_8 : decode cSc_game 8 = .ok (.ldc2_w 282, 3) := by decide +kernel
theorem dSc_game_11 : decode cSc_game 11 = .ok (.lreturn, 1) := by decide +kernel
theorem dSc_game_12 : decode cSc_game 12 = .ok (.aload_n 0, 1) := by decide +kernel
theorem dSc_game_13 : decode cSc_game 13 = .ok (.getfield 60, 3) := by decide +kernel
theorem dSc_game_16 : decode cSc_game 16 = .ok (.iload_n 1, 1) := by decide +kernel
theorem dSc_game_17 : decode cSc_game 17 = .ok (.aaload, 1) := by decide +kernel
theorem dSc_game_18 : decode cSc_game 18 = .ok (.astore_n 3, 1) := by decide +kernel
theorem dSc_game_19 : decode cSc_game 19 = .ok (.iload_n 2, 1) := by decide +kernel
theorem dSc_game_20 : decode cSc_game 20 = .ok (.tableswitch 93 0 7 #[48, 54, 60, 66, 71, 76, 81, 87], 48) := by decide +kernel
theorem dSc_game_68 : decode cSc_game 68 = .ok (.aload_n 3, 1) := by decide +kernel
theorem dSc_game_69 : decode cSc_game 69 = .ok (.getfield 293, 3) := by decide +kernel
theorem dSc_game_72 : decode cSc_game 72 = .ok (.i2l, 1) := by decide +kernel
theorem dSc_game_73 : decode cSc_game 73 = .ok (.lreturn, 1) := by decide +kernel
theorem dSc_game_74 : decode cSc_game 74 = .ok (.aload_n 3, 1) := by decide +kernel
theorem dSc_game_75 : decode cSc_game 75 = .ok (.getfield 185, 3) := by decide +kernel
theorem dSc_game_78 : decode cSc_game 78 = .ok (.i2l, 1) := by decide +kernel
theorem dSc_game_79 : decode cSc_game 79 = .ok (.lreturn, 1) := by decide +kernel
theorem dSc_game_80 : decode cSc_game 80 = .ok (.aload_n 3, 1) := by decide +kernel
theorem dSc_game_81 : decode cSc_game 81 = .ok (.getfield 182, 3) := by decide +kernel
theorem dSc_game_84 : decode cSc_game 84 = .ok (.i2l, 1) := by decide +kernel
theorem dSc_game_85 : decode cSc_game 85 = .ok (.lreturn, 1) := by decide +kernel
theorem dSc_game_86 : decode cSc_game 86 = .ok (.aload_n 3, 1) := by decide +kernel
theorem dSc_game_87 : decode cSc_game 87 = .ok (.getfield 204, 3) := by decide +kernel
theorem dSc_game_90 : decode cSc_game 90 = .ok (.lreturn, 1) := by decide +kernel
theorem dSc_game_91 : decode cSc_game 91 = .ok (.aload_n 3, 1) := by decide +kernel
theorem dSc_game_92 : decode cSc_game 92 = .ok (.getfield 207, 3) := by decide +kernel
theorem dSc_game_95 : decode cSc_game 95 = .ok (.lreturn, 1) := by decide +kernel
theorem dSc_game_96 : decode cSc_game 96 = .ok (.aload_n 3, 1) := by decide +kernel
theorem dSc_game_97 : decode cSc_game 97 = .ok (.getfield 175, 3) := by decide +kernel
theorem dSc_game_100 : decode cSc_game 100 = .ok (.lreturn, 1) := by decide +kernel
theorem dSc_game_101 : decode cSc_game 101 = .ok (.aload_n 3, 1) := by decide +kernel
theorem dSc_game_102 : decode cSc_game 102 = .ok (.getfield 296, 3) := by decide +kernel
theorem dSc_game_105 : decode cSc_game 105 = .ok (.i2l, 1) := by decide +kernel
theorem dSc_game_106 : decode cSc_game 106 = .ok (.lreturn, 1) := by decide +kernel
theorem dSc_game_107 : decode cSc_game 107 = .ok (.aload_n 3, 1) := by decide +kernel
theorem dSc_game_108 : decode cSc_game 108 = .ok (.invokevirtual 299, 3) := by decide +kernel
theorem dSc_game_111 : decode cSc_game 111 = .ok (.i2l, 1) := by decide +kernel
theorem dSc_game_112 : decode cSc_game 112 = .ok (.lreturn, 1) := by decide +kernel
theorem dSc_game_113 : decode cSc_game 113 = .ok (.ldc2_w 282, 3) := by decide +kernel
theorem dSc_game_116 : decode cSc_game 116 = .ok (.lreturn, 1) := by decide +kernel
abbrev ww_Sc_code (h0 h0_code h0_code_ops h0_code_arguments h0_assertion h0_balances h0_inbox h0_trueState h0_scratch h0_payments h0_proof h0_games : Nat) (c0_code_ops c0_code_arguments : ClassId) (u : ct_Sc × (Nat → Int32) × (Nat → Int32) × ct_As) : va_W := [(h0, ce_Sc h0_balances h0_code h0_inbox h0_trueState h0_scratch h0_payments h0_proof h0_assertion h0_games u.1), (h0_code, ce_Co h0_code_ops h0_code_arguments), (h0_code_ops, .inl (c0_code_ops, 16, .inl u.2.1)), (h0_code_arguments, .inl (c0_code_arguments, 16, .inl u.2.2.1)), (h0_assertion, ce_As u.2.2.2)]
def wp_Sc_code (post : Int32 → (ct_Sc × (Nat → Int32) × (Nat → Int32) × ct_As) → Prop) (u : ct_Sc × (Nat → Int32) × (Nat → Int32) × ct_As) (k1 : Int32) (k2 : Int32) (k3 : Int32) : Prop := ((k1 < 0 → (post 0 (u.1, u.2.1, u.2.2.1, u.2.2.2))) ∧ (¬ k1 < 0 → (((16 ≤ k1 → (post 0 (u.1, u.2.1, u.2.2.1, u.2.2.2))) ∧ (¬ 16 ≤ k1 → (((k2 < 0 → (post 0 (u.1, u.2.1, u.2.2.1, u.2.2.2))) ∧ (¬ k2 < 0 → (((13 < k2 → (post 0 (u.1, u.2.1, u.2.2.1, u.2.2.2))) ∧ (¬ 13 < k2 → (((u.2.2.2.2.1 = 0 → (vp_in k1 16 ∧ (vp_in k1 16 ∧ (post 1 (u.1, (upd u.2.1 k1.toNatClampNeg k2), (upd u.2.2.1 k1.toNatClampNeg k3), u.2.2.2))))) ∧ (¬ u.2.2.2.2.1 = 0 → (post 0 (u.1, u.2.1, u.2.2.1, u.2.2.2))))))))))))))))
set_option maxHeartbeats 4000000 in
set_option maxRecDepth 100000 in
theorem mt_Sc_code (l : Launch) (dC : Nat → ClassId) (dI : Nat → Nat → Nat) (h0 h0_code h0_code_ops h0_code_arguments h0_assertion h0_balances h0_inbox h0_trueState h0_scratch h0_payments h0_proof h0_games : Nat) (c0_code_ops c0_code_arguments : ClassId) (sz : Nat) (post : Int32 → (ct_Sc × (Nat → Int32) × (Nat → Int32) × ct_As) → Prop) (u : ct_Sc × (Nat → Int32) × (Nat → Int32) × ct_As) (k1 : Int32) (k2 : Int32) (k3 : Int32) (hw : wp_Sc_code post u k1 k2 k3) : Met l ySc_code wsSc_code ({ frames := 0, cells := 0, slots := 0, locals := 0 }) (kp_P dC dI [.ref h0, .int k1, .int k2, .int k3] sz (ww_Sc_code h0 h0_code h0_code_ops h0_code_arguments h0_assertion h0_balances h0_inbox h0_trueState h0_scratch h0_payments h0_proof h0_games c0_code_ops c0_code_arguments u) [(c0_code_ops, .int), (c0_code_arguments, .int)]) (va_Qi post (fun u9 => kp_B dC dI (va_A (ww_Sc_code h0 h0_code h0_code_ops h0_code_arguments h0_assertion h0_balances h0_inbox h0_trueState h0_scratch h0_payments h0_proof h0_games c0_code_ops c0_code_arguments u) sz) (ww_Sc_code h0 h0_code h0_code_ops h0_code_arguments h0_assertion h0_balances h0_inbox h0_trueState h0_scratch h0_payments h0_proof h0_games c0_code_ops c0_code_arguments u9) [(c0_code_ops, .int), (c0_code_arguments, .int)]) (va_A (ww_Sc_code h0 h0_code h0_code_ops h0_code_arguments h0_assertion h0_balances h0_inbox h0_trueState h0_scratch h0_payments h0_proof h0_games c0_code_ops c0_code_arguments u) sz)) 0 0 (va_A (ww_Sc_code h0 h0_code h0_code_ops h0_code_arguments h0_assertion h0_balances h0_inbox h0_trueState h0_scratch h0_payments h0_proof h0_games c0_code_ops c0_code_arguments u) sz) := by
  refine Met.ofW (cc := cSc_code) (maxL := 4) (ret := (some .boolean)) (by decide) rfl ?_
  intro p e s m args below meth c s₁ B hml hv
  obtain ⟨rfl, hsz, hP, hK, hD0, hZ⟩ := hv
  have hx := B.exec
  have hb := B.bytes
  have hr := B.returns
  have hq : ∀ w ∈ wz, w.before _ s = true := fun w h => atoms_spec (ws := wsSc_code) B.pre w (List.mem_cons_of_mem _ h)
  have hown : s.vm.findClass "StepCourt" = some m.cls := findClass_of_methodNamed B.named
  have hlocks := B.notSynchronized
  subst hsz
  have hD := hD0.self (sz := s.heap.size)
  generalize hAe : va_A (ww_Sc_code h0 h0_code h0_code_ops h0_code_arguments h0_assertion h0_balances h0_inbox h0_trueState h0_scratch h0_payments h0_proof h0_games c0_code_ops c0_code_arguments u) s.heap.size = A at hD ⊢
  have hA : ∀ q : Nat, s.heap.size ≤ q → A q := fun q h => by rw [← hAe]; exact Or.inr h
  have hS : va_S A s.heap s.heap [] := va_S.rf
  have hP : va_P (dC, dI) vwCl [(h0, ce_Sc h0_balances h0_code h0_inbox h0_trueState h0_scratch h0_payments h0_proof h0_assertion h0_games u.1), (h0_code, ce_Co h0_code_ops h0_code_arguments), (h0_code_ops, .inl (c0_code_ops, 16, .inl u.2.1)), (h0_code_arguments, .inl (c0_code_arguments, 16, .inl u.2.2.1)), (h0_assertion, ce_As u.2.2.2)] s.heap := hP
  have hD : va_D A [(h0, ce_Sc h0_balances h0_code h0_inbox h0_trueState h0_scratch h0_payments h0_proof h0_assertion h0_games u.1), (h0_code, ce_Co h0_code_ops h0_code_arguments), (h0_code_ops, .inl (c0_code_ops, 16, .inl u.2.1)), (h0_code_arguments, .inl (c0_code_arguments, 16, .inl u.2.2.1)), (h0_assertion, ce_As u.2.2.2)] := hD
  have hl := lv_entry ([.ref h0, .int k1, .int k2, .int k3]) (n := 4) (Nat.le_of_ble_eq_true rfl)
  rw [lg_entry_eq]
  generalize (lg_sl ([.ref h0, .int k1, .int k2, .int k3]) ++ List.replicate (4 - (lg_sl ([.ref h0, .int k1, .int k2, .int k3])).length) Slot.unset).toArray = ls at hl ⊢
  have hl : lv_has ls 4 [(0, .ref h0), (1, .int k1), (2, .int k2), (3, .int k3)] := hl
  skip
  refine lv_iload_n hx hb dSc_code_0 rfl (lv_at hl 1 rfl) ?_
  refine lv_if_lt (tgt := 30) hx hb dSc_code_1 (by decide) (fun cc1 => ?_) (fun cc1 => ?_)
  · have hw := hw.1 cc1
    refine lv_iconst (v := 0) hx hb dSc_code_30 (by decide) ?_
    have hP9 := hP.sub (ws' := [(h0, ce_Sc h0_balances h0_code h0_inbox h0_trueState h0_scratch h0_payments h0_proof h0_assertion h0_games u.1), (h0_code, ce_Co h0_code_ops h0_code_arguments), (h0_code_ops, .inl (c0_code_ops, 16, .inl u.2.1)), (h0_code_arguments, .inl (c0_code_arguments, 16, .inl u.2.2.1)), (h0_assertion, ce_As u.2.2.2)]) [0, 1, 2, 3, 4] rfl
    have hD9 := hD.sub (ws' := [(h0, ce_Sc h0_balances h0_code h0_inbox h0_trueState h0_scratch h0_payments h0_proof h0_assertion h0_games u.1), (h0_code, ce_Co h0_code_ops h0_code_arguments), (h0_code_ops, .inl (c0_code_ops, 16, .inl u.2.1)), (h0_code_arguments, .inl (c0_code_arguments, 16, .inl u.2.2.1)), (h0_assertion, ce_As u.2.2.2)]) [0, 1, 2, 3, 4] (by decide) rfl
    have hK9 := hK.sub (tys' := [(c0_code_ops, .int), (c0_code_arguments, .int)]) [0, 1] rfl
    exact W.zret (v := 0) hx hb hr rfl (fun t ht hW => ⟨⟨0, (u.1, u.2.1, u.2.2.1, u.2.2.2), rfl, hw, by rw [ht]; exact hP9, va_K.moved hW.alike hK9, hD9⟩, hS.F ht⟩) hS.2.2 dSc_code_31
  · have hw := hw.2 cc1
    refine lv_iload_n hx hb dSc_code_4 rfl (lv_at hl 1 rfl) ?_
    refine lv_bipush (v := 16) hx hb dSc_code_5 (by decide) ?_
    refine lv_icmp_ge (tgt := 30) hx hb dSc_code_7 (by decide) (fun cc2 => ?_) (fun cc2 => ?_)
    · have hw := hw.1 cc2
      refine lv_iconst (v := 0) hx hb dSc_code_30 (by decide) ?_
      have hP9 := hP.sub (ws' := [(h0, ce_Sc h0_balances h0_code h0_inbox h0_trueState h0_scratch h0_payments h0_proof h0_assertion h0_games u.1), (h0_code, ce_Co h0_code_ops h0_code_arguments), (h0_code_ops, .inl (c0_code_ops, 16, .inl u.2.1)), (h0_code_arguments, .inl (c0_code_arguments, 16, .inl u.2.2.1)), (h0_assertion, ce_As u.2.2.2)]) [0, 1, 2, 3, 4] rfl
      have hD9 := hD.sub (ws' := [(h0, ce_Sc h0_balances h0_code h0_inbox h0_trueState h0_scratch h0_payments h0_proof h0_assertion h0_games u.1), (h0_code, ce_Co h0_code_ops h0_code_arguments), (h0_code_ops, .inl (c0_code_ops, 16, .inl u.2.1)), (h0_code_arguments, .inl (c0_code_arguments, 16, .inl u.2.2.1)), (h0_assertion, ce_As u.2.2.2)]) [0, 1, 2, 3, 4] (by decide) rfl
      have hK9 := hK.sub (tys' := [(c0_code_ops, .int), (c0_code_arguments, .int)]) [0, 1] rfl
      exact W.zret (v := 0) hx hb hr rfl (fun t ht hW => ⟨⟨0, (u.1, u.2.1, u.2.2.1, u.2.2.2), rfl, hw, by rw [ht]; exact hP9, va_K.moved hW.alike hK9, hD9⟩, hS.F ht⟩) hS.2.2 dSc_code_31
    · have hw := hw.2 cc2
      refine lv_iload_n hx hb dSc_code_10 rfl (lv_at hl 2 rfl) ?_
      refine lv_if_lt (tgt := 30) hx hb dSc_code_11 (by decide) (fun cc3 => ?_) (fun cc3 => ?_)
      · have hw := hw.1 cc3
        refine lv_iconst (v := 0) hx hb dSc_code_30 (by decide) ?_
        have hP9 := hP.sub (ws' := [(h0, ce_Sc h0_balances h0_code h0_inbox h0_trueState h0_scratch h0_payments h0_proof h0_assertion h0_games u.1), (h0_code, ce_Co h0_code_ops h0_code_arguments), (h0_code_ops, .inl (c0_code_ops, 16, .inl u.2.1)), (h0_code_arguments, .inl (c0_code_arguments, 16, .inl u.2.2.1)), (h0_assertion, ce_As u.2.2.2)]) [0, 1, 2, 3, 4] rfl
        have hD9 := hD.sub (ws' := [(h0, ce_Sc h0_balances h0_code h0_inbox h0_trueState h0_scratch h0_payments h0_proof h0_assertion h0_games u.1), (h0_code, ce_Co h0_code_ops h0_code_arguments), (h0_code_ops, .inl (c0_code_ops, 16, .inl u.2.1)), (h0_code_arguments, .inl (c0_code_arguments, 16, .inl u.2.2.1)), (h0_assertion, ce_As u.2.2.2)]) [0, 1, 2, 3, 4] (by decide) rfl
        have hK9 := hK.sub (tys' := [(c0_code_ops, .int), (c0_code_arguments, .int)]) [0, 1] rfl
        exact W.zret (v := 0) hx hb hr rfl (fun t ht hW => ⟨⟨0, (u.1, u.2.1, u.2.2.1, u.2.2.2), rfl, hw, by rw [ht]; exact hP9, va_K.moved hW.alike hK9, hD9⟩, hS.F ht⟩) hS.2.2 dSc_code_31
      · have hw := hw.2 cc3
        refine lv_iload_n hx hb dSc_code_14 rfl (lv_at hl 2 rfl) ?_
        refine lv_bipush (v := 13) hx hb dSc_code_15 (by decide) ?_
        refine lv_icmp_gt (tgt := 30) hx hb dSc_code_17 (by decide) (fun cc4 => ?_) (fun cc4 => ?_)
        · have hw := hw.1 cc4
          refine lv_iconst (v := 0) hx hb dSc_code_30 (by decide) ?_
          have hP9 := hP.sub (ws' := [(h0, ce_Sc h0_balances h0_code h0_inbox h0_trueState h0_scratch h0_payments h0_proof h0_assertion h0_games u.1), (h0_code, ce_Co h0_code_ops h0_code_arguments), (h0_code_ops, .inl (c0_code_ops, 16, .inl u.2.1)), (h0_code_arguments, .inl (c0_code_arguments, 16, .inl u.2.2.1)), (h0_assertion, ce_As u.2.2.2)]) [0, 1, 2, 3, 4] rfl
          have hD9 := hD.sub (ws' := [(h0, ce_Sc h0_balances h0_code h0_inbox h0_trueState h0_scratch h0_payments h0_proof h0_assertion h0_games u.1), (h0_code, ce_Co h0_code_ops h0_code_arguments), (h0_code_ops, .inl (c0_code_ops, 16, .inl u.2.1)), (h0_code_arguments, .inl (c0_code_arguments, 16, .inl u.2.2.1)), (h0_assertion, ce_As u.2.2.2)]) [0, 1, 2, 3, 4] (by decide) rfl
          have hK9 := hK.sub (tys' := [(c0_code_ops, .int), (c0_code_arguments, .int)]) [0, 1] rfl
          exact W.zret (v := 0) hx hb hr rfl (fun t ht hW => ⟨⟨0, (u.1, u.2.1, u.2.2.1, u.2.2.2), rfl, hw, by rw [ht]; exact hP9, va_K.moved hW.alike hK9, hD9⟩, hS.F ht⟩) hS.2.2 dSc_code_31
        · have hw := hw.2 cc4
          refine lv_aload_n hx hb dSc_code_20 rfl (lv_at hl 0 rfl) ?_
          refine va_get (D := (dC, dI)) (ci := 7) (v := .ref h0_assertion) (C := "StepCourt") (T := TSc) (N := 13) hx hb hq inSc hown hK hP 0 rfl rfl 7 (by decide) (hq _ wt_261) (fun _ h9 => h9) rfl dSc_code_21 ?_
          refine va_getN (D := (dC, dI)) (ci := 0) (v := .int u.2.2.2.2.1) (C := "StepCourt$Assertion") (T := TAs) (N := 7) hx hb hq inAs hown hK hP 4 rfl rfl 1 (by decide) (va_Nw.use rfl (hZ.1 _ zt_160)) (fun _ h9 => h9) rfl dSc_code_24 ?_
          refine lv_if_eq (tgt := 32) hx hb dSc_code_27 (by decide) (fun cc5 => ?_) (fun cc5 => ?_)
          · have hw := hw.1 cc5
            refine lv_aload_n hx hb dSc_code_32 rfl (lv_at hl 0 rfl) ?_
            refine va_get (D := (dC, dI)) (ci := 7) (v := .ref h0_code) (C := "StepCourt") (T := TSc) (N := 13) hx hb hq inSc hown hK hP 0 rfl rfl 1 (by decide) (hq _ wt_255) (fun _ h9 => h9) rfl dSc_code_33 ?_
            refine va_getN (D := (dC, dI)) (ci := 1) (v := .ref h0_code_ops) (C := "StepCourt$Code") (T := TCo) (N := 2) hx hb hq inCo hown hK hP 1 rfl rfl 0 (by decide) (va_Nw.use rfl (hZ.1 _ zt_34)) (fun _ h9 => h9) rfl dSc_code_36 ?_
            refine lv_iload_n hx hb dSc_code_39 rfl (lv_at hl 1 rfl) ?_
            refine lv_iload_n hx hb dSc_code_40 rfl (lv_at hl 2 rfl) ?_
            obtain ⟨hh6, hw⟩ := hw
            refine va_iast hx hb hK hP hD hS 2 0 rfl rfl hh6 dSc_code_41 (fun H locs hP hD hS => ?_)
            have hP : va_P (dC, dI) vwCl [(h0, ce_Sc h0_balances h0_code h0_inbox h0_trueState h0_scratch h0_payments h0_proof h0_assertion h0_games u.1), (h0_code, ce_Co h0_code_ops h0_code_arguments), (h0_code_ops, .inl (c0_code_ops, 16, .inl (upd u.2.1 k1.toNatClampNeg k2))), (h0_code_arguments, .inl (c0_code_arguments, 16, .inl u.2.2.1)), (h0_assertion, ce_As u.2.2.2)] H := hP
            have hD : va_D A [(h0, ce_Sc h0_balances h0_code h0_inbox h0_trueState h0_scratch h0_payments h0_proof h0_assertion h0_games u.1), (h0_code, ce_Co h0_code_ops h0_code_arguments), (h0_code_ops, .inl (c0_code_ops, 16, .inl (upd u.2.1 k1.toNatClampNeg k2))), (h0_code_arguments, .inl (c0_code_arguments, 16, .inl u.2.2.1)), (h0_assertion, ce_As u.2.2.2)] := hD
            refine lv_aload_n hx hb dSc_code_42 rfl (lv_at hl 0 rfl) ?_
            refine va_get (D := (dC, dI)) (ci := 7) (v := .ref h0_code) (C := "StepCourt") (T := TSc) (N := 13) hx hb hq inSc hown hK hP 0 rfl rfl 1 (by decide) (hq _ wt_255) (fun _ h9 => h9) rfl dSc_code_43 ?_
            refine va_getN (D := (dC, dI)) (ci := 1) (v := .ref h0_code_arguments) (C := "StepCourt$Code") (T := TCo) (N := 2) hx hb hq inCo hown hK hP 1 rfl rfl 1 (by decide) (va_Nw.use rfl (hZ.1 _ zt_37)) (fun _ h9 => h9) rfl dSc_code_46 ?_
            refine lv_iload_n hx hb dSc_code_49 rfl (lv_at hl 1 rfl) ?_
            refine lv_iload_n hx hb dSc_code_50 rfl (lv_at hl 3 rfl) ?_
            obtain ⟨hh7, hw⟩ := hw
            refine va_iast hx hb hK hP hD hS 3 1 rfl rfl hh7 dSc_code_51 (fun H locs hP hD hS => ?_)
            have hP : va_P (dC, dI) vwCl [(h0, ce_Sc h0_balances h0_code h0_inbox h0_trueState h0_scratch h0_payments h0_proof h0_assertion h0_games u.1), (h0_code, ce_Co h0_code_ops h0_code_arguments), (h0_code_ops, .inl (c0_code_ops, 16, .inl (upd u.2.1 k1.toNatClampNeg k2))), (h0_code_arguments, .inl (c0_code_arguments, 16, .inl (upd u.2.2.1 k1.toNatClampNeg k3))), (h0_assertion, ce_As u.2.2.2)] H := hP
            have hD : va_D A [(h0, ce_Sc h0_balances h0_code h0_inbox h0_trueState h0_scratch h0_payments h0_proof h0_assertion h0_games u.1), (h0_code, ce_Co h0_code_ops h0_code_arguments), (h0_code_ops, .inl (c0_code_ops, 16, .inl (upd u.2.1 k1.toNatClampNeg k2))), (h0_code_arguments, .inl (c0_code_arguments, 16, .inl (upd u.2.2.1 k1.toNatClampNeg k3))), (h0_assertion, ce_As u.2.2.2)] := hD
            refine lv_iconst (v := 1) hx hb dSc_code_52 (by decide) ?_
            have hP9 := hP.sub (ws' := [(h0, ce_Sc h0_balances h0_code h0_inbox h0_trueState h0_scratch h0_payments h0_proof h0_assertion h0_games u.1), (h0_code, ce_Co h0_code_ops h0_code_arguments), (h0_code_ops, .inl (c0_code_ops, 16, .inl (upd u.2.1 k1.toNatClampNeg k2))), (h0_code_arguments, .inl (c0_code_arguments, 16, .inl (upd u.2.2.1 k1.toNatClampNeg k3))), (h0_assertion, ce_As u.2.2.2)]) [0, 1, 2, 3, 4] rfl
            have hD9 := hD.sub (ws' := [(h0, ce_Sc h0_balances h0_code h0_inbox h0_trueState h0_scratch h0_payments h0_proof h0_assertion h0_games u.1), (h0_code, ce_Co h0_code_ops h0_code_arguments), (h0_code_ops, .inl (c0_code_ops, 16, .inl (upd u.2.1 k1.toNatClampNeg k2))), (h0_code_arguments, .inl (c0_code_arguments, 16, .inl (upd u.2.2.1 k1.toNatClampNeg k3))), (h0_assertion, ce_As u.2.2.2)]) [0, 1, 2, 3, 4] (by decide) rfl
            have hK9 := hK.sub (tys' := [(c0_code_ops, .int), (c0_code_arguments, .int)]) [0, 1] rfl
            exact W.zret (v := 1) hx hb hr rfl (fun t ht hW => ⟨⟨1, (u.1, (upd u.2.1 k1.toNatClampNeg k2), (upd u.2.2.1 k1.toNatClampNeg k3), u.2.2.2), rfl, hw, by rw [ht]; exact hP9, va_K.moved hW.alike hK9, hD9⟩, hS.F ht⟩) hS.2.2 dSc_code_53
          · have hw := hw.2 cc5
            refine lv_iconst (v := 0) hx hb dSc_code_30 (by decide) ?_
            have hP9 := hP.sub (ws' := [(h0, ce_Sc h0_balances h0_code h0_inbox h0_trueState h0_scratch h0_payments h0_proof h0_assertion h0_games u.1), (h0_code, ce_Co h0_code_ops h0_code_arguments), (h0_code_ops, .inl (c0_code_ops, 16, .inl u.2.1)), (h0_code_arguments, .inl (c0_code_arguments, 16, .inl u.2.2.1)), (h0_assertion, ce_As u.2.2.2)]) [0, 1, 2, 3, 4] rfl
            have hD9 := hD.sub (ws' := [(h0, ce_Sc h0_balances h0_code h0_inbox h0_trueState h0_scratch h0_payments h0_proof h0_assertion h0_games u.1), (h0_code, ce_Co h0_code_ops h0_code_arguments), (h0_code_ops, .inl (c0_code_ops, 16, .inl u.2.1)), (h0_code_arguments, .inl (c0_code_arguments, 16, .inl u.2.2.1)), (h0_assertion, ce_As u.2.2.2)]) [0, 1, 2, 3, 4] (by decide) rfl
            have hK9 := hK.sub (tys' := [(c0_code_ops, .int), (c0_code_arguments, .int)]) [0, 1] rfl
            exact W.zret (v := 0) hx hb hr rfl (fun t ht hW => ⟨⟨0, (u.1, u.2.1, u.2.2.1, u.2.2.2), rfl, hw, by rw [ht]; exact hP9, va_K.moved hW.alike hK9, hD9⟩, hS.F ht⟩) hS.2.2 dSc_code_31
abbrev ww_Sc_block (h0 h0_balances h0_code h0_code_ops h0_code_arguments h0_inbox h0_inbox_words h0_trueState h0_trueState_cells h0_payments h0_payments_receivers h0_payments_amounts h0_assertion h0_games h0_games_0 h0_games_1 h0_games_2 h0_scratch h0_proof h0_trueState_tree h0_payments_drawn : Nat) (c0_balances c0_code_ops c0_code_arguments c0_inbox_words c0_trueState_cells c0_payments_receivers c0_payments_amounts c0_games : ClassId) (u : ct_Sc × (Nat → Int32) × (Nat → Int32) × (Nat → Int32) × ct_In × (Nat → Int32) × ct_Ma × (Nat → Int32) × ct_Pa × (Nat → Int32) × (Nat → Int32) × ct_As × ct_Ga × ct_Ga × ct_Ga) : va_W := [(h0, ce_Sc h0_balances h0_code h0_inbox h0_trueState h0_scratch h0_payments h0_proof h0_assertion h0_games u.1), (h0_balances, .inl (c0_balances, 4, .inl u.2.1)), (h0_code, ce_Co h0_code_ops h0_code_arguments), (h0_code_ops, .inl (c0_code_ops, 16, .inl u.2.2.1)), (h0_code_arguments, .inl (c0_code_arguments, 16, .inl u.2.2.2.1)), (h0_inbox, ce_In h0_inbox_words u.2.2.2.2.1), (h0_inbox_words, .inl (c0_inbox_words, 60, .inl u.2.2.2.2.2.1)), (h0_trueState, ce_Ma h0_trueState_cells h0_trueState_tree u.2.2.2.2.2.2.1), (h0_trueState_cells, .inl (c0_trueState_cells, 8, .inl u.2.2.2.2.2.2.2.1)), (h0_payments, ce_Pa h0_payments_receivers h0_payments_amounts h0_payments_drawn u.2.2.2.2.2.2.2.2.1), (h0_payments_receivers, .inl (c0_payments_receivers, 30, .inl u.2.2.2.2.2.2.2.2.2.1)), (h0_payments_amounts, .inl (c0_payments_amounts, 30, .inl u.2.2.2.2.2.2.2.2.2.2.1)), (h0_assertion, ce_As u.2.2.2.2.2.2.2.2.2.2.2.1), (h0_games, .inl (c0_games, 3, .inr (.inr (.inr (.inr (va_up (va_up (va_up (fun _ => none) 0 (some h0_games_0)) 1 (some h0_games_1)) 2 (some h0_games_2))))))), (h0_games_0, ce_Ga u.2.2.2.2.2.2.2.2.2.2.2.2.1), (h0_games_1, ce_Ga u.2.2.2.2.2.2.2.2.2.2.2.2.2.1), (h0_games_2, ce_Ga u.2.2.2.2.2.2.2.2.2.2.2.2.2.2)]
def wp_Sc_block (post : Int32 → (ct_Sc × (Nat → Int32) × (Nat → Int32) × (Nat → Int32) × ct_In × (Nat → Int32) × ct_Ma × (Nat → Int32) × ct_Pa × (Nat → Int32) × (Nat → Int32) × ct_As × ct_Ga × ct_Ga × ct_Ga) → Prop) (u : ct_Sc × (Nat → Int32) × (Nat → Int32) × (Nat → Int32) × ct_In × (Nat → Int32) × ct_Ma × (Nat → Int32) × ct_Pa × (Nat → Int32) × (Nat → Int32) × ct_As × ct_Ga × ct_Ga × ct_Ga) : Prop := ∀ f1 : Int32, f1 = (u.1.2.2.1 + 1) → (wp_Sc_endLateGames (fun u3 => (wp_Sc_standIfDue (fun u5 => (post u5.1.2.2.1 (u5.1, u5.2.1, u5.2.2.1, u5.2.2.2.1, u5.2.2.2.2.1, u5.2.2.2.2.2.1, u5.2.2.2.2.2.2.1, u5.2.2.2.2.2.2.2.1, u5.2.2.2.2.2.2.2.2.1, u5.2.2.2.2.2.2.2.2.2.1, u5.2.2.2.2.2.2.2.2.2.2.1, u5.2.2.2.2.2.2.2.2.2.2.2.1, u5.2.2.2.2.2.2.2.2.2.2.2.2.1, u5.2.2.2.2.2.2.2.2.2.2.2.2.2.1, u5.2.2.2.2.2.2.2.2.2.2.2.2.2.2))) (u3.1, u3.2.1, u.2.2.1, u.2.2.2.1, u.2.2.2.2.1, u.2.2.2.2.2.1, u.2.2.2.2.2.2.1, u.2.2.2.2.2.2.2.1, u.2.2.2.2.2.2.2.2.1, u.2.2.2.2.2.2.2.2.2.1, u.2.2.2.2.2.2.2.2.2.2.1, u3.2.2.1, u3.2.2.2.1, u3.2.2.2.2.1, u3.2.2.2.2.2) )) ((u.1.1, u.1.2.1, f1, u.1.2.2.2), u.2.1, u.2.2.2.2.2.2.2.2.2.2.2.1, u.2.2.2.2.2.2.2.2.2.2.2.2.1, u.2.2.2.2.2.2.2.2.2.2.2.2.2.1, u.2.2.2.2.2.2.2.2.2.2.2.2.2.2) )
set_option maxHeartbeats 4000000 in
set_option maxRecDepth 100000 in
theorem mt_Sc_block (l : Launch) (dC : Nat → ClassId) (dI : Nat → Nat → Nat) (h0 h0_balances h0_code h0_code_ops h0_code_arguments h0_inbox h0_inbox_words h0_trueState h0_trueState_cells h0_payments h0_payments_receivers h0_payments_amounts h0_assertion h0_games h0_games_0 h0_games_1 h0_games_2 h0_scratch h0_proof h0_trueState_tree h0_payments_drawn : Nat) (c0_balances c0_code_ops c0_code_arguments c0_inbox_words c0_trueState_cells c0_payments_receivers c0_payments_amounts c0_games : ClassId) (sz : Nat) (post : Int32 → (ct_Sc × (Nat → Int32) × (Nat → Int32) × (Nat → Int32) × ct_In × (Nat → Int32) × ct_Ma × (Nat → Int32) × ct_Pa × (Nat → Int32) × (Nat → Int32) × ct_As × ct_Ga × ct_Ga × ct_Ga) → Prop) (u : ct_Sc × (Nat → Int32) × (Nat → Int32) × (Nat → Int32) × ct_In × (Nat → Int32) × ct_Ma × (Nat → Int32) × ct_Pa × (Nat → Int32) × (Nat → Int32) × ct_As × ct_Ga × ct_Ga × ct_Ga) (hw : wp_Sc_block post u) : Met l ySc_block wsSc_block ({ frames := 5, cells := 0, slots := 0, locals := 114 }) (kp_P dC dI [.ref h0] sz (ww_Sc_block h0 h0_balances h0_code h0_code_ops h0_code_arguments h0_inbox h0_inbox_words h0_trueState h0_trueState_cells h0_payments h0_payments_receivers h0_payments_amounts h0_assertion h0_games h0_games_0 h0_games_1 h0_games_2 h0_scratch h0_proof h0_trueState_tree h0_payments_drawn c0_balances c0_code_ops c0_code_arguments c0_inbox_words c0_trueState_cells c0_payments_receivers c0_payments_amounts c0_games u) [(c0_balances, .int), (c0_code_ops, .int), (c0_code_arguments, .int), (c0_inbox_words, .int), (c0_trueState_cells, .int), (c0_payments_receivers, .int), (c0_payments_amounts, .int), (c0_games, (.object "StepCourt$Game"))]) (va_Qi post (fun u9 => kp_B dC dI (va_A (ww_Sc_block h0 h0_balances h0_code h0_code_ops h0_code_arguments h0_inbox h0_inbox_words h0_trueState h0_trueState_cells h0_payments h0_payments_receivers h0_payments_amounts h0_assertion h0_games h0_games_0 h0_games_1 h0_games_2 h0_scratch h0_proof h0_trueState_tree h0_payments_drawn c0_balances c0_code_ops c0_code_arguments c0_inbox_words c0_trueState_cells c0_payments_receivers c0_payments_amounts c0_games u) sz) (ww_Sc_block h0 h0_balances h0_code h0_code_ops h0_code_arguments h0_inbox h0_inbox_words h0_trueState h0_trueState_cells h0_payments h0_payments_receivers h0_payments_amounts h0_assertion h0_games h0_games_0 h0_games_1 h0_games_2 h0_scratch h0_proof h0_trueState_tree h0_payments_drawn c0_balances c0_code_ops c0_code_arguments c0_inbox_words c0_trueState_cells c0_payments_receivers c0_payments_amounts c0_games u9) [(c0_balances, .int), (c0_code_ops, .int), (c0_code_arguments, .int), (c0_inbox_words, .int), (c0_trueState_cells, .int), (c0_payments_receivers, .int), (c0_payments_amounts, .int), (c0_games, (.object "StepCourt$Game"))]) (va_A (ww_Sc_block h0 h0_balances h0_code h0_code_ops h0_code_arguments h0_inbox h0_inbox_words h0_trueState h0_trueState_cells h0_payments h0_payments_receivers h0_payments_amounts h0_assertion h0_games h0_games_0 h0_games_1 h0_games_2 h0_scratch h0_proof h0_trueState_tree h0_payments_drawn c0_balances c0_code_ops c0_code_arguments c0_inbox_words c0_trueState_cells c0_payments_receivers c0_payments_amounts c0_games u) sz)) 0 0 (va_A (ww_Sc_block h0 h0_balances h0_code h0_code_ops h0_code_arguments h0_inbox h0_inbox_words h0_trueState h0_trueState_cells h0_payments h0_payments_receivers h0_payments_amounts h0_assertion h0_games h0_games_0 h0_games_1 h0_games_2 h0_scratch h0_proof h0_trueState_tree h0_payments_drawn c0_balances c0_code_ops c0_code_arguments c0_inbox_words c0_trueState_cells c0_payments_receivers c0_payments_amounts c0_games u) sz) := by
  refine Met.ofW (cc := cSc_block) (maxL := 1) (ret := (some .int)) (by decide) rfl ?_
  intro p e s m args below meth c s₁ B hml hv
  obtain ⟨rfl, hsz, hP, hK, hD0, hZ⟩ := hv
  have hx := B.exec
  have hb := B.bytes
  have hr := B.returns
  have hq : ∀ w ∈ wz, w.before _ s = true := fun w h => atoms_spec (ws := wsSc_block) B.pre w (List.mem_cons_of_mem _ h)
  have hown : s.vm.findClass "StepCourt" = some m.cls := findClass_of_methodNamed B.named
  have hlocks := B.notSynchronized
  subst hsz
  have hD := hD0.self (sz := s.heap.size)
  generalize hAe : va_A (ww_Sc_block h0 h0_balances h0_code h0_code_ops h0_code_arguments h0_inbox h0_inbox_words h0_trueState h0_trueState_cells h0_payments h0_payments_receivers h0_payments_amounts h0_assertion h0_games h0_games_0 h0_games_1 h0_games_2 h0_scratch h0_proof h0_trueState_tree h0_payments_drawn c0_balances c0_code_ops c0_code_arguments c0_inbox_words c0_trueState_cells c0_payments_receivers c0_payments_amounts c0_games u) s.heap.size = A at hD ⊢
  have hA : ∀ q : Nat, s.heap.size ≤ q → A q := fun q h => by rw [← hAe]; exact Or.inr h
  have hS : va_S A s.heap s.heap [] := va_S.rf
  have hP : va_P (dC, dI) vwCl [(h0, ce_Sc h0_balances h0_code h0_inbox h0_trueState h0_scratch h0_payments h0_proof h0_assertion h0_games u.1), (h0_balances, .inl (c0_balances, 4, .inl u.2.1)), (h0_code, ce_Co h0_code_ops h0_code_arguments), (h0_code_ops, .inl (c0_code_ops, 16, .inl u.2.2.1)), (h0_code_arguments, .inl (c0_code_arguments, 16, .inl u.2.2.2.1)), (h0_inbox, ce_In h0_inbox_words u.2.2.2.2.1), (h0_inbox_words, .inl (c0_inbox_words, 60, .inl u.2.2.2.2.2.1)), (h0_trueState, ce_Ma h0_trueState_cells h0_trueState_tree u.2.2.2.2.2.2.1), (h0_trueState_cells, .inl (c0_trueState_cells, 8, .inl u.2.2.2.2.2.2.2.1)), (h0_payments, ce_Pa h0_payments_receivers h0_payments_amounts h0_payments_drawn u.2.2.2.2.2.2.2.2.1), (h0_payments_receivers, .inl (c0_payments_receivers, 30, .inl u.2.2.2.2.2.2.2.2.2.1)), (h0_payments_amounts, .inl (c0_payments_amounts, 30, .inl u.2.2.2.2.2.2.2.2.2.2.1)), (h0_assertion, ce_As u.2.2.2.2.2.2.2.2.2.2.2.1), (h0_games, .inl (c0_games, 3, .inr (.inr (.inr (.inr (va_up (va_up (va_up (fun _ => none) 0 (some h0_games_0)) 1 (some h0_games_1)) 2 (some h0_games_2))))))), (h0_games_0, ce_Ga u.2.2.2.2.2.2.2.2.2.2.2.2.1), (h0_games_1, ce_Ga u.2.2.2.2.2.2.2.2.2.2.2.2.2.1), (h0_games_2, ce_Ga u.2.2.2.2.2.2.2.2.2.2.2.2.2.2)] s.heap := hP
  have hD : va_D A [(h0, ce_Sc h0_balances h0_code h0_inbox h0_trueState h0_scratch h0_payments h0_proof h0_assertion h0_games u.1), (h0_balances, .inl (c0_balances, 4, .inl u.2.1)), (h0_code, ce_Co h0_code_ops h0_code_arguments), (h0_code_ops, .inl (c0_code_ops, 16, .inl u.2.2.1)), (h0_code_arguments, .inl (c0_code_arguments, 16, .inl u.2.2.2.1)), (h0_inbox, ce_In h0_inbox_words u.2.2.2.2.1), (h0_inbox_words, .inl (c0_inbox_words, 60, .inl u.2.2.2.2.2.1)), (h0_trueState, ce_Ma h0_trueState_cells h0_trueState_tree u.2.2.2.2.2.2.1), (h0_trueState_cells, .inl (c0_trueState_cells, 8, .inl u.2.2.2.2.2.2.2.1)), (h0_payments, ce_Pa h0_payments_receivers h0_payments_amounts h0_payments_drawn u.2.2.2.2.2.2.2.2.1), (h0_payments_receivers, .inl (c0_payments_receivers, 30, .inl u.2.2.2.2.2.2.2.2.2.1)), (h0_payments_amounts, .inl (c0_payments_amounts, 30, .inl u.2.2.2.2.2.2.2.2.2.2.1)), (h0_assertion, ce_As u.2.2.2.2.2.2.2.2.2.2.2.1), (h0_games, .inl (c0_games, 3, .inr (.inr (.inr (.inr (va_up (va_up (va_up (fun _ => none) 0 (some h0_games_0)) 1 (some h0_games_1)) 2 (some h0_games_2))))))), (h0_games_0, ce_Ga u.2.2.2.2.2.2.2.2.2.2.2.2.1), (h0_games_1, ce_Ga u.2.2.2.2.2.2.2.2.2.2.2.2.2.1), (h0_games_2, ce_Ga u.2.2.2.2.2.2.2.2.2.2.2.2.2.2)] := hD
  have hl := lv_entry ([.ref h0]) (n := 1) (Nat.le_of_ble_eq_true rfl)
  rw [lg_entry_eq]
  generalize (lg_sl ([.ref h0]) ++ List.replicate (1 - (lg_sl ([.ref h0])).length) Slot.unset).toArray = ls at hl ⊢
  have hl : lv_has ls 1 [(0, .ref h0)] := hl
  skip
  refine lv_aload_n hx hb dSc_block_0 rfl (lv_at hl 0 rfl) ?_
  refine lv_dup hx hb dSc_block_1 rfl ?_
  refine va_get (D := (dC, dI)) (ci := 7) (v := .int u.1.2.2.1) (C := "StepCourt") (T := TSc) (N := 13) hx hb hq inSc hown hK hP 0 rfl rfl 11 (by decide) (hq _ wt_265) (fun _ h9 => h9) rfl dSc_block_2 ?_
  refine lv_iconst (v := 1) hx hb dSc_block_5 (by decide) ?_
  refine lv_iadd hx hb dSc_block_6 ?_
  refine lv_topi (fun f1 ef1 => ?_)
  have hw := hw f1 ef1
  refine va_put (D := (dC, dI)) (ci := 7) (v := .int f1) (ty := .int) (C := "StepCourt") (T := TSc) (N := 13) hx hb hq inSc tySc tySc_ok nmSc hown hK hP hD hS 0 rfl rfl 11 (by decide) (hq _ wt_265) (fun _ h9 => h9) rfl (by decide +kernel) rfl rfl (Nat.le_of_ble_eq_true rfl) dSc_block_7 (fun H locs hP hD hS => ?_)
  have hP : va_P (dC, dI) vwCl [(h0, ce_Sc h0_balances h0_code h0_inbox h0_trueState h0_scratch h0_payments h0_proof h0_assertion h0_games (u.1.1, u.1.2.1, f1, u.1.2.2.2)), (h0_balances, .inl (c0_balances, 4, .inl u.2.1)), (h0_code, ce_Co h0_code_ops h0_code_arguments), (h0_code_ops, .inl (c0_code_ops, 16, .inl u.2.2.1)), (h0_code_arguments, .inl (c0_code_arguments, 16, .inl u.2.2.2.1)), (h0_inbox, ce_In h0_inbox_words u.2.2.2.2.1), (h0_inbox_words, .inl (c0_inbox_words, 60, .inl u.2.2.2.2.2.1)), (h0_trueState, ce_Ma h0_trueState_cells h0_trueState_tree u.2.2.2.2.2.2.1), (h0_trueState_cells, .inl (c0_trueState_cells, 8, .inl u.2.2.2.2.2.2.2.1)), (h0_payments, ce_Pa h0_payments_receivers h0_payments_amounts h0_payments_drawn u.2.2.2.2.2.2.2.2.1), (h0_payments_receivers, .inl (c0_payments_receivers, 30, .inl u.2.2.2.2.2.2.2.2.2.1)), (h0_payments_amounts, .inl (c0_payments_amounts, 30, .inl u.2.2.2.2.2.2.2.2.2.2.1)), (h0_assertion, ce_As u.2.2.2.2.2.2.2.2.2.2.2.1), (h0_games, .inl (c0_games, 3, .inr (.inr (.inr (.inr (va_up (va_up (va_up (fun _ => none) 0 (some h0_games_0)) 1 (some h0_games_1)) 2 (some h0_games_2))))))), (h0_games_0, ce_Ga u.2.2.2.2.2.2.2.2.2.2.2.2.1), (h0_games_1, ce_Ga u.2.2.2.2.2.2.2.2.2.2.2.2.2.1), (h0_games_2, ce_Ga u.2.2.2.2.2.2.2.2.2.2.2.2.2.2)] H := hP
  have hD : va_D A [(h0, ce_Sc h0_balances h0_code h0_inbox h0_trueState h0_scratch h0_payments h0_proof h0_assertion h0_games (u.1.1, u.1.2.1, f1, u.1.2.2.2)), (h0_balances, .inl (c0_balances, 4, .inl u.2.1)), (h0_code, ce_Co h0_code_ops h0_code_arguments), (h0_code_ops, .inl (c0_code_ops, 16, .inl u.2.2.1)), (h0_code_arguments, .inl (c0_code_arguments, 16, .inl u.2.2.2.1)), (h0_inbox, ce_In h0_inbox_words u.2.2.2.2.1), (h0_inbox_words, .inl (c0_inbox_words, 60, .inl u.2.2.2.2.2.1)), (h0_trueState, ce_Ma h0_trueState_cells h0_trueState_tree u.2.2.2.2.2.2.1), (h0_trueState_cells, .inl (c0_trueState_cells, 8, .inl u.2.2.2.2.2.2.2.1)), (h0_payments, ce_Pa h0_payments_receivers h0_payments_amounts h0_payments_drawn u.2.2.2.2.2.2.2.2.1), (h0_payments_receivers, .inl (c0_payments_receivers, 30, .inl u.2.2.2.2.2.2.2.2.2.1)), (h0_payments_amounts, .inl (c0_payments_amounts, 30, .inl u.2.2.2.2.2.2.2.2.2.2.1)), (h0_assertion, ce_As u.2.2.2.2.2.2.2.2.2.2.2.1), (h0_games, .inl (c0_games, 3, .inr (.inr (.inr (.inr (va_up (va_up (va_up (fun _ => none) 0 (some h0_games_0)) 1 (some h0_games_1)) 2 (some h0_games_2))))))), (h0_games_0, ce_Ga u.2.2.2.2.2.2.2.2.2.2.2.2.1), (h0_games_1, ce_Ga u.2.2.2.2.2.2.2.2.2.2.2.2.2.1), (h0_games_2, ce_Ga u.2.2.2.2.2.2.2.2.2.2.2.2.2.2)] := hD
  refine lv_aload_n hx hb dSc_block_10 rfl (lv_at hl 0 rfl) ?_
  have hPc := hP.sub (ws' := [(h0, ce_Sc h0_balances h0_code h0_inbox h0_trueState h0_scratch h0_payments h0_proof h0_assertion h0_games (u.1.1, u.1.2.1, f1, u.1.2.2.2)), (h0_balances, .inl (c0_balances, 4, .inl u.2.1)), (h0_assertion, ce_As u.2.2.2.2.2.2.2.2.2.2.2.1), (h0_games, .inl (c0_games, 3, .inr (.inr (.inr (.inr (va_up (va_up (va_up (fun _ => none) 0 (some h0_games_0)) 1 (some h0_games_1)) 2 (some h0_games_2))))))), (h0_games_0, ce_Ga u.2.2.2.2.2.2.2.2.2.2.2.2.1), (h0_games_1, ce_Ga u.2.2.2.2.2.2.2.2.2.2.2.2.2.1), (h0_games_2, ce_Ga u.2.2.2.2.2.2.2.2.2.2.2.2.2.2)]) [0, 1, 12, 13, 14, 15, 16] rfl
  have hDc := hD.sub (ws' := [(h0, ce_Sc h0_balances h0_code h0_inbox h0_trueState h0_scratch h0_payments h0_proof h0_assertion h0_games (u.1.1, u.1.2.1, f1, u.1.2.2.2)), (h0_balances, .inl (c0_balances, 4, .inl u.2.1)), (h0_assertion, ce_As u.2.2.2.2.2.2.2.2.2.2.2.1), (h0_games, .inl (c0_games, 3, .inr (.inr (.inr (.inr (va_up (va_up (va_up (fun _ => none) 0 (some h0_games_0)) 1 (some h0_games_1)) 2 (some h0_games_2))))))), (h0_games_0, ce_Ga u.2.2.2.2.2.2.2.2.2.2.2.2.1), (h0_games_1, ce_Ga u.2.2.2.2.2.2.2.2.2.2.2.2.2.1), (h0_games_2, ce_Ga u.2.2.2.2.2.2.2.2.2.2.2.2.2.2)]) [0, 1, 12, 13, 14, 15, 16] (by decide) rfl
  have hKc := hK.sub (tys' := [(c0_balances, .int), (c0_games, (.object "StepCourt$Game"))]) [0, 7] rfl
  have hFc := va_free (wc := [(h0, ce_Sc h0_balances h0_code h0_inbox h0_trueState h0_scratch h0_payments h0_proof h0_assertion h0_games (u.1.1, u.1.2.1, f1, u.1.2.2.2)), (h0_balances, .inl (c0_balances, 4, .inl u.2.1)), (h0_assertion, ce_As u.2.2.2.2.2.2.2.2.2.2.2.1), (h0_games, .inl (c0_games, 3, .inr (.inr (.inr (.inr (va_up (va_up (va_up (fun _ => none) 0 (some h0_games_0)) 1 (some h0_games_1)) 2 (some h0_games_2))))))), (h0_games_0, ce_Ga u.2.2.2.2.2.2.2.2.2.2.2.2.1), (h0_games_1, ce_Ga u.2.2.2.2.2.2.2.2.2.2.2.2.2.1), (h0_games_2, ce_Ga u.2.2.2.2.2.2.2.2.2.2.2.2.2.2)]) hD hS hA [0, 1, 12, 13, 14, 15, 16] rfl
  refine va_callv (va_runV (As := []) (rest := []) ⟨hx, hb, hml, hown, hq⟩ (mt_Sc_endLateGames l dC dI h0 h0_balances h0_assertion h0_games h0_games_0 h0_games_1 h0_games_2 h0_code h0_inbox h0_trueState h0_scratch h0_payments h0_proof c0_balances c0_games H.size _ ((u.1.1, u.1.2.1, f1, u.1.2.2.2), u.2.1, u.2.2.2.2.2.2.2.2.2.2.2.1, u.2.2.2.2.2.2.2.2.2.2.2.2.1, u.2.2.2.2.2.2.2.2.2.2.2.2.2.1, u.2.2.2.2.2.2.2.2.2.2.2.2.2.2) hw) ⟨cq_B 0 hq wt_305 wt_302 wt_1 rfl rfl hd_Sc_endLateGames ⟨Nat.le_of_ble_eq_true rfl, Nat.le_of_ble_eq_true rfl⟩, (hq _ wt_304), (hq _ wv_0)⟩ ⟨kp_bl, va_recv hKc hPc (ci := 7) (q0 := 0) rfl rfl, kp_at hPc hKc hDc hZ⟩ rfl rfl hl.1 rfl (lv_room (Nat.le_of_ble_eq_true rfl)) dSc_block_11 ⟨(by decide), (by decide)⟩) hS (fun q _ h => hFc q h) hFc (fun u3 t H1 locs ht hvm hw hB hz1 hk1 hS => ?_)
  obtain ⟨hP1, hK1, hD1⟩ := hB
  rw [ht] at hP1
  have hK1 := va_K.moved hvm.symm hK1
  obtain ⟨hP, hD⟩ := va_join (wr := [(h0_code, ce_Co h0_code_ops h0_code_arguments), (h0_code_ops, .inl (c0_code_ops, 16, .inl u.2.2.1)), (h0_code_arguments, .inl (c0_code_arguments, 16, .inl u.2.2.2.1)), (h0_inbox, ce_In h0_inbox_words u.2.2.2.2.1), (h0_inbox_words, .inl (c0_inbox_words, 60, .inl u.2.2.2.2.2.1)), (h0_trueState, ce_Ma h0_trueState_cells h0_trueState_tree u.2.2.2.2.2.2.1), (h0_trueState_cells, .inl (c0_trueState_cells, 8, .inl u.2.2.2.2.2.2.2.1)), (h0_payments, ce_Pa h0_payments_receivers h0_payments_amounts h0_payments_drawn u.2.2.2.2.2.2.2.2.1), (h0_payments_receivers, .inl (c0_payments_receivers, 30, .inl u.2.2.2.2.2.2.2.2.2.1)), (h0_payments_amounts, .inl (c0_payments_amounts, 30, .inl u.2.2.2.2.2.2.2.2.2.2.1))]) (w1 := [(h0, ce_Sc h0_balances h0_code h0_inbox h0_trueState h0_scratch h0_payments h0_proof h0_assertion h0_games u3.1), (h0_balances, .inl (c0_balances, 4, .inl u3.2.1)), (h0_assertion, ce_As u3.2.2.1), (h0_games, .inl (c0_games, 3, .inr (.inr (.inr (.inr (va_up (va_up (va_up (fun _ => none) 0 (some h0_games_0)) 1 (some h0_games_1)) 2 (some h0_games_2))))))), (h0_games_0, ce_Ga u3.2.2.2.1), (h0_games_1, ce_Ga u3.2.2.2.2.1), (h0_games_2, ce_Ga u3.2.2.2.2.2)]) hP hD [0, 1, 12, 13, 14, 15, 16] [2, 3, 4, 5, 6, 7, 8, 9, 10, 11] rfl rfl (by decide) (by decide) hk1 hFc hP1 hD1
  have hK := (hK.sub (tys' := [(c0_code_ops, .int), (c0_code_arguments, .int), (c0_inbox_words, .int), (c0_trueState_cells, .int), (c0_payments_receivers, .int), (c0_payments_amounts, .int)]) [1, 2, 3, 4, 5, 6] rfl).app hK1
  generalize H1 = H at hP hS ⊢
  have hP : va_P (dC, dI) vwCl [(h0_code, ce_Co h0_code_ops h0_code_arguments), (h0_code_ops, .inl (c0_code_ops, 16, .inl u.2.2.1)), (h0_code_arguments, .inl (c0_code_arguments, 16, .inl u.2.2.2.1)), (h0_inbox, ce_In h0_inbox_words u.2.2.2.2.1), (h0_inbox_words, .inl (c0_inbox_words, 60, .inl u.2.2.2.2.2.1)), (h0_trueState, ce_Ma h0_trueState_cells h0_trueState_tree u.2.2.2.2.2.2.1), (h0_trueState_cells, .inl (c0_trueState_cells, 8, .inl u.2.2.2.2.2.2.2.1)), (h0_payments, ce_Pa h0_payments_receivers h0_payments_amounts h0_payments_drawn u.2.2.2.2.2.2.2.2.1), (h0_payments_receivers, .inl (c0_payments_receivers, 30, .inl u.2.2.2.2.2.2.2.2.2.1)), (h0_payments_amounts, .inl (c0_payments_amounts, 30, .inl u.2.2.2.2.2.2.2.2.2.2.1)), (h0, ce_Sc h0_balances h0_code h0_inbox h0_trueState h0_scratch h0_payments h0_proof h0_assertion h0_games u3.1), (h0_balances, .inl (c0_balances, 4, .inl u3.2.1)), (h0_assertion, ce_As u3.2.2.1), (h0_games, .inl (c0_games, 3, .inr (.inr (.inr (.inr (va_up (va_up (va_up (fun _ => none) 0 (some h0_games_0)) 1 (some h0_games_1)) 2 (some h0_games_2))))))), (h0_games_0, ce_Ga u3.2.2.2.1), (h0_games_1, ce_Ga u3.2.2.2.2.1), (h0_games_2, ce_Ga u3.2.2.2.2.2)] H := hP
  have hD : va_D A [(h0_code, ce_Co h0_code_ops h0_code_arguments), (h0_code_ops, .inl (c0_code_ops, 16, .inl u.2.2.1)), (h0_code_arguments, .inl (c0_code_arguments, 16, .inl u.2.2.2.1)), (h0_inbox, ce_In h0_inbox_words u.2.2.2.2.1), (h0_inbox_words, .inl (c0_inbox_words, 60, .inl u.2.2.2.2.2.1)), (h0_trueState, ce_Ma h0_trueState_cells h0_trueState_tree u.2.2.2.2.2.2.1), (h0_trueState_cells, .inl (c0_trueState_cells, 8, .inl u.2.2.2.2.2.2.2.1)), (h0_payments, ce_Pa h0_payments_receivers h0_payments_amounts h0_payments_drawn u.2.2.2.2.2.2.2.2.1), (h0_payments_receivers, .inl (c0_payments_receivers, 30, .inl u.2.2.2.2.2.2.2.2.2.1)), (h0_payments_amounts, .inl (c0_payments_amounts, 30, .inl u.2.2.2.2.2.2.2.2.2.2.1)), (h0, ce_Sc h0_balances h0_code h0_inbox h0_trueState h0_scratch h0_payments h0_proof h0_assertion h0_games u3.1), (h0_balances, .inl (c0_balances, 4, .inl u3.2.1)), (h0_assertion, ce_As u3.2.2.1), (h0_games, .inl (c0_games, 3, .inr (.inr (.inr (.inr (va_up (va_up (va_up (fun _ => none) 0 (some h0_games_0)) 1 (some h0_games_1)) 2 (some h0_games_2))))))), (h0_games_0, ce_Ga u3.2.2.2.1), (h0_games_1, ce_Ga u3.2.2.2.2.1), (h0_games_2, ce_Ga u3.2.2.2.2.2)] := hD
  have hK : va_K (dC, dI) vwCl [(c0_code_ops, .int), (c0_code_arguments, .int), (c0_inbox_words, .int), (c0_trueState_cells, .int), (c0_payments_receivers, .int), (c0_payments_amounts, .int), (c0_balances, .int), (c0_games, (.object "StepCourt$Game"))] s := hK
  refine lv_aload_n hx hb dSc_block_14 rfl (lv_at hl 0 rfl) ?_
  have hPc := hP.sub (ws' := [(h0, ce_Sc h0_balances h0_code h0_inbox h0_trueState h0_scratch h0_payments h0_proof h0_assertion h0_games u3.1), (h0_balances, .inl (c0_balances, 4, .inl u3.2.1)), (h0_code, ce_Co h0_code_ops h0_code_arguments), (h0_code_ops, .inl (c0_code_ops, 16, .inl u.2.2.1)), (h0_code_arguments, .inl (c0_code_arguments, 16, .inl u.2.2.2.1)), (h0_inbox, ce_In h0_inbox_words u.2.2.2.2.1), (h0_inbox_words, .inl (c0_inbox_words, 60, .inl u.2.2.2.2.2.1)), (h0_trueState, ce_Ma h0_trueState_cells h0_trueState_tree u.2.2.2.2.2.2.1), (h0_trueState_cells, .inl (c0_trueState_cells, 8, .inl u.2.2.2.2.2.2.2.1)), (h0_payments, ce_Pa h0_payments_receivers h0_payments_amounts h0_payments_drawn u.2.2.2.2.2.2.2.2.1), (h0_payments_receivers, .inl (c0_payments_receivers, 30, .inl u.2.2.2.2.2.2.2.2.2.1)), (h0_payments_amounts, .inl (c0_payments_amounts, 30, .inl u.2.2.2.2.2.2.2.2.2.2.1)), (h0_assertion, ce_As u3.2.2.1), (h0_games, .inl (c0_games, 3, .inr (.inr (.inr (.inr (va_up (va_up (va_up (fun _ => none) 0 (some h0_games_0)) 1 (some h0_games_1)) 2 (some h0_games_2))))))), (h0_games_0, ce_Ga u3.2.2.2.1), (h0_games_1, ce_Ga u3.2.2.2.2.1), (h0_games_2, ce_Ga u3.2.2.2.2.2)]) [10, 11, 0, 1, 2, 3, 4, 5, 6, 7, 8, 9, 12, 13, 14, 15, 16] rfl
  have hDc := hD.sub (ws' := [(h0, ce_Sc h0_balances h0_code h0_inbox h0_trueState h0_scratch h0_payments h0_proof h0_assertion h0_games u3.1), (h0_balances, .inl (c0_balances, 4, .inl u3.2.1)), (h0_code, ce_Co h0_code_ops h0_code_arguments), (h0_code_ops, .inl (c0_code_ops, 16, .inl u.2.2.1)), (h0_code_arguments, .inl (c0_code_arguments, 16, .inl u.2.2.2.1)), (h0_inbox, ce_In h0_inbox_words u.2.2.2.2.1), (h0_inbox_words, .inl (c0_inbox_words, 60, .inl u.2.2.2.2.2.1)), (h0_trueState, ce_Ma h0_trueState_cells h0_trueState_tree u.2.2.2.2.2.2.1), (h0_trueState_cells, .inl (c0_trueState_cells, 8, .inl u.2.2.2.2.2.2.2.1)), (h0_payments, ce_Pa h0_payments_receivers h0_payments_amounts h0_payments_drawn u.2.2.2.2.2.2.2.2.1), (h0_payments_receivers, .inl (c0_payments_receivers, 30, .inl u.2.2.2.2.2.2.2.2.2.1)), (h0_payments_amounts, .inl (c0_payments_amounts, 30, .inl u.2.2.2.2.2.2.2.2.2.2.1)), (h0_assertion, ce_As u3.2.2.1), (h0_games, .inl (c0_games, 3, .inr (.inr (.inr (.inr (va_up (va_up (va_up (fun _ => none) 0 (some h0_games_0)) 1 (some h0_games_1)) 2 (some h0_games_2))))))), (h0_games_0, ce_Ga u3.2.2.2.1), (h0_games_1, ce_Ga u3.2.2.2.2.1), (h0_games_2, ce_Ga u3.2.2.2.2.2)]) [10, 11, 0, 1, 2, 3, 4, 5, 6, 7, 8, 9, 12, 13, 14, 15, 16] (by decide) rfl
  have hKc := hK.sub (tys' := [(c0_balances, .int), (c0_code_ops, .int), (c0_code_arguments, .int), (c0_inbox_words, .int), (c0_trueState_cells, .int), (c0_payments_receivers, .int), (c0_payments_amounts, .int), (c0_games, (.object "StepCourt$Game"))]) [6, 0, 1, 2, 3, 4, 5, 7] rfl
  have hFc := va_free (wc := [(h0, ce_Sc h0_balances h0_code h0_inbox h0_trueState h0_scratch h0_payments h0_proof h0_assertion h0_games u3.1), (h0_balances, .inl (c0_balances, 4, .inl u3.2.1)), (h0_code, ce_Co h0_code_ops h0_code_arguments), (h0_code_ops, .inl (c0_code_ops, 16, .inl u.2.2.1)), (h0_code_arguments, .inl (c0_code_arguments, 16, .inl u.2.2.2.1)), (h0_inbox, ce_In h0_inbox_words u.2.2.2.2.1), (h0_inbox_words, .inl (c0_inbox_words, 60, .inl u.2.2.2.2.2.1)), (h0_trueState, ce_Ma h0_trueState_cells h0_trueState_tree u.2.2.2.2.2.2.1), (h0_trueState_cells, .inl (c0_trueState_cells, 8, .inl u.2.2.2.2.2.2.2.1)), (h0_payments, ce_Pa h0_payments_receivers h0_payments_amounts h0_payments_drawn u.2.2.2.2.2.2.2.2.1), (h0_payments_receivers, .inl (c0_payments_receivers, 30, .inl u.2.2.2.2.2.2.2.2.2.1)), (h0_payments_amounts, .inl (c0_payments_amounts, 30, .inl u.2.2.2.2.2.2.2.2.2.2.1)), (h0_assertion, ce_As u3.2.2.1), (h0_games, .inl (c0_games, 3, .inr (.inr (.inr (.inr (va_up (va_up (va_up (fun _ => none) 0 (some h0_games_0)) 1 (some h0_games_1)) 2 (some h0_games_2))))))), (h0_games_0, ce_Ga u3.2.2.2.1), (h0_games_1, ce_Ga u3.2.2.2.2.1), (h0_games_2, ce_Ga u3.2.2.2.2.2)]) hD hS hA [10, 11, 0, 1, 2, 3, 4, 5, 6, 7, 8, 9, 12, 13, 14, 15, 16] rfl
  refine va_callv (va_runV (As := []) (rest := []) ⟨hx, hb, hml, hown, hq⟩ (mt_Sc_standIfDue l dC dI h0 h0_balances h0_code h0_code_ops h0_code_arguments h0_inbox h0_inbox_words h0_trueState h0_trueState_cells h0_payments h0_payments_receivers h0_payments_amounts h0_assertion h0_games h0_games_0 h0_games_1 h0_games_2 h0_scratch h0_proof h0_trueState_tree h0_payments_drawn c0_balances c0_code_ops c0_code_arguments c0_inbox_words c0_trueState_cells c0_payments_receivers c0_payments_amounts c0_games H.size _ (u3.1, u3.2.1, u.2.2.1, u.2.2.2.1, u.2.2.2.2.1, u.2.2.2.2.2.1, u.2.2.2.2.2.2.1, u.2.2.2.2.2.2.2.1, u.2.2.2.2.2.2.2.2.1, u.2.2.2.2.2.2.2.2.2.1, u.2.2.2.2.2.2.2.2.2.2.1, u3.2.2.1, u3.2.2.2.1, u3.2.2.2.2.1, u3.2.2.2.2.2) hw) ⟨cq_B 0 hq wt_332 wt_329 wt_1 rfl rfl hd_Sc_standIfDue ⟨Nat.le_of_ble_eq_true rfl, Nat.le_of_ble_eq_true rfl⟩, (hq _ wt_331), (hq _ wv_5)⟩ ⟨kp_bl, va_recv hKc hPc (ci := 7) (q0 := 0) rfl rfl, kp_at hPc hKc hDc hZ⟩ rfl rfl hl.1 rfl (lv_room (Nat.le_of_ble_eq_true rfl)) dSc_block_15 ⟨(by decide), (by decide)⟩) hS (fun q _ h => hFc q h) hFc (fun u5 t H1 locs ht hvm hw hB hz1 hk1 hS => ?_)
  obtain ⟨hP1, hK1, hD1⟩ := hB
  rw [ht] at hP1
  have hK1 := va_K.moved hvm.symm hK1
  obtain ⟨hP, hD⟩ := va_join (wr := []) (w1 := [(h0, ce_Sc h0_balances h0_code h0_inbox h0_trueState h0_scratch h0_payments h0_proof h0_assertion h0_games u5.1), (h0_balances, .inl (c0_balances, 4, .inl u5.2.1)), (h0_code, ce_Co h0_code_ops h0_code_arguments), (h0_code_ops, .inl (c0_code_ops, 16, .inl u5.2.2.1)), (h0_code_arguments, .inl (c0_code_arguments, 16, .inl u5.2.2.2.1)), (h0_inbox, ce_In h0_inbox_words u5.2.2.2.2.1), (h0_inbox_words, .inl (c0_inbox_words, 60, .inl u5.2.2.2.2.2.1)), (h0_trueState, ce_Ma h0_trueState_cells h0_trueState_tree u5.2.2.2.2.2.2.1), (h0_trueState_cells, .inl (c0_trueState_cells, 8, .inl u5.2.2.2.2.2.2.2.1)), (h0_payments, ce_Pa h0_payments_receivers h0_payments_amounts h0_payments_drawn u5.2.2.2.2.2.2.2.2.1), (h0_payments_receivers, .inl (c0_payments_receivers, 30, .inl u5.2.2.2.2.2.2.2.2.2.1)), (h0_payments_amounts, .inl (c0_payments_amounts, 30, .inl u5.2.2.2.2.2.2.2.2.2.2.1)), (h0_assertion, ce_As u5.2.2.2.2.2.2.2.2.2.2.2.1), (h0_games, .inl (c0_games, 3, .inr (.inr (.inr (.inr (va_up (va_up (va_up (fun _ => none) 0 (some h0_games_0)) 1 (some h0_games_1)) 2 (some h0_games_2))))))), (h0_games_0, ce_Ga u5.2.2.2.2.2.2.2.2.2.2.2.2.1), (h0_games_1, ce_Ga u5.2.2.2.2.2.2.2.2.2.2.2.2.2.1), (h0_games_2, ce_Ga u5.2.2.2.2.2.2.2.2.2.2.2.2.2.2)]) hP hD [10, 11, 0, 1, 2, 3, 4, 5, 6, 7, 8, 9, 12, 13, 14, 15, 16] [] rfl rfl (by decide) (by decide) hk1 hFc hP1 hD1
  have hK := (hK.sub (tys' := []) [] rfl).app hK1
  generalize H1 = H at hP hS ⊢
  have hP : va_P (dC, dI) vwCl [(h0, ce_Sc h0_balances h0_code h0_inbox h0_trueState h0_scratch h0_payments h0_proof h0_assertion h0_games u5.1), (h0_balances, .inl (c0_balances, 4, .inl u5.2.1)), (h0_code, ce_Co h0_code_ops h0_code_arguments), (h0_code_ops, .inl (c0_code_ops, 16, .inl u5.2.2.1)), (h0_code_arguments, .inl (c0_code_arguments, 16, .inl u5.2.2.2.1)), (h0_inbox, ce_In h0_inbox_words u5.2.2.2.2.1), (h0_inbox_words, .inl (c0_inbox_words, 60, .inl u5.2.2.2.2.2.1)), (h0_trueState, ce_Ma h0_trueState_cells h0_trueState_tree u5.2.2.2.2.2.2.1), (h0_trueState_cells, .inl (c0_trueState_cells, 8, .inl u5.2.2.2.2.2.2.2.1)), (h0_payments, ce_Pa h0_payments_receivers h0_payments_amounts h0_payments_drawn u5.2.2.2.2.2.2.2.2.1), (h0_payments_receivers, .inl (c0_payments_receivers, 30, .inl u5.2.2.2.2.2.2.2.2.2.1)), (h0_payments_amounts, .inl (c0_payments_amounts, 30, .inl u5.2.2.2.2.2.2.2.2.2.2.1)), (h0_assertion, ce_As u5.2.2.2.2.2.2.2.2.2.2.2.1), (h0_games, .inl (c0_games, 3, .inr (.inr (.inr (.inr (va_up (va_up (va_up (fun _ => none) 0 (some h0_games_0)) 1 (some h0_games_1)) 2 (some h0_games_2))))))), (h0_games_0, ce_Ga u5.2.2.2.2.2.2.2.2.2.2.2.2.1), (h0_games_1, ce_Ga u5.2.2.2.2.2.2.2.2.2.2.2.2.2.1), (h0_games_2, ce_Ga u5.2.2.2.2.2.2.2.2.2.2.2.2.2.2)] H := hP
  have hD : va_D A [(h0, ce_Sc h0_balances h0_code h0_inbox h0_trueState h0_scratch h0_payments h0_proof h0_assertion h0_games u5.1), (h0_balances, .inl (c0_balances, 4, .inl u5.2.1)), (h0_code, ce_Co h0_code_ops h0_code_arguments), (h0_code_ops, .inl (c0_code_ops, 16, .inl u5.2.2.1)), (h0_code_arguments, .inl (c0_code_arguments, 16, .inl u5.2.2.2.1)), (h0_inbox, ce_In h0_inbox_words u5.2.2.2.2.1), (h0_inbox_words, .inl (c0_inbox_words, 60, .inl u5.2.2.2.2.2.1)), (h0_trueState, ce_Ma h0_trueState_cells h0_trueState_tree u5.2.2.2.2.2.2.1), (h0_trueState_cells, .inl (c0_trueState_cells, 8, .inl u5.2.2.2.2.2.2.2.1)), (h0_payments, ce_Pa h0_payments_receivers h0_payments_amounts h0_payments_drawn u5.2.2.2.2.2.2.2.2.1), (h0_payments_receivers, .inl (c0_payments_receivers, 30, .inl u5.2.2.2.2.2.2.2.2.2.1)), (h0_payments_amounts, .inl (c0_payments_amounts, 30, .inl u5.2.2.2.2.2.2.2.2.2.2.1)), (h0_assertion, ce_As u5.2.2.2.2.2.2.2.2.2.2.2.1), (h0_games, .inl (c0_games, 3, .inr (.inr (.inr (.inr (va_up (va_up (va_up (fun _ => none) 0 (some h0_games_0)) 1 (some h0_games_1)) 2 (some h0_games_2))))))), (h0_games_0, ce_Ga u5.2.2.2.2.2.2.2.2.2.2.2.2.1), (h0_games_1, ce_Ga u5.2.2.2.2.2.2.2.2.2.2.2.2.2.1), (h0_games_2, ce_Ga u5.2.2.2.2.2.2.2.2.2.2.2.2.2.2)] := hD
  have hK : va_K (dC, dI) vwCl [(c0_balances, .int), (c0_code_ops, .int), (c0_code_arguments, .int), (c0_inbox_words, .int), (c0_trueState_cells, .int), (c0_payments_receivers, .int), (c0_payments_amounts, .int), (c0_games, (.object "StepCourt$Game"))] s := hK
  refine lv_aload_n hx hb dSc_block_18 rfl (lv_at hl 0 rfl) ?_
  refine va_get (D := (dC, dI)) (ci := 7) (v := .int u5.1.2.2.1) (C := "StepCourt") (T := TSc) (N := 13) hx hb hq inSc hown hK hP 0 rfl rfl 11 (by decide) (hq _ wt_265) (fun _ h9 => h9) rfl dSc_block_19 ?_
  have hP9 := hP.sub (ws' := [(h0, ce_Sc h0_balances h0_code h0_inbox h0_trueState h0_scratch h0_payments h0_proof h0_assertion h0_games u5.1), (h0_balances, .inl (c0_balances, 4, .inl u5.2.1)), (h0_code, ce_Co h0_code_ops h0_code_arguments), (h0_code_ops, .inl (c0_code_ops, 16, .inl u5.2.2.1)), (h0_code_arguments, .inl (c0_code_arguments, 16, .inl u5.2.2.2.1)), (h0_inbox, ce_In h0_inbox_words u5.2.2.2.2.1), (h0_inbox_words, .inl (c0_inbox_words, 60, .inl u5.2.2.2.2.2.1)), (h0_trueState, ce_Ma h0_trueState_cells h0_trueState_tree u5.2.2.2.2.2.2.1), (h0_trueState_cells, .inl (c0_trueState_cells, 8, .inl u5.2.2.2.2.2.2.2.1)), (h0_payments, ce_Pa h0_payments_receivers h0_payments_amounts h0_payments_drawn u5.2.2.2.2.2.2.2.2.1), (h0_payments_receivers, .inl (c0_payments_receivers, 30, .inl u5.2.2.2.2.2.2.2.2.2.1)), (h0_payments_amounts, .inl (c0_payments_amounts, 30, .inl u5.2.2.2.2.2.2.2.2.2.2.1)), (h0_assertion, ce_As u5.2.2.2.2.2.2.2.2.2.2.2.1), (h0_games, .inl (c0_games, 3, .inr (.inr (.inr (.inr (va_up (va_up (va_up (fun _ => none) 0 (some h0_games_0)) 1 (some h0_games_1)) 2 (some h0_games_2))))))), (h0_games_0, ce_Ga u5.2.2.2.2.2.2.2.2.2.2.2.2.1), (h0_games_1, ce_Ga u5.2.2.2.2.2.2.2.2.2.2.2.2.2.1), (h0_games_2, ce_Ga u5.2.2.2.2.2.2.2.2.2.2.2.2.2.2)]) [0, 1, 2, 3, 4, 5, 6, 7, 8, 9, 10, 11, 12, 13, 14, 15, 16] rfl
  have hD9 := hD.sub (ws' := [(h0, ce_Sc h0_balances h0_code h0_inbox h0_trueState h0_scratch h0_payments h0_proof h0_assertion h0_games u5.1), (h0_balances, .inl (c0_balances, 4, .inl u5.2.1)), (h0_code, ce_Co h0_code_ops h0_code_arguments), (h0_code_ops, .inl (c0_code_ops, 16, .inl u5.2.2.1)), (h0_code_arguments, .inl (c0_code_arguments, 16, .inl u5.2.2.2.1)), (h0_inbox, ce_In h0_inbox_words u5.2.2.2.2.1), (h0_inbox_words, .inl (c0_inbox_words, 60, .inl u5.2.2.2.2.2.1)), (h0_trueState, ce_Ma h0_trueState_cells h0_trueState_tree u5.2.2.2.2.2.2.1), (h0_trueState_cells, .inl (c0_trueState_cells, 8, .inl u5.2.2.2.2.2.2.2.1)), (h0_payments, ce_Pa h0_payments_receivers h0_payments_amounts h0_payments_drawn u5.2.2.2.2.2.2.2.2.1), (h0_payments_receivers, .inl (c0_payments_receivers, 30, .inl u5.2.2.2.2.2.2.2.2.2.1)), (h0_payments_amounts, .inl (c0_payments_amounts, 30, .inl u5.2.2.2.2.2.2.2.2.2.2.1)), (h0_assertion, ce_As u5.2.2.2.2.2.2.2.2.2.2.2.1), (h0_games, .inl (c0_games, 3, .inr (.inr (.inr (.inr (va_up (va_up (va_up (fun _ => none) 0 (some h0_games_0)) 1 (some h0_games_1)) 2 (some h0_games_2))))))), (h0_games_0, ce_Ga u5.2.2.2.2.2.2.2.2.2.2.2.2.1), (h0_games_1, ce_Ga u5.2.2.2.2.2.2.2.2.2.2.2.2.2.1), (h0_games_2, ce_Ga u5.2.2.2.2.2.2.2.2.2.2.2.2.2.2)]) [0, 1, 2, 3, 4, 5, 6, 7, 8, 9, 10, 11, 12, 13, 14, 15, 16] (by decide) rfl
  have hK9 := hK.sub (tys' := [(c0_balances, .int), (c0_code_ops, .int), (c0_code_arguments, .int), (c0_inbox_words, .int), (c0_trueState_cells, .int), (c0_payments_receivers, .int), (c0_payments_amounts, .int), (c0_games, (.object "StepCourt$Game"))]) [0, 1, 2, 3, 4, 5, 6, 7] rfl
  exact W.iret (v := u5.1.2.2.1) hx hb hr (fun t ht hW => ⟨⟨u5.1.2.2.1, (u5.1, u5.2.1, u5.2.2.1, u5.2.2.2.1, u5.2.2.2.2.1, u5.2.2.2.2.2.1, u5.2.2.2.2.2.2.1, u5.2.2.2.2.2.2.2.1, u5.2.2.2.2.2.2.2.2.1, u5.2.2.2.2.2.2.2.2.2.1, u5.2.2.2.2.2.2.2.2.2.2.1, u5.2.2.2.2.2.2.2.2.2.2.2.1, u5.2.2.2.2.2.2.2.2.2.2.2.2.1, u5.2.2.2.2.2.2.2.2.2.2.2.2.2.1, u5.2.2.2.2.2.2.2.2.2.2.2.2.2.2), rfl, hw, by rw [ht]; exact hP9, va_K.moved hW.alike hK9, hD9⟩, hS.F ht⟩) hS.2.2 dSc_block_22
abbrev ww_Sc_balance (h0 h0_balances h0_code h0_inbox h0_trueState h0_scratch h0_payments h0_proof h0_assertion h0_games : Nat) (c0_balances : ClassId) (u : ct_Sc × (Nat → Int32)) : va_W := [(h0, ce_Sc h0_balances h0_code h0_inbox h0_trueState h0_scratch h0_payments h0_proof h0_assertion h0_games u.1), (h0_balances, .inl (c0_balances, 4, .inl u.2))]
def wp_Sc_balance (post : Int32 → (ct_Sc × (Nat → Int32)) → Prop) (u : ct_Sc × (Nat → Int32)) (k1 : Int32) : Prop := wp_Sc_isParty (fun r1 u2 => (((r1 = 0 → (post (-1) (u.1, u.2))) ∧ (¬ r1 = 0 → (vp_in k1 4 ∧ (post (u.2 k1.toNatClampNeg) (u.1, u.2))))))) () k1 
set_option maxHeartbeats 4000000 in
set_option maxRecDepth 100000 in
theorem mt_Sc_balance (l : Launch) (dC : Nat → ClassId) (dI : Nat → Nat → Nat) (h0 h0_balances h0_code h0_inbox h0_trueState h0_scratch h0_payments h0_proof h0_assertion h0_games : Nat) (c0_balances : ClassId) (sz : Nat) (post : Int32 → (ct_Sc × (Nat → Int32)) → Prop) (u : ct_Sc × (Nat → Int32)) (k1 : Int32) (hw : wp_Sc_balance post u k1) : Met l ySc_balance wsSc_balance ({ frames := 1, cells := 0, slots := 0, locals := 20 }) (kp_P dC dI [.ref h0, .int k1] sz (ww_Sc_balance h0 h0_balances h0_code h0_inbox h0_trueState h0_scratch h0_payments h0_proof h0_assertion h0_games c0_balances u) [(c0_balances, .int)]) (va_Qi post (fun u9 => kp_B dC dI (va_A (ww_Sc_balance h0 h0_balances h0_code h0_inbox h0_trueState h0_scratch h0_payments h0_proof h0_assertion h0_games c0_balances u) sz) (ww_Sc_balance h0 h0_balances h0_code h0_inbox h0_trueState h0_scratch h0_payments h0_proof h0_assertion h0_games c0_balances u9) [(c0_balances, .int)]) (va_A (ww_Sc_balance h0 h0_balances h0_code h0_inbox h0_trueState h0_scratch h0_payments h0_proof h0_assertion h0_games c0_balances u) sz)) 0 0 (va_A (ww_Sc_balance h0 h0_balances h0_code h0_inbox h0_trueState h0_scratch h0_payments h0_proof h0_assertion h0_games c0_balances u) sz) := by
  refine Met.ofW (cc := cSc_balance) (maxL := 2) (ret := (some .int)) (by decide) rfl ?_
  intro p e s m args below meth c s₁ B hml hv
  obtain ⟨rfl, hsz, hP, hK, hD0, hZ⟩ := hv
  have hx := B.exec
  have hb := B.bytes
  have hr := B.returns
  have hq : ∀ w ∈ wz, w.before _ s = true := fun w h => atoms_spec (ws := wsSc_balance) B.pre w (List.mem_cons_of_mem _ h)
  have hown : s.vm.findClass "StepCourt" = some m.cls := findClass_of_methodNamed B.named
  have hlocks := B.notSynchronized
  subst hsz
  have hD := hD0.self (sz := s.heap.size)
  generalize hAe : va_A (ww_Sc_balance h0 h0_balances h0_code h0_inbox h0_trueState h0_scratch h0_payments h0_proof h0_assertion h0_games c0_balances u) s.heap.size = A at hD ⊢
  have hA : ∀ q : Nat, s.heap.size ≤ q → A q := fun q h => by rw [← hAe]; exact Or.inr h
  have hS : va_S A s.heap s.heap [] := va_S.rf
  have hP : va_P (dC, dI) vwCl [(h0, ce_Sc h0_balances h0_code h0_inbox h0_trueState h0_scratch h0_payments h0_proof h0_assertion h0_games u.1), (h0_balances, .inl (c0_balances, 4, .inl u.2))] s.heap := hP
  have hD : va_D A [(h0, ce_Sc h0_balances h0_code h0_inbox h0_trueState h0_scratch h0_payments h0_proof h0_assertion h0_games u.1), (h0_balances, .inl (c0_balances, 4, .inl u.2))] := hD
  have hl := lv_entry ([.ref h0, .int k1]) (n := 2) (Nat.le_of_ble_eq_true rfl)
  rw [lg_entry_eq]
  generalize (lg_sl ([.ref h0, .int k1]) ++ List.replicate (2 - (lg_sl ([.ref h0, .int k1])).length) Slot.unset).toArray = ls at hl ⊢
  have hl : lv_has ls 2 [(0, .ref h0), (1, .int k1)] := hl
  skip
  refine lv_iload_n hx hb dSc_balance_0 rfl (lv_at hl 1 rfl) ?_
  have hPc := hP.sub (ws' := []) [] rfl
  have hDc := hD.sub (ws' := []) [] (by decide) rfl
  have hKc := hK.sub (tys' := []) [] rfl
  have hFc := va_free (wc := []) hD hS hA [] rfl
  refine va_calli (va_runS (As := [.int k1]) (rest := []) ⟨hx, hb, hml, hown, hq⟩ (mt_Sc_isParty l dC dI s.heap.size _ () k1 hw) ⟨cq_B 1 hq wt_320 wt_318 wt_1 rfl rfl hd_Sc_isParty ⟨Nat.le_of_ble_eq_true rfl, Nat.le_of_ble_eq_true rfl⟩, (hq _ wt_319)⟩ ⟨kp_bl, kp_at hPc hKc hDc hZ⟩ rfl rfl hl.1 rfl (lv_room (Nat.le_of_ble_eq_true rfl)) dSc_balance_1 ⟨(by decide), (by decide)⟩) hS (fun q _ h => hFc q h) hFc (fun r1 u2 t H1 locs ht hvm hw hB hz1 hk1 hS => ?_)
  obtain ⟨hP1, hK1, hD1⟩ := hB
  rw [ht] at hP1
  have hK1 := va_K.moved hvm.symm hK1
  obtain ⟨hP, hD⟩ := va_join (wr := [(h0, ce_Sc h0_balances h0_code h0_inbox h0_trueState h0_scratch h0_payments h0_proof h0_assertion h0_games u.1), (h0_balances, .inl (c0_balances, 4, .inl u.2))]) (w1 := []) hP hD [] [0, 1] rfl rfl (by decide) (by decide) hk1 hFc hP1 hD1
  have hK := (hK.sub (tys' := [(c0_balances, .int)]) [0] rfl).app hK1
  generalize H1 = H at hP hS ⊢
  have hP : va_P (dC, dI) vwCl [(h0, ce_Sc h0_balances h0_code h0_inbox h0_trueState h0_scratch h0_payments h0_proof h0_assertion h0_games u.1), (h0_balances, .inl (c0_balances, 4, .inl u.2))] H := hP
  have hD : va_D A [(h0, ce_Sc h0_balances h0_code h0_inbox h0_trueState h0_scratch h0_payments h0_proof h0_assertion h0_games u.1), (h0_balances, .inl (c0_balances, 4, .inl u.2))] := hD
  have hK : va_K (dC, dI) vwCl [(c0_balances, .int)] s := hK
  refine lv_if_eq (tgt := 16) hx hb dSc_balance_4 (by decide) (fun cc3 => ?_) (fun cc3 => ?_)
  · have hw := hw.1 cc3
    refine lv_iconst (v := (-1)) hx hb dSc_balance_16 (by decide) ?_
    have hP9 := hP.sub (ws' := [(h0, ce_Sc h0_balances h0_code h0_inbox h0_trueState h0_scratch h0_payments h0_proof h0_assertion h0_games u.1), (h0_balances, .inl (c0_balances, 4, .inl u.2))]) [0, 1] rfl
    have hD9 := hD.sub (ws' := [(h0, ce_Sc h0_balances h0_code h0_inbox h0_trueState h0_scratch h0_payments h0_proof h0_assertion h0_games u.1), (h0_balances, .inl (c0_balances, 4, .inl u.2))]) [0, 1] (by decide) rfl
    have hK9 := hK.sub (tys' := [(c0_balances, .int)]) [0] rfl
    exact W.iret (v := (-1)) hx hb hr (fun t ht hW => ⟨⟨(-1), (u.1, u.2), rfl, hw, by rw [ht]; exact hP9, va_K.moved hW.alike hK9, hD9⟩, hS.F ht⟩) hS.2.2 dSc_balance_17
  · have hw := hw.2 cc3
    refine lv_aload_n hx hb dSc_balance_7 rfl (lv_at hl 0 rfl) ?_
    refine va_get (D := (dC, dI)) (ci := 7) (v := .ref h0_balances) (C := "StepCourt") (T := TSc) (N := 13) hx hb hq inSc hown hK hP 0 rfl rfl 0 (by decide) (hq _ wt_254) (fun _ h9 => h9) rfl dSc_balance_8 ?_
    refine lv_iload_n hx hb dSc_balance_11 rfl (lv_at hl 1 rfl) ?_
    obtain ⟨hh4, hw⟩ := hw
    refine va_iald hx hb hK hP 1 0 rfl rfl hh4 dSc_balance_12 ?_
    refine lv_goto (tgt := 17) hx hb dSc_balance_13 (by decide) ?_
    have hP9 := hP.sub (ws' := [(h0, ce_Sc h0_balances h0_code h0_inbox h0_trueState h0_scratch h0_payments h0_proof h0_assertion h0_games u.1), (h0_balances, .inl (c0_balances, 4, .inl u.2))]) [0, 1] rfl
    have hD9 := hD.sub (ws' := [(h0, ce_Sc h0_balances h0_code h0_inbox h0_trueState h0_scratch h0_payments h0_proof h0_assertion h0_games u.1), (h0_balances, .inl (c0_balances, 4, .inl u.2))]) [0, 1] (by decide) rfl
    have hK9 := hK.sub (tys' := [(c0_balances, .int)]) [0] rfl
    exact W.iret (v := (u.2 k1.toNatClampNeg)) hx hb hr (fun t ht hW => ⟨⟨(u.2 k1.toNatClampNeg), (u.1, u.2), rfl, hw, by rw [ht]; exact hP9, va_K.moved hW.alike hK9, hD9⟩, hS.F ht⟩) hS.2.2 dSc_balance_17
abbrev ww_Sc_pot (h0 h0_balances h0_code h0_inbox h0_trueState h0_scratch h0_payments h0_proof h0_assertion h0_games : Nat) (u : ct_Sc) : va_W := [(h0, ce_Sc h0_balances h0_code h0_inbox h0_trueState h0_scratch h0_payments h0_proof h0_assertion h0_games u)]
def wp_Sc_pot (post : Int32 → ct_Sc → Prop) (u : ct_Sc) : Prop := post u.2.1 u
set_option maxHeartbeats 4000000 in
set_option maxRecDepth 100000 in
theorem mt_Sc_pot (l : Launch) (dC : Nat → ClassId) (dI : Nat → Nat → Nat) (h0 h0_balances h0_code h0_inbox h0_trueState h0_scratch h0_payments h0_proof h0_assertion h0_games : Nat) (sz : Nat) (post : Int32 → ct_Sc → Prop) (u : ct_Sc) (hw : wp_Sc_pot post u) : Met l ySc_pot wsSc_pot ({ frames := 0, cells := 0, slots := 0, locals := 0 }) (kp_P dC dI [.ref h0] sz (ww_Sc_pot h0 h0_balances h0_code h0_inbox h0_trueState h0_scratch h0_payments h0_proof h0_assertion h0_games u) []) (va_Qi post (fun u9 => kp_B dC dI (va_A (ww_Sc_pot h0 h0_balances h0_code h0_inbox h0_trueState h0_scratch h0_payments h0_proof h0_assertion h0_games u) sz) (ww_Sc_pot h0 h0_balances h0_code h0_inbox h0_trueState h0_scratch h0_payments h0_proof h0_assertion h0_games u9) []) (va_A (ww_Sc_pot h0 h0_balances h0_code h0_inbox h0_trueState h0_scratch h0_payments h0_proof h0_assertion h0_games u) sz)) 0 0 (va_A (ww_Sc_pot h0 h0_balances h0_code h0_inbox h0_trueState h0_scratch h0_payments h0_proof h0_assertion h0_games u) sz) := by
  refine Met.ofW (cc := cSc_pot) (maxL := 1) (ret := (some .int)) (by decide) rfl ?_
  intro p e s m args below meth c s₁ B hml hv
  obtain ⟨rfl, hsz, hP, hK, hD0, hZ⟩ := hv
  have hx := B.exec
  have hb := B.bytes
  have hr := B.returns
  have hq : ∀ w ∈ wz, w.before _ s = true := fun w h => atoms_spec (ws := wsSc_pot) B.pre w (List.mem_cons_of_mem _ h)
  have hown : s.vm.findClass "StepCourt" = some m.cls := findClass_of_methodNamed B.named
  have hlocks := B.notSynchronized
  subst hsz
  have hD := hD0.self (sz := s.heap.size)
  generalize hAe : va_A (ww_Sc_pot h0 h0_balances h0_code h0_inbox h0_trueState h0_scratch h0_payments h0_proof h0_assertion h0_games u) s.heap.size = A at hD ⊢
  have hA : ∀ q : Nat, s.heap.size ≤ q → A q := fun q h => by rw [← hAe]; exact Or.inr h
  have hS : va_S A s.heap s.heap [] := va_S.rf
  have hP : va_P (dC, dI) vwCl [(h0, ce_Sc h0_balances h0_code h0_inbox h0_trueState h0_scratch h0_payments h0_proof h0_assertion h0_games u)] s.heap := hP
  have hD : va_D A [(h0, ce_Sc h0_balances h0_code h0_inbox h0_trueState h0_scratch h0_payments h0_proof h0_assertion h0_games u)] := hD
  have hl := lv_entry ([.ref h0]) (n := 1) (Nat.le_of_ble_eq_true rfl)
  rw [lg_entry_eq]
  generalize (lg_sl ([.ref h0]) ++ List.replicate (1 - (lg_sl ([.ref h0])).length) Slot.unset).toArray = ls at hl ⊢
  have hl : lv_has ls 1 [(0, .ref h0)] := hl
  skip
  refine lv_aload_n hx hb dSc_pot_0 rfl (lv_at hl 0 rfl) ?_
  refine va_get (D := (dC, dI)) (ci := 7) (v := .int u.2.1) (C := "StepCourt") (T := TSc) (N := 13) hx hb hq inSc hown hK hP 0 rfl rfl 10 (by decide) (hq _ wt_264) (fun _ h9 => h9) rfl dSc_pot_1 ?_
  have hP9 := hP.sub (ws' := [(h0, ce_Sc h0_balances h0_code h0_inbox h0_trueState h0_scratch h0_payments h0_proof h0_assertion h0_games u)]) [0] rfl
  have hD9 := hD.sub (ws' := [(h0, ce_Sc h0_balances h0_code h0_inbox h0_trueState h0_scratch h0_payments h0_proof h0_assertion h0_games u)]) [0] (by decide) rfl
  have hK9 := hK.sub (tys' := []) [] rfl
  exact W.iret (v := u.2.1) hx hb hr (fun t ht hW => ⟨⟨u.2.1, u, rfl, hw, by rw [ht]; exact hP9, va_K.moved hW.alike hK9, hD9⟩, hS.F ht⟩) hS.2.2 dSc_pot_4
abbrev ww_Sc_word (h0 h0_inbox h0_inbox_words h0_balances h0_code h0_trueState h0_scratch h0_payments h0_proof h0_assertion h0_games : Nat) (c0_inbox_words : ClassId) (u : ct_Sc × ct_In × (Nat → Int32)) : va_W := [(h0, ce_Sc h0_balances h0_code h0_inbox h0_trueState h0_scratch h0_payments h0_proof h0_assertion h0_games u.1), (h0_inbox, ce_In h0_inbox_words u.2.1), (h0_inbox_words, .inl (c0_inbox_words, 60, .inl u.2.2))]
def wp_Sc_word (post : Int32 → (ct_Sc × ct_In × (Nat → Int32)) → Prop) (u : ct_Sc × ct_In × (Nat → Int32)) (k1 : Int32) : Prop := wp_In_at (fun r1 u2 => (post r1 (u.1, u2.1, u2.2))) (u.2.1, u.2.2) k1 
set_option maxHeartbeats 4000000 in
set_option maxRecDepth 100000 in
theorem mt_Sc_word (l : Launch) (dC : Nat → ClassId) (dI : Nat → Nat → Nat) (h0 h0_inbox h0_inbox_words h0_balances h0_code h0_trueState h0_scratch h0_payments h0_proof h0_assertion h0_games : Nat) (c0_inbox_words : ClassId) (sz : Nat) (post : Int32 → (ct_Sc × ct_In × (Nat → Int32)) → Prop) (u : ct_Sc × ct_In × (Nat → Int32)) (k1 : Int32) (hw : wp_Sc_word post u k1) : Met l ySc_word wsSc_word ({ frames := 1, cells := 0, slots := 0, locals := 21 }) (kp_P dC dI [.ref h0, .int k1] sz (ww_Sc_word h0 h0_inbox h0_inbox_words h0_balances h0_code h0_trueState h0_scratch h0_payments h0_proof h0_assertion h0_games c0_inbox_words u) [(c0_inbox_words, .int)]) (va_Qi post (fun u9 => kp_B dC dI (va_A (ww_Sc_word h0 h0_inbox h0_inbox_words h0_balances h0_code h0_trueState h0_scratch h0_payments h0_proof h0_assertion h0_games c0_inbox_words u) sz) (ww_Sc_word h0 h0_inbox h0_inbox_words h0_balances h0_code h0_trueState h0_scratch h0_payments h0_proof h0_assertion h0_games c0_inbox_words u9) [(c0_inbox_words, .int)]) (va_A (ww_Sc_word h0 h0_inbox h0_inbox_words h0_balances h0_code h0_trueState h0_scratch h0_payments h0_proof h0_assertion h0_games c0_inbox_words u) sz)) 0 0 (va_A (ww_Sc_word h0 h0_inbox h0_inbox_words h0_balances h0_code h0_trueState h0_scratch h0_payments h0_proof h0_assertion h0_games c0_inbox_words u) sz) := by
  refine Met.ofW (cc := cSc_word) (maxL := 2) (ret := (some .int)) (by decide) rfl ?_
  intro p e s m args below meth c s₁ B hml hv
  obtain ⟨rfl, hsz, hP, hK, hD0, hZ⟩ := hv
  have hx := B.exec
  have hb := B.bytes
  have hr := B.returns
  have hq : ∀ w ∈ wz, w.before _ s = true := fun w h => atoms_spec (ws := wsSc_word) B.pre w (List.mem_cons_of_mem _ h)
  have hown : s.vm.findClass "StepCourt" = some m.cls := findClass_of_methodNamed B.named
  have hlocks := B.notSynchronized
  subst hsz
  have hD := hD0.self (sz := s.heap.size)
  generalize hAe : va_A (ww_Sc_word h0 h0_inbox h0_inbox_words h0_balances h0_code h0_trueState h0_scratch h0_payments h0_proof h0_assertion h0_games c0_inbox_words u) s.heap.size = A at hD ⊢
  have hA : ∀ q : Nat, s.heap.size ≤ q → A q := fun q h => by rw [← hAe]; exact Or.inr h
  have hS : va_S A s.heap s.heap [] := va_S.rf
  have hP : va_P (dC, dI) vwCl [(h0, ce_Sc h0_balances h0_code h0_inbox h0_trueState h0_scratch h0_payments h0_proof h0_assertion h0_games u.1), (h0_inbox, ce_In h0_inbox_words u.2.1), (h0_inbox_words, .inl (c0_inbox_words, 60, .inl u.2.2))] s.heap := hP
  have hD : va_D A [(h0, ce_Sc h0_balances h0_code h0_inbox h0_trueState h0_scratch h0_payments h0_proof h0_assertion h0_games u.1), (h0_inbox, ce_In h0_inbox_words u.2.1), (h0_inbox_words, .inl (c0_inbox_words, 60, .inl u.2.2))] := hD
  have hl := lv_entry ([.ref h0, .int k1]) (n := 2) (Nat.le_of_ble_eq_true rfl)
  rw [lg_entry_eq]
  generalize (lg_sl ([.ref h0, .int k1]) ++ List.replicate (2 - (lg_sl ([.ref h0, .int k1])).length) Slot.unset).toArray = ls at hl ⊢
  have hl : lv_has ls 2 [(0, .ref h0), (1, .int k1)] := hl
  skip
  refine lv_aload_n hx hb dSc_word_0 rfl (lv_at hl 0 rfl) ?_
  refine va_get (D := (dC, dI)) (ci := 7) (v := .ref h0_inbox) (C := "StepCourt") (T := TSc) (N := 13) hx hb hq inSc hown hK hP 0 rfl rfl 2 (by decide) (hq _ wt_256) (fun _ h9 => h9) rfl dSc_word_1 ?_
  refine lv_iload_n hx hb dSc_word_4 rfl (lv_at hl 1 rfl) ?_
  have hPc := hP.sub (ws' := [(h0_inbox, ce_In h0_inbox_words u.2.1), (h0_inbox_words, .inl (c0_inbox_words, 60, .inl u.2.2))]) [1, 2] rfl
  have hDc := hD.sub (ws' := [(h0_inbox, ce_In h0_inbox_words u.2.1), (h0_inbox_words, .inl (c0_inbox_words, 60, .inl u.2.2))]) [1, 2] (by decide) rfl
  have hKc := hK.sub (tys' := [(c0_inbox_words, .int)]) [0] rfl
  have hFc := va_free (wc := [(h0_inbox, ce_In h0_inbox_words u.2.1), (h0_inbox_words, .inl (c0_inbox_words, 60, .inl u.2.2))]) hD hS hA [1, 2] rfl
  refine va_calli (va_runV (As := [.int k1]) (rest := []) ⟨hx, hb, hml, hown, hq⟩ (mt_In_at l dC dI h0_inbox h0_inbox_words c0_inbox_words s.heap.size _ (u.2.1, u.2.2) k1 hw) ⟨cq_B 1 hq wt_360 wt_386 wt_3 rfl rfl hd_In_at ⟨Nat.le_of_ble_eq_true rfl, Nat.le_of_ble_eq_true rfl⟩, (hq _ wt_358), (hq _ wt_359)⟩ ⟨kp_bl, va_recv hKc hPc (ci := 3) (q0 := 0) rfl rfl, kp_at hPc hKc hDc hZ⟩ rfl rfl hl.1 rfl (lv_room (Nat.le_of_ble_eq_true rfl)) dSc_word_5 ⟨(by decide), (by decide)⟩) hS (fun q _ h => hFc q h) hFc (fun r1 u2 t H1 locs ht hvm hw hB hz1 hk1 hS => ?_)
  obtain ⟨hP1, hK1, hD1⟩ := hB
  rw [ht] at hP1
  have hK1 := va_K.moved hvm.symm hK1
  obtain ⟨hP, hD⟩ := va_join (wr := [(h0, ce_Sc h0_balances h0_code h0_inbox h0_trueState h0_scratch h0_payments h0_proof h0_assertion h0_games u.1)]) (w1 := [(h0_inbox, ce_In h0_inbox_words u2.1), (h0_inbox_words, .inl (c0_inbox_words, 60, .inl u2.2))]) hP hD [1, 2] [0] rfl rfl (by decide) (by decide) hk1 hFc hP1 hD1
  have hK := (hK.sub (tys' := []) [] rfl).app hK1
  generalize H1 = H at hP hS ⊢
  have hP : va_P (dC, dI) vwCl [(h0, ce_Sc h0_balances h0_code h0_inbox h0_trueState h0_scratch h0_payments h0_proof h0_assertion h0_games u.1), (h0_inbox, ce_In h0_inbox_words u2.1), (h0_inbox_words, .inl (c0_inbox_words, 60, .inl u2.2))] H := hP
  have hD : va_D A [(h0, ce_Sc h0_balances h0_code h0_inbox h0_trueState h0_scratch h0_payments h0_proof h0_assertion h0_games u.1), (h0_inbox, ce_In h0_inbox_words u2.1), (h0_inbox_words, .inl (c0_inbox_words, 60, .inl u2.2))] := hD
  have hK : va_K (dC, dI) vwCl [(c0_inbox_words, .int)] s := hK
  have hP9 := hP.sub (ws' := [(h0, ce_Sc h0_balances h0_code h0_inbox h0_trueState h0_scratch h0_payments h0_proof h0_assertion h0_games u.1), (h0_inbox, ce_In h0_inbox_words u2.1), (h0_inbox_words, .inl (c0_inbox_words, 60, .inl u2.2))]) [0, 1, 2] rfl
  have hD9 := hD.sub (ws' := [(h0, ce_Sc h0_balances h0_code h0_inbox h0_trueState h0_scratch h0_payments h0_proof h0_assertion h0_games u.1), (h0_inbox, ce_In h0_inbox_words u2.1), (h0_inbox_words, .inl (c0_inbox_words, 60, .inl u2.2))]) [0, 1, 2] (by decide) rfl
  have hK9 := hK.sub (tys' := [(c0_inbox_words, .int)]) [0] rfl
  exact W.iret (v := r1) hx hb hr (fun t ht hW => ⟨⟨r1, (u.1, u2.1, u2.2), rfl, hw, by rw [ht]; exact hP9, va_K.moved hW.alike hK9, hD9⟩, hS.F ht⟩) hS.2.2 dSc_word_8
abbrev ww_Sc_truth (h0 h0_code h0_code_ops h0_code_arguments h0_inbox h0_inbox_words h0_trueState h0_trueState_cells h0_scratch h0_scratch_cells h0_scratch_tree h0_assertion h0_balances h0_payments h0_proof h0_games h0_trueState_tree : Nat) (c0_code_ops c0_code_arguments c0_inbox_words c0_trueState_cells c0_scratch_cells c0_scratch_tree : ClassId) (u : ct_Sc × (Nat → Int32) × (Nat → Int32) × ct_In × (Nat → Int32) × ct_Ma × (Nat → Int32) × ct_Ma × (Nat → Int32) × (Nat → Int64) × ct_As) : va_W := [(h0, ce_Sc h0_balances h0_code h0_inbox h0_trueState h0_scratch h0_payments h0_proof h0_assertion h0_games u.1), (h0_code, ce_Co h0_code_ops h0_code_arguments), (h0_code_ops, .inl (c0_code_ops, 16, .inl u.2.1)), (h0_code_arguments, .inl (c0_code_arguments, 16, .inl u.2.2.1)), (h0_inbox, ce_In h0_inbox_words u.2.2.2.1), (h0_inbox_words, .inl (c0_inbox_words, 60, .inl u.2.2.2.2.1)), (h0_trueState, ce_Ma h0_trueState_cells h0_trueState_tree u.2.2.2.2.2.1), (h0_trueState_cells, .inl (c0_trueState_cells, 8, .inl u.2.2.2.2.2.2.1)), (h0_scratch, ce_Ma h0_scratch_cells h0_scratch_tree u.2.2.2.2.2.2.2.1), (h0_scratch_cells, .inl (c0_scratch_cells, 8, .inl u.2.2.2.2.2.2.2.2.1)), (h0_scratch_tree, .inl (c0_scratch_tree, 16, .inr (.inl u.2.2.2.2.2.2.2.2.2.1))), (h0_assertion, ce_As u.2.2.2.2.2.2.2.2.2.2)]
def wp_Sc_truth (post : Int64 → (ct_Sc × (Nat → Int32) × (Nat → Int32) × ct_In × (Nat → Int32) × ct_Ma × (Nat → Int32) × ct_Ma × (Nat → Int32) × (Nat → Int64) × ct_As) → Prop) (u : ct_Sc × (Nat → Int32) × (Nat → Int32) × ct_In × (Nat → Int32) × ct_Ma × (Nat → Int32) × ct_Ma × (Nat → Int32) × (Nat → Int64) × ct_As) (k1 : Int32) : Prop := ((k1 < 0 → (post 0 (u.1, u.2.1, u.2.2.1, u.2.2.2.1, u.2.2.2.2.1, u.2.2.2.2.2.1, u.2.2.2.2.2.2.1, u.2.2.2.2.2.2.2.1, u.2.2.2.2.2.2.2.2.1, u.2.2.2.2.2.2.2.2.2.1, u.2.2.2.2.2.2.2.2.2.2))) ∧ (¬ k1 < 0 → (((k1 ≤ 64 → (wp_Sc_trueCommitment (fun r3 u4 => (post r3 (u4.1, u4.2.1, u4.2.2.1, u4.2.2.2.1, u4.2.2.2.2.1, u4.2.2.2.2.2.1, u4.2.2.2.2.2.2.1, u4.2.2.2.2.2.2.2.1, u4.2.2.2.2.2.2.2.2.1, u4.2.2.2.2.2.2.2.2.2.1, u4.2.2.2.2.2.2.2.2.2.2))) (u.1, u.2.1, u.2.2.1, u.2.2.2.1, u.2.2.2.2.1, u.2.2.2.2.2.1, u.2.2.2.2.2.2.1, u.2.2.2.2.2.2.2.1, u.2.2.2.2.2.2.2.2.1, u.2.2.2.2.2.2.2.2.2.1, u.2.2.2.2.2.2.2.2.2.2) k1 )) ∧ (¬ k1 ≤ 64 → (post 0 (u.1, u.2.1, u.2.2.1, u.2.2.2.1, u.2.2.2.2.1, u.2.2.2.2.2.1, u.2.2.2.2.2.2.1, u.2.2.2.2.2.2.2.1, u.2.2.2.2.2.2.2.2.1, u.2.2.2.2.2.2.2.2.2.1, u.2.2.2.2.2.2.2.2.2.2)))))))
set_option maxHeartbeats 4000000 in
set_option maxRecDepth 100000 in
theorem mt_Sc_truth (l : Launch) (dC : Nat → ClassId) (dI : Nat → Nat → Nat) (h0 h0_code h0_code_ops h0_code_arguments h0_inbox h0_inbox_words h0_trueState h0_trueState_cells h0_scratch h0_scratch_cells h0_scratch_tree h0_assertion h0_balances h0_payments h0_proof h0_games h0_trueState_tree : Nat) (c0_code_ops c0_code_arguments c0_inbox_words c0_trueState_cells c0_scratch_cells c0_scratch_tree : ClassId) (sz : Nat) (post : Int64 → (ct_Sc × (Nat → Int32) × (Nat → Int32) × ct_In × (Nat → Int32) × ct_Ma × (Nat → Int32) × ct_Ma × (Nat → Int32) × (Nat → Int64) × ct_As) → Prop) (u : ct_Sc × (Nat → Int32) × (Nat → Int32) × ct_In × (Nat → Int32) × ct_Ma × (Nat → Int32) × ct_Ma × (Nat → Int32) × (Nat → Int64) × ct_As) (k1 : Int32) (hw : wp_Sc_truth post u k1) : Met l ySc_truth wsSc_truth ({ frames := 5, cells := 0, slots := 0, locals := 116 }) (kp_P dC dI [.ref h0, .int k1] sz (ww_Sc_truth h0 h0_code h0_code_ops h0_code_arguments h0_inbox h0_inbox_words h0_trueState h0_trueState_cells h0_scratch h0_scratch_cells h0_scratch_tree h0_assertion h0_balances h0_payments h0_proof h0_games h0_trueState_tree c0_code_ops c0_code_arguments c0_inbox_words c0_trueState_cells c0_scratch_cells c0_scratch_tree u) [(c0_code_ops, .int), (c0_code_arguments, .int), (c0_inbox_words, .int), (c0_trueState_cells, .int), (c0_scratch_cells, .int), (c0_scratch_tree, .long)]) (va_Ql post (fun u9 => kp_B dC dI (va_A (ww_Sc_truth h0 h0_code h0_code_ops h0_code_arguments h0_inbox h0_inbox_words h0_trueState h0_trueState_cells h0_scratch h0_scratch_cells h0_scratch_tree h0_assertion h0_balances h0_payments h0_proof h0_games h0_trueState_tree c0_code_ops c0_code_arguments c0_inbox_words c0_trueState_cells c0_scratch_cells c0_scratch_tree u) sz) (ww_Sc_truth h0 h0_code h0_code_ops h0_code_arguments h0_inbox h0_inbox_words h0_trueState h0_trueState_cells h0_scratch h0_scratch_cells h0_scratch_tree h0_assertion h0_balances h0_payments h0_proof h0_games h0_trueState_tree c0_code_ops c0_code_arguments c0_inbox_words c0_trueState_cells c0_scratch_cells c0_scratch_tree u9) [(c0_code_ops, .int), (c0_code_arguments, .int), (c0_inbox_words, .int), (c0_trueState_cells, .int), (c0_scratch_cells, .int), (c0_scratch_tree, .long)]) (va_A (ww_Sc_truth h0 h0_code h0_code_ops h0_code_arguments h0_inbox h0_inbox_words h0_trueState h0_trueState_cells h0_scratch h0_scratch_cells h0_scratch_tree h0_assertion h0_balances h0_payments h0_proof h0_games h0_trueState_tree c0_code_ops c0_code_arguments c0_inbox_words c0_trueState_cells c0_scratch_cells c0_scratch_tree u) sz)) 0 0 (va_A (ww_Sc_truth h0 h0_code h0_code_ops h0_code_arguments h0_inbox h0_inbox_words h0_trueState h0_trueState_cells h0_scratch h0_scratch_cells h0_scratch_tree h0_assertion h0_balances h0_payments h0_proof h0_games h0_trueState_tree c0_code_ops c0_code_arguments c0_inbox_words c0_trueState_cells c0_scratch_cells c0_scratch_tree u) sz) := by
  refine Met.ofW (cc := cSc_truth) (maxL := 2) (ret := (some .long)) (by decide) rfl ?_
  intro p e s m args below meth c s₁ B hml hv
  obtain ⟨rfl, hsz, hP, hK, hD0, hZ⟩ := hv
  have hx := B.exec
  have hb := B.bytes
  have hr := B.returns
  have hq : ∀ w ∈ wz, w.before _ s = true := fun w h => atoms_spec (ws := wsSc_truth) B.pre w (List.mem_cons_of_mem _ h)
  have hown : s.vm.findClass "StepCourt" = some m.cls := findClass_of_methodNamed B.named
  have hlocks := B.notSynchronized
  subst hsz
  have hD := hD0.self (sz := s.heap.size)
  generalize hAe : va_A (ww_Sc_truth h0 h0_code h0_code_ops h0_code_arguments h0_inbox h0_inbox_words h0_trueState h0_trueState_cells h0_scratch h0_scratch_cells h0_scratch_tree h0_assertion h0_balances h0_payments h0_proof h0_games h0_trueState_tree c0_code_ops c0_code_arguments c0_inbox_words c0_trueState_cells c0_scratch_cells c0_scratch_tree u) s.heap.size = A at hD ⊢
  have hA : ∀ q : Nat, s.heap.size ≤ q → A q := fun q h => by rw [← hAe]; exact Or.inr h
  have hS : va_S A s.heap s.heap [] := va_S.rf
  have hP : va_P (dC, dI) vwCl [(h0, ce_Sc h0_balances h0_code h0_inbox h0_trueState h0_scratch h0_payments h0_proof h0_assertion h0_games u.1), (h0_code, ce_Co h0_code_ops h0_code_arguments), (h0_code_ops, .inl (c0_code_ops, 16, .inl u.2.1)), (h0_code_arguments, .inl (c0_code_arguments, 16, .inl u.2.2.1)), (h0_inbox, ce_In h0_inbox_words u.2.2.2.1), (h0_inbox_words, .inl (c0_inbox_words, 60, .inl u.2.2.2.2.1)), (h0_trueState, ce_Ma h0_trueState_cells h0_trueState_tree u.2.2.2.2.2.1), (h0_trueState_cells, .inl (c0_trueState_cells, 8, .inl u.2.2.2.2.2.2.1)), (h0_scratch, ce_Ma h0_scratch_cells h0_scratch_tree u.2.2.2.2.2.2.2.1), (h0_scratch_cells, .inl (c0_scratch_cells, 8, .inl u.2.2.2.2.2.2.2.2.1)), (h0_scratch_tree, .inl (c0_scratch_tree, 16, .inr (.inl u.2.2.2.2.2.2.2.2.2.1))), (h0_assertion, ce_As u.2.2.2.2.2.2.2.2.2.2)] s.heap := hP
  have hD : va_D A [(h0, ce_Sc h0_balances h0_code h0_inbox h0_trueState h0_scratch h0_payments h0_proof h0_assertion h0_games u.1), (h0_code, ce_Co h0_code_ops h0_code_arguments), (h0_code_ops, .inl (c0_code_ops, 16, .inl u.2.1)), (h0_code_arguments, .inl (c0_code_arguments, 16, .inl u.2.2.1)), (h0_inbox, ce_In h0_inbox_words u.2.2.2.1), (h0_inbox_words, .inl (c0_inbox_words, 60, .inl u.2.2.2.2.1)), (h0_trueState, ce_Ma h0_trueState_cells h0_trueState_tree u.2.2.2.2.2.1), (h0_trueState_cells, .inl (c0_trueState_cells, 8, .inl u.2.2.2.2.2.2.1)), (h0_scratch, ce_Ma h0_scratch_cells h0_scratch_tree u.2.2.2.2.2.2.2.1), (h0_scratch_cells, .inl (c0_scratch_cells, 8, .inl u.2.2.2.2.2.2.2.2.1)), (h0_scratch_tree, .inl (c0_scratch_tree, 16, .inr (.inl u.2.2.2.2.2.2.2.2.2.1))), (h0_assertion, ce_As u.2.2.2.2.2.2.2.2.2.2)] := hD
  have hl := lv_entry ([.ref h0, .int k1]) (n := 2) (Nat.le_of_ble_eq_true rfl)
  rw [lg_entry_eq]
  generalize (lg_sl ([.ref h0, .int k1]) ++ List.replicate (2 - (lg_sl ([.ref h0, .int k1])).length) Slot.unset).toArray = ls at hl ⊢
  have hl : lv_has ls 2 [(0, .ref h0), (1, .int k1)] := hl
  skip
  refine lv_iload_n hx hb dSc_truth_0 rfl (lv_at hl 1 rfl) ?_
  refine lv_if_lt (tgt := 10) hx hb dSc_truth_1 (by decide) (fun cc1 => ?_) (fun cc1 => ?_)
  · have hw := hw.1 cc1
    refine lv_lconst (v := 0) hx hb dSc_truth_10 (by decide) ?_
    refine lv_goto (tgt := 19) hx hb dSc_truth_11 (by decide) ?_
    have hP9 := hP.sub (ws' := [(h0, ce_Sc h0_balances h0_code h0_inbox h0_trueState h0_scratch h0_payments h0_proof h0_assertion h0_games u.1), (h0_code, ce_Co h0_code_ops h0_code_arguments), (h0_code_ops, .inl (c0_code_ops, 16, .inl u.2.1)), (h0_code_arguments, .inl (c0_code_arguments, 16, .inl u.2.2.1)), (h0_inbox, ce_In h0_inbox_words u.2.2.2.1), (h0_inbox_words, .inl (c0_inbox_words, 60, .inl u.2.2.2.2.1)), (h0_trueState, ce_Ma h0_trueState_cells h0_trueState_tree u.2.2.2.2.2.1), (h0_trueState_cells, .inl (c0_trueState_cells, 8, .inl u.2.2.2.2.2.2.1)), (h0_scratch, ce_Ma h0_scratch_cells h0_scratch_tree u.2.2.2.2.2.2.2.1), (h0_scratch_cells, .inl (c0_scratch_cells, 8, .inl u.2.2.2.2.2.2.2.2.1)), (h0_scratch_tree, .inl (c0_scratch_tree, 16, .inr (.inl u.2.2.2.2.2.2.2.2.2.1))), (h0_assertion, ce_As u.2.2.2.2.2.2.2.2.2.2)]) [0, 1, 2, 3, 4, 5, 6, 7, 8, 9, 10, 11] rfl
    have hD9 := hD.sub (ws' := [(h0, ce_Sc h0_balances h0_code h0_inbox h0_trueState h0_scratch h0_payments h0_proof h0_assertion h0_games u.1), (h0_code, ce_Co h0_code_ops h0_code_arguments), (h0_code_ops, .inl (c0_code_ops, 16, .inl u.2.1)), (h0_code_arguments, .inl (c0_code_arguments, 16, .inl u.2.2.1)), (h0_inbox, ce_In h0_inbox_words u.2.2.2.1), (h0_inbox_words, .inl (c0_inbox_words, 60, .inl u.2.2.2.2.1)), (h0_trueState, ce_Ma h0_trueState_cells h0_trueState_tree u.2.2.2.2.2.1), (h0_trueState_cells, .inl (c0_trueState_cells, 8, .inl u.2.2.2.2.2.2.1)), (h0_scratch, ce_Ma h0_scratch_cells h0_scratch_tree u.2.2.2.2.2.2.2.1), (h0_scratch_cells, .inl (c0_scratch_cells, 8, .inl u.2.2.2.2.2.2.2.2.1)), (h0_scratch_tree, .inl (c0_scratch_tree, 16, .inr (.inl u.2.2.2.2.2.2.2.2.2.1))), (h0_assertion, ce_As u.2.2.2.2.2.2.2.2.2.2)]) [0, 1, 2, 3, 4, 5, 6, 7, 8, 9, 10, 11] (by decide) rfl
    have hK9 := hK.sub (tys' := [(c0_code_ops, .int), (c0_code_arguments, .int), (c0_inbox_words, .int), (c0_trueState_cells, .int), (c0_scratch_cells, .int), (c0_scratch_tree, .long)]) [0, 1, 2, 3, 4, 5] rfl
    exact W.lret (v := 0) hx hb hr (fun t ht hW => ⟨⟨0, (u.1, u.2.1, u.2.2.1, u.2.2.2.1, u.2.2.2.2.1, u.2.2.2.2.2.1, u.2.2.2.2.2.2.1, u.2.2.2.2.2.2.2.1, u.2.2.2.2.2.2.2.2.1, u.2.2.2.2.2.2.2.2.2.1, u.2.2.2.2.2.2.2.2.2.2), rfl, hw, by rw [ht]; exact hP9, va_K.moved hW.alike hK9, hD9⟩, hS.F ht⟩) hS.2.2 dSc_truth_19
  · have hw := hw.2 cc1
    refine lv_iload_n hx hb dSc_truth_4 rfl (lv_at hl 1 rfl) ?_
    refine lv_bipush (v := 64) hx hb dSc_truth_5 (by decide) ?_
    refine lv_icmp_le (tgt := 14) hx hb dSc_truth_7 (by decide) (fun cc2 => ?_) (fun cc2 => ?_)
    · have hw := hw.1 cc2
      refine lv_aload_n hx hb dSc_truth_14 rfl (lv_at hl 0 rfl) ?_
      refine lv_iload_n hx hb dSc_truth_15 rfl (lv_at hl 1 rfl) ?_
      have hPc := hP.sub (ws' := [(h0, ce_Sc h0_balances h0_code h0_inbox h0_trueState h0_scratch h0_payments h0_proof h0_assertion h0_games u.1), (h0_code, ce_Co h0_code_ops h0_code_arguments), (h0_code_ops, .inl (c0_code_ops, 16, .inl u.2.1)), (h0_code_arguments, .inl (c0_code_arguments, 16, .inl u.2.2.1)), (h0_inbox, ce_In h0_inbox_words u.2.2.2.1), (h0_inbox_words, .inl (c0_inbox_words, 60, .inl u.2.2.2.2.1)), (h0_trueState, ce_Ma h0_trueState_cells h0_trueState_tree u.2.2.2.2.2.1), (h0_trueState_cells, .inl (c0_trueState_cells, 8, .inl u.2.2.2.2.2.2.1)), (h0_scratch, ce_Ma h0_scratch_cells h0_scratch_tree u.2.2.2.2.2.2.2.1), (h0_scratch_cells, .inl (c0_scratch_cells, 8, .inl u.2.2.2.2.2.2.2.2.1)), (h0_scratch_tree, .inl (c0_scratch_tree, 16, .inr (.inl u.2.2.2.2.2.2.2.2.2.1))), (h0_assertion, ce_As u.2.2.2.2.2.2.2.2.2.2)]) [0, 1, 2, 3, 4, 5, 6, 7, 8, 9, 10, 11] rfl
      have hDc := hD.sub (ws' := [(h0, ce_Sc h0_balances h0_code h0_inbox h0_trueState h0_scratch h0_payments h0_proof h0_assertion h0_games u.1), (h0_code, ce_Co h0_code_ops h0_code_arguments), (h0_code_ops, .inl (c0_code_ops, 16, .inl u.2.1)), (h0_code_arguments, .inl (c0_code_arguments, 16, .inl u.2.2.1)), (h0_inbox, ce_In h0_inbox_words u.2.2.2.1), (h0_inbox_words, .inl (c0_inbox_words, 60, .inl u.2.2.2.2.1)), (h0_trueState, ce_Ma h0_trueState_cells h0_trueState_tree u.2.2.2.2.2.1), (h0_trueState_cells, .inl (c0_trueState_cells, 8, .inl u.2.2.2.2.2.2.1)), (h0_scratch, ce_Ma h0_scratch_cells h0_scratch_tree u.2.2.2.2.2.2.2.1), (h0_scratch_cells, .inl (c0_scratch_cells, 8, .inl u.2.2.2.2.2.2.2.2.1)), (h0_scratch_tree, .inl (c0_scratch_tree, 16, .inr (.inl u.2.2.2.2.2.2.2.2.2.1))), (h0_assertion, ce_As u.2.2.2.2.2.2.2.2.2.2)]) [0, 1, 2, 3, 4, 5, 6, 7, 8, 9, 10, 11] (by decide) rfl
      have hKc := hK.sub (tys' := [(c0_code_ops, .int), (c0_code_arguments, .int), (c0_inbox_words, .int), (c0_trueState_cells, .int), (c0_scratch_cells, .int), (c0_scratch_tree, .long)]) [0, 1, 2, 3, 4, 5] rfl
      have hFc := va_free (wc := [(h0, ce_Sc h0_balances h0_code h0_inbox h0_trueState h0_scratch h0_payments h0_proof h0_assertion h0_games u.1), (h0_code, ce_Co h0_code_ops h0_code_arguments), (h0_code_ops, .inl (c0_code_ops, 16, .inl u.2.1)), (h0_code_arguments, .inl (c0_code_arguments, 16, .inl u.2.2.1)), (h0_inbox, ce_In h0_inbox_words u.2.2.2.1), (h0_inbox_words, .inl (c0_inbox_words, 60, .inl u.2.2.2.2.1)), (h0_trueState, ce_Ma h0_trueState_cells h0_trueState_tree u.2.2.2.2.2.1), (h0_trueState_cells, .inl (c0_trueState_cells, 8, .inl u.2.2.2.2.2.2.1)), (h0_scratch, ce_Ma h0_scratch_cells h0_scratch_tree u.2.2.2.2.2.2.2.1), (h0_scratch_cells, .inl (c0_scratch_cells, 8, .inl u.2.2.2.2.2.2.2.2.1)), (h0_scratch_tree, .inl (c0_scratch_tree, 16, .inr (.inl u.2.2.2.2.2.2.2.2.2.1))), (h0_assertion, ce_As u.2.2.2.2.2.2.2.2.2.2)]) hD hS hA [0, 1, 2, 3, 4, 5, 6, 7, 8, 9, 10, 11] rfl
      refine va_calll (va_runV (As := [.int k1]) (rest := []) ⟨hx, hb, hml, hown, hq⟩ (mt_Sc_trueCommitment l dC dI h0 h0_code h0_code_ops h0_code_arguments h0_inbox h0_inbox_words h0_trueState h0_trueState_cells h0_scratch h0_scratch_cells h0_scratch_tree h0_assertion h0_balances h0_payments h0_proof h0_games h0_trueState_tree c0_code_ops c0_code_arguments c0_inbox_words c0_trueState_cells c0_scratch_cells c0_scratch_tree s.heap.size _ (u.1, u.2.1, u.2.2.1, u.2.2.2.1, u.2.2.2.2.1, u.2.2.2.2.2.1, u.2.2.2.2.2.2.1, u.2.2.2.2.2.2.2.1, u.2.2.2.2.2.2.2.2.1, u.2.2.2.2.2.2.2.2.2.1, u.2.2.2.2.2.2.2.2.2.2) k1 hw) ⟨cq_B 1 hq wt_394 wt_391 wt_1 rfl rfl hd_Sc_trueCommitment ⟨Nat.le_of_ble_eq_true rfl, Nat.le_of_ble_eq_true rfl⟩, (hq _ wt_393), (hq _ wv_11)⟩ ⟨kp_bl, va_recv hKc hPc (ci := 7) (q0 := 0) rfl rfl, kp_at hPc hKc hDc hZ⟩ rfl rfl hl.1 rfl (lv_room (Nat.le_of_ble_eq_true rfl)) dSc_truth_16 ⟨(by decide), (by decide)⟩) hS (fun q _ h => hFc q h) hFc (fun r3 u4 t H1 locs ht hvm hw hB hz1 hk1 hS => ?_)
      obtain ⟨hP1, hK1, hD1⟩ := hB
      rw [ht] at hP1
      have hK1 := va_K.moved hvm.symm hK1
      obtain ⟨hP, hD⟩ := va_join (wr := []) (w1 := [(h0, ce_Sc h0_balances h0_code h0_inbox h0_trueState h0_scratch h0_payments h0_proof h0_assertion h0_games u4.1), (h0_code, ce_Co h0_code_ops h0_code_arguments), (h0_code_ops, .inl (c0_code_ops, 16, .inl u4.2.1)), (h0_code_arguments, .inl (c0_code_arguments, 16, .inl u4.2.2.1)), (h0_inbox, ce_In h0_inbox_words u4.2.2.2.1), (h0_inbox_words, .inl (c0_inbox_words, 60, .inl u4.2.2.2.2.1)), (h0_trueState, ce_Ma h0_trueState_cells h0_trueState_tree u4.2.2.2.2.2.1), (h0_trueState_cells, .inl (c0_trueState_cells, 8, .inl u4.2.2.2.2.2.2.1)), (h0_scratch, ce_Ma h0_scratch_cells h0_scratch_tree u4.2.2.2.2.2.2.2.1), (h0_scratch_cells, .inl (c0_scratch_cells, 8, .inl u4.2.2.2.2.2.2.2.2.1)), (h0_scratch_tree, .inl (c0_scratch_tree, 16, .inr (.inl u4.2.2.2.2.2.2.2.2.2.1))), (h0_assertion, ce_As u4.2.2.2.2.2.2.2.2.2.2)]) hP hD [0, 1, 2, 3, 4, 5, 6, 7, 8, 9, 10, 11] [] rfl rfl (by decide) (by decide) hk1 hFc hP1 hD1
      have hK := (hK.sub (tys' := []) [] rfl).app hK1
      generalize H1 = H at hP hS ⊢
      have hP : va_P (dC, dI) vwCl [(h0, ce_Sc h0_balances h0_code h0_inbox h0_trueState h0_scratch h0_payments h0_proof h0_assertion h0_games u4.1), (h0_code, ce_Co h0_code_ops h0_code_arguments), (h0_code_ops, .inl (c0_code_ops, 16, .inl u4.2.1)), (h0_code_arguments, .inl (c0_code_arguments, 16, .inl u4.2.2.1)), (h0_inbox, ce_In h0_inbox_words u4.2.2.2.1), (h0_inbox_words, .inl (c0_inbox_words, 60, .inl u4.2.2.2.2.1)), (h0_trueState, ce_Ma h0_trueState_cells h0_trueState_tree u4.2.2.2.2.2.1), (h0_trueState_cells, .inl (c0_trueState_cells, 8, .inl u4.2.2.2.2.2.2.1)), (h0_scratch, ce_Ma h0_scratch_cells h0_scratch_tree u4.2.2.2.2.2.2.2.1), (h0_scratch_cells, .inl (c0_scratch_cells, 8, .inl u4.2.2.2.2.2.2.2.2.1)), (h0_scratch_tree, .inl (c0_scratch_tree, 16, .inr (.inl u4.2.2.2.2.2.2.2.2.2.1))), (h0_assertion, ce_As u4.2.2.2.2.2.2.2.2.2.2)] H := hP
      have hD : va_D A [(h0, ce_Sc h0_balances h0_code h0_inbox h0_trueState h0_scratch h0_payments h0_proof h0_assertion h0_games u4.1), (h0_code, ce_Co h0_code_ops h0_code_arguments), (h0_code_ops, .inl (c0_code_ops, 16, .inl u4.2.1)), (h0_code_arguments, .inl (c0_code_arguments, 16, .inl u4.2.2.1)), (h0_inbox, ce_In h0_inbox_words u4.2.2.2.1), (h0_inbox_words, .inl (c0_inbox_words, 60, .inl u4.2.2.2.2.1)), (h0_trueState, ce_Ma h0_trueState_cells h0_trueState_tree u4.2.2.2.2.2.1), (h0_trueState_cells, .inl (c0_trueState_cells, 8, .inl u4.2.2.2.2.2.2.1)), (h0_scratch, ce_Ma h0_scratch_cells h0_scratch_tree u4.2.2.2.2.2.2.2.1), (h0_scratch_cells, .inl (c0_scratch_cells, 8, .inl u4.2.2.2.2.2.2.2.2.1)), (h0_scratch_tree, .inl (c0_scratch_tree, 16, .inr (.inl u4.2.2.2.2.2.2.2.2.2.1))), (h0_assertion, ce_As u4.2.2.2.2.2.2.2.2.2.2)] := hD
      have hK : va_K (dC, dI) vwCl [(c0_code_ops, .int), (c0_code_arguments, .int), (c0_inbox_words, .int), (c0_trueState_cells, .int), (c0_scratch_cells, .int), (c0_scratch_tree, .long)] s := hK
      have hP9 := hP.sub (ws' := [(h0, ce_Sc h0_balances h0_code h0_inbox h0_trueState h0_scratch h0_payments h0_proof h0_assertion h0_games u4.1), (h0_code, ce_Co h0_code_ops h0_code_arguments), (h0_code_ops, .inl (c0_code_ops, 16, .inl u4.2.1)), (h0_code_arguments, .inl (c0_code_arguments, 16, .inl u4.2.2.1)), (h0_inbox, ce_In h0_inbox_words u4.2.2.2.1), (h0_inbox_words, .inl (c0_inbox_words, 60, .inl u4.2.2.2.2.1)), (h0_trueState, ce_Ma h0_trueState_cells h0_trueState_tree u4.2.2.2.2.2.1), (h0_trueState_cells, .inl (c0_trueState_cells, 8, .inl u4.2.2.2.2.2.2.1)), (h0_scratch, ce_Ma h0_scratch_cells h0_scratch_tree u4.2.2.2.2.2.2.2.1), (h0_scratch_cells, .inl (c0_scratch_cells, 8, .inl u4.2.2.2.2.2.2.2.2.1)), (h0_scratch_tree, .inl (c0_scratch_tree, 16, .inr (.inl u4.2.2.2.2.2.2.2.2.2.1))), (h0_assertion, ce_As u4.2.2.2.2.2.2.2.2.2.2)]) [0, 1, 2, 3, 4, 5, 6, 7, 8, 9, 10, 11] rfl
      have hD9 := hD.sub (ws' := [(h0, ce_Sc h0_balances h0_code h0_inbox h0_trueState h0_scratch h0_payments h0_proof h0_assertion h0_games u4.1), (h0_code, ce_Co h0_code_ops h0_code_arguments), (h0_code_ops, .inl (c0_code_ops, 16, .inl u4.2.1)), (h0_code_arguments, .inl (c0_code_arguments, 16, .inl u4.2.2.1)), (h0_inbox, ce_In h0_inbox_words u4.2.2.2.1), (h0_inbox_words, .inl (c0_inbox_words, 60, .inl u4.2.2.2.2.1)), (h0_trueState, ce_Ma h0_trueState_cells h0_trueState_tree u4.2.2.2.2.2.1), (h0_trueState_cells, .inl (c0_trueState_cells, 8, .inl u4.2.2.2.2.2.2.1)), (h0_scratch, ce_Ma h0_scratch_cells h0_scratch_tree u4.2.2.2.2.2.2.2.1), (h0_scratch_cells, .inl (c0_scratch_cells, 8, .inl u4.2.2.2.2.2.2.2.2.1)), (h0_scratch_tree, .inl (c0_scratch_tree, 16, .inr (.inl u4.2.2.2.2.2.2.2.2.2.1))), (h0_assertion, ce_As u4.2.2.2.2.2.2.2.2.2.2)]) [0, 1, 2, 3, 4, 5, 6, 7, 8, 9, 10, 11] (by decide) rfl
      have hK9 := hK.sub (tys' := [(c0_code_ops, .int), (c0_code_arguments, .int), (c0_inbox_words, .int), (c0_trueState_cells, .int), (c0_scratch_cells, .int), (c0_scratch_tree, .long)]) [0, 1, 2, 3, 4, 5] rfl
      exact W.lret (v := r3) hx hb hr (fun t ht hW => ⟨⟨r3, (u4.1, u4.2.1, u4.2.2.1, u4.2.2.2.1, u4.2.2.2.2.1, u4.2.2.2.2.2.1, u4.2.2.2.2.2.2.1, u4.2.2.2.2.2.2.2.1, u4.2.2.2.2.2.2.2.2.1, u4.2.2.2.2.2.2.2.2.2.1, u4.2.2.2.2.2.2.2.2.2.2), rfl, hw, by rw [ht]; exact hP9, va_K.moved hW.alike hK9, hD9⟩, hS.F ht⟩) hS.2.2 dSc_truth_19
    · have hw := hw.2 cc2
      refine lv_lconst (v := 0) hx hb dSc_truth_10 (by decide) ?_
      refine lv_goto (tgt := 19) hx hb dSc_truth_11 (by decide) ?_
      have hP9 := hP.sub (ws' := [(h0, ce_Sc h0_balances h0_code h0_inbox h0_trueState h0_scratch h0_payments h0_proof h0_assertion h0_games u.1), (h0_code, ce_Co h0_code_ops h0_code_arguments), (h0_code_ops, .inl (c0_code_ops, 16, .inl u.2.1)), (h0_code_arguments, .inl (c0_code_arguments, 16, .inl u.2.2.1)), (h0_inbox, ce_In h0_inbox_words u.2.2.2.1), (h0_inbox_words, .inl (c0_inbox_words, 60, .inl u.2.2.2.2.1)), (h0_trueState, ce_Ma h0_trueState_cells h0_trueState_tree u.2.2.2.2.2.1), (h0_trueState_cells, .inl (c0_trueState_cells, 8, .inl u.2.2.2.2.2.2.1)), (h0_scratch, ce_Ma h0_scratch_cells h0_scratch_tree u.2.2.2.2.2.2.2.1), (h0_scratch_cells, .inl (c0_scratch_cells, 8, .inl u.2.2.2.2.2.2.2.2.1)), (h0_scratch_tree, .inl (c0_scratch_tree, 16, .inr (.inl u.2.2.2.2.2.2.2.2.2.1))), (h0_assertion, ce_As u.2.2.2.2.2.2.2.2.2.2)]) [0, 1, 2, 3, 4, 5, 6, 7, 8, 9, 10, 11] rfl
      have hD9 := hD.sub (ws' := [(h0, ce_Sc h0_balances h0_code h0_inbox h0_trueState h0_scratch h0_payments h0_proof h0_assertion h0_games u.1), (h0_code, ce_Co h0_code_ops h0_code_arguments), (h0_code_ops, .inl (c0_code_ops, 16, .inl u.2.1)), (h0_code_arguments, .inl (c0_code_arguments, 16, .inl u.2.2.1)), (h0_inbox, ce_In h0_inbox_words u.2.2.2.1), (h0_inbox_words, .inl (c0_inbox_words, 60, .inl u.2.2.2.2.1)), (h0_trueState, ce_Ma h0_trueState_cells h0_trueState_tree u.2.2.2.2.2.1), (h0_trueState_cells, .inl (c0_trueState_cells, 8, .inl u.2.2.2.2.2.2.1)), (h0_scratch, ce_Ma h0_scratch_cells h0_scratch_tree u.2.2.2.2.2.2.2.1), (h0_scratch_cells, .inl (c0_scratch_cells, 8, .inl u.2.2.2.2.2.2.2.2.1)), (h0_scratch_tree, .inl (c0_scratch_tree, 16, .inr (.inl u.2.2.2.2.2.2.2.2.2.1))), (h0_assertion, ce_As u.2.2.2.2.2.2.2.2.2.2)]) [0, 1, 2, 3, 4, 5, 6, 7, 8, 9, 10, 11] (by decide) rfl
      have hK9 := hK.sub (tys' := [(c0_code_ops, .int), (c0_code_arguments, .int), (c0_inbox_words, .int), (c0_trueState_cells, .int), (c0_scratch_cells, .int), (c0_scratch_tree, .long)]) [0, 1, 2, 3, 4, 5] rfl
      exact W.lret (v := 0) hx hb hr (fun t ht hW => ⟨⟨0, (u.1, u.2.1, u.2.2.1, u.2.2.2.1, u.2.2.2.2.1, u.2.2.2.2.2.1, u.2.2.2.2.2.2.1, u.2.2.2.2.2.2.2.1, u.2.2.2.2.2.2.2.2.1, u.2.2.2.2.2.2.2.2.2.1, u.2.2.2.2.2.2.2.2.2.2), rfl, hw, by rw [ht]; exact hP9, va_K.moved hW.alike hK9, hD9⟩, hS.F ht⟩) hS.2.2 dSc_truth_19
abbrev ww_Sc_base (h0 h0_balances h0_code h0_inbox h0_trueState h0_scratch h0_payments h0_proof h0_assertion h0_games : Nat) (u : ct_Sc) : va_W := [(h0, ce_Sc h0_balances h0_code h0_inbox h0_trueState h0_scratch h0_payments h0_proof h0_assertion h0_games u)]
def wp_Sc_base (post : Int64 → ct_Sc → Prop) (u : ct_Sc) : Prop := post u.2.2.2 u
set_option maxHeartbeats 4000000 in
set_option maxRecDepth 100000 in
theorem mt_Sc_base (l : Launch) (dC : Nat → ClassId) (dI : Nat → Nat → Nat) (h0 h0_balances h0_code h0_inbox h0_trueState h0_scratch h0_payments h0_proof h0_assertion h0_games : Nat) (sz : Nat) (post : Int64 → ct_Sc → Prop) (u : ct_Sc) (hw : wp_Sc_base post u) : Met l ySc_base wsSc_base ({ frames := 0, cells := 0, slots := 0, locals := 0 }) (kp_P dC dI [.ref h0] sz (ww_Sc_base h0 h0_balances h0_code h0_inbox h0_trueState h0_scratch h0_payments h0_proof h0_assertion h0_games u) []) (va_Ql post (fun u9 => kp_B dC dI (va_A (ww_Sc_base h0 h0_balances h0_code h0_inbox h0_trueState h0_scratch h0_payments h0_proof h0_assertion h0_games u) sz) (ww_Sc_base h0 h0_balances h0_code h0_inbox h0_trueState h0_scratch h0_payments h0_proof h0_assertion h0_games u9) []) (va_A (ww_Sc_base h0 h0_balances h0_code h0_inbox h0_trueState h0_scratch h0_payments h0_proof h0_assertion h0_games u) sz)) 0 0 (va_A (ww_Sc_base h0 h0_balances h0_code h0_inbox h0_trueState h0_scratch h0_payments h0_proof h0_assertion h0_games u) sz) := by
  refine Met.ofW (cc := cSc_base) (maxL := 1) (ret := (some .long)) (by decide) rfl ?_
  intro p e s m args below meth c s₁ B hml hv
  obtain ⟨rfl, hsz, hP, hK, hD0, hZ⟩ := hv
  have hx := B.exec
  have hb := B.bytes
  have hr := B.returns
  have hq : ∀ w ∈ wz, w.before _ s = true := fun w h => atoms_spec (ws := wsSc_base) B.pre w (List.mem_cons_of_mem _ h)
  have hown : s.vm.findClass "StepCourt" = some m.cls := findClass_of_methodNamed B.named
  have hlocks := B.notSynchronized
  subst hsz
  have hD := hD0.self (sz := s.heap.size)
  generalize hAe : va_A (ww_Sc_base h0 h0_balances h0_code h0_inbox h0_trueState h0_scratch h0_payments h0_proof h0_assertion h0_games u) s.heap.size = A at hD ⊢
  have hA : ∀ q : Nat, s.heap.size ≤ q → A q := fun q h => by rw [← hAe]; exact Or.inr h
  have hS : va_S A s.heap s.heap [] := va_S.rf
  have hP : va_P (dC, dI) vwCl [(h0, ce_Sc h0_balances h0_code h0_inbox h0_trueState h0_scratch h0_payments h0_proof h0_assertion h0_games u)] s.heap := hP
  have hD : va_D A [(h0, ce_Sc h0_balances h0_code h0_inbox h0_trueState h0_scratch h0_payments h0_proof h0_assertion h0_games u)] := hD
  have hl := lv_entry ([.ref h0]) (n := 1) (Nat.le_of_ble_eq_true rfl)
  rw [lg_entry_eq]
  generalize (lg_sl ([.ref h0]) ++ List.replicate (1 - (lg_sl ([.ref h0])).length) Slot.unset).toArray = ls at hl ⊢
  have hl : lv_has ls 1 [(0, .ref h0)] := hl
  skip
  refine lv_aload_n hx hb dSc_base_0 rfl (lv_at hl 0 rfl) ?_
  refine va_get (D := (dC, dI)) (ci := 7) (v := .long u.2.2.2) (C := "StepCourt") (T := TSc) (N := 13) hx hb hq inSc hown hK hP 0 rfl rfl 12 (by decide) (hq _ wt_266) (fun _ h9 => h9) rfl dSc_base_1 ?_
  have hP9 := hP.sub (ws' := [(h0, ce_Sc h0_balances h0_code h0_inbox h0_trueState h0_scratch h0_payments h0_proof h0_assertion h0_games u)]) [0] rfl
  have hD9 := hD.sub (ws' := [(h0, ce_Sc h0_balances h0_code h0_inbox h0_trueState h0_scratch h0_payments h0_proof h0_assertion h0_games u)]) [0] (by decide) rfl
  have hK9 := hK.sub (tys' := []) [] rfl
  exact W.lret (v := u.2.2.2) hx hb hr (fun t ht hW => ⟨⟨u.2.2.2, u, rfl, hw, by rw [ht]; exact hP9, va_K.moved hW.alike hK9, hD9⟩, hS.F ht⟩) hS.2.2 dSc_base_4
abbrev ww_Sc_state (h0 h0_trueState h0_trueState_cells h0_balances h0_code h0_inbox h0_scratch h0_payments h0_proof h0_assertion h0_games h0_trueState_tree : Nat) (c0_trueState_cells : ClassId) (u : ct_Sc × ct_Ma × (Nat → Int32)) : va_W := [(h0, ce_Sc h0_balances h0_code h0_inbox h0_trueState h0_scratch h0_payments h0_proof h0_assertion h0_games u.1), (h0_trueState, ce_Ma h0_trueState_cells h0_trueState_tree u.2.1), (h0_trueState_cells, .inl (c0_trueState_cells, 8, .inl u.2.2))]
def wp_Sc_state (post : Int64 → (ct_Sc × ct_Ma × (Nat → Int32)) → Prop) (u : ct_Sc × ct_Ma × (Nat → Int32)) (k1 : Int32) : Prop := ((k1 < 0 → (wp_Ma_cellOrZero (fun r3 u4 => (post r3 (u.1, u4.1, u4.2))) (u.2.1, u.2.2) ((k1.toInt64) - 6) )) ∧ (¬ k1 < 0 → (((5 < k1 → (wp_Ma_cellOrZero (fun r5 u6 => (post r5 (u.1, u6.1, u6.2))) (u.2.1, u.2.2) ((k1.toInt64) - 6) )) ∧ (¬ 5 < k1 → (((k1 = 0 → (post (u.2.1.1.toInt64) (u.1, u.2.1, u.2.2))) ∧ (¬ k1 = 0 → (((k1 = 1 → (post (u.2.1.2.1.toInt64) (u.1, u.2.1, u.2.2))) ∧ (¬ k1 = 1 → (((k1 = 2 → (post (u.2.1.2.2.1.toInt64) (u.1, u.2.1, u.2.2))) ∧ (¬ k1 = 2 → (((k1 = 3 → (post (u.2.1.2.2.2.1.toInt64) (u.1, u.2.1, u.2.2))) ∧ (¬ k1 = 3 → (((k1 = 4 → (post (u.2.1.2.2.2.2.1.toInt64) (u.1, u.2.1, u.2.2))) ∧ (¬ k1 = 4 → (((k1 = 5 → (post u.2.1.2.2.2.2.2 (u.1, u.2.1, u.2.2))) ∧ (¬ k1 = 5 → (True))))))))))))))))))))))))
set_option maxHeartbeats 4000000 in
set_option maxRecDepth 100000 in
theorem mt_Sc_state (l : Launch) (dC : Nat → ClassId) (dI : Nat → Nat → Nat) (h0 h0_trueState h0_trueState_cells h0_balances h0_code h0_inbox h0_scratch h0_payments h0_proof h0_assertion h0_games h0_trueState_tree : Nat) (c0_trueState_cells : ClassId) (sz : Nat) (post : Int64 → (ct_Sc × ct_Ma × (Nat → Int32)) → Prop) (u : ct_Sc × ct_Ma × (Nat → Int32)) (k1 : Int32) (hw : wp_Sc_state post u k1) : Met l ySc_state wsSc_state ({ frames := 1, cells := 0, slots := 0, locals := 22 }) (kp_P dC dI [.ref h0, .int k1] sz (ww_Sc_state h0 h0_trueState h0_trueState_cells h0_balances h0_code h0_inbox h0_scratch h0_payments h0_proof h0_assertion h0_games h0_trueState_tree c0_trueState_cells u) [(c0_trueState_cells, .int)]) (va_Ql post (fun u9 => kp_B dC dI (va_A (ww_Sc_state h0 h0_trueState h0_trueState_cells h0_balances h0_code h0_inbox h0_scratch h0_payments h0_proof h0_assertion h0_games h0_trueState_tree c0_trueState_cells u) sz) (ww_Sc_state h0 h0_trueState h0_trueState_cells h0_balances h0_code h0_inbox h0_scratch h0_payments h0_proof h0_assertion h0_games h0_trueState_tree c0_trueState_cells u9) [(c0_trueState_cells, .int)]) (va_A (ww_Sc_state h0 h0_trueState h0_trueState_cells h0_balances h0_code h0_inbox h0_scratch h0_payments h0_proof h0_assertion h0_games h0_trueState_tree c0_trueState_cells u) sz)) 0 0 (va_A (ww_Sc_state h0 h0_trueState h0_trueState_cells h0_balances h0_code h0_inbox h0_scratch h0_payments h0_proof h0_assertion h0_games h0_trueState_tree c0_trueState_cells u) sz) := by
  refine Met.ofW (cc := cSc_state) (maxL := 2) (ret := (some .long)) (by decide) rfl ?_
  intro p e s m args below meth c s₁ B hml hv
  obtain ⟨rfl, hsz, hP, hK, hD0, hZ⟩ := hv
  have hx := B.exec
  have hb := B.bytes
  have hr := B.returns
  have hq : ∀ w ∈ wz, w.before _ s = true := fun w h => atoms_spec (ws := wsSc_state) B.pre w (List.mem_cons_of_mem _ h)
  have hown : s.vm.findClass "StepCourt" = some m.cls := findClass_of_methodNamed B.named
  have hlocks := B.notSynchronized
  subst hsz
  have hD := hD0.self (sz := s.heap.size)
  generalize hAe : va_A (ww_Sc_state h0 h0_trueState h0_trueState_cells h0_balances h0_code h0_inbox h0_scratch h0_payments h0_proof h0_assertion h0_games h0_trueState_tree c0_trueState_cells u) s.heap.size = A at hD ⊢
  have hA : ∀ q : Nat, s.heap.size ≤ q → A q := fun q h => by rw [← hAe]; exact Or.inr h
  have hS : va_S A s.heap s.heap [] := va_S.rf
  have hP : va_P (dC, dI) vwCl [(h0, ce_Sc h0_balances h0_code h0_inbox h0_trueState h0_scratch h0_payments h0_proof h0_assertion h0_games u.1), (h0_trueState, ce_Ma h0_trueState_cells h0_trueState_tree u.2.1), (h0_trueState_cells, .inl (c0_trueState_cells, 8, .inl u.2.2))] s.heap := hP
  have hD : va_D A [(h0, ce_Sc h0_balances h0_code h0_inbox h0_trueState h0_scratch h0_payments h0_proof h0_assertion h0_games u.1), (h0_trueState, ce_Ma h0_trueState_cells h0_trueState_tree u.2.1), (h0_trueState_cells, .inl (c0_trueState_cells, 8, .inl u.2.2))] := hD
  have hl := lv_entry ([.ref h0, .int k1]) (n := 2) (Nat.le_of_ble_eq_true rfl)
  rw [lg_entry_eq]
  generalize (lg_sl ([.ref h0, .int k1]) ++ List.replicate (2 - (lg_sl ([.ref h0, .int k1])).length) Slot.unset).toArray = ls at hl ⊢
  have hl : lv_has ls 2 [(0, .ref h0), (1, .int k1)] := hl
  skip
  refine lv_iload_n hx hb dSc_state_0 rfl (lv_at hl 1 rfl) ?_
  by_cases cc1 : k1 < 0
  · have hw := hw.1 cc1
    refine lv_tableOut (tgt := 93) hx hb dSc_state_1 (Or.inl (by have q := Int32.lt_iff_toInt_lt.mp cc1; rw [show (0 : Int32).toInt = 0 by decide] at q; exact q)) (by decide) ?_
    refine lv_aload_n hx hb dSc_state_93 rfl (lv_at hl 0 rfl) ?_
    refine va_get (D := (dC, dI)) (ci := 7) (v := .ref h0_trueState) (C := "StepCourt") (T := TSc) (N := 13) hx hb hq inSc hown hK hP 0 rfl rfl 3 (by decide) (hq _ wt_257) (fun _ h9 => h9) rfl dSc_state_94 ?_
    refine lv_iload_n hx hb dSc_state_97 rfl (lv_at hl 1 rfl) ?_
    refine lv_i2l (v := k1.toInt64) hx hb dSc_state_98 rfl ?_
    refine lv_ldc2 (v := 6) hx hb hown (hq _ wt_414) dSc_state_99 ?_
    refine lv_lsub hx hb dSc_state_102 ?_
    have hPc := hP.sub (ws' := [(h0_trueState, ce_Ma h0_trueState_cells h0_trueState_tree u.2.1), (h0_trueState_cells, .inl (c0_trueState_cells, 8, .inl u.2.2))]) [1, 2] rfl
    have hDc := hD.sub (ws' := [(h0_trueState, ce_Ma h0_trueState_cells h0_trueState_tree u.2.1), (h0_trueState_cells, .inl (c0_trueState_cells, 8, .inl u.2.2))]) [1, 2] (by decide) rfl
    have hKc := hK.sub (tys' := [(c0_trueState_cells, .int)]) [0] rfl
    have hFc := va_free (wc := [(h0_trueState, ce_Ma h0_trueState_cells h0_trueState_tree u.2.1), (h0_trueState_cells, .inl (c0_trueState_cells, 8, .inl u.2.2))]) hD hS hA [1, 2] rfl
    refine va_calll (va_runV (As := [.long ((k1.toInt64) - 6)]) (rest := []) ⟨hx, hb, hml, hown, hq⟩ (mt_Ma_cellOrZero l dC dI h0_trueState h0_trueState_cells h0_trueState_tree c0_trueState_cells s.heap.size _ (u.2.1, u.2.2) ((k1.toInt64) - 6) hw) ⟨cq_B 1 hq wt_418 wt_415 wt_4 rfl rfl hd_Ma_cellOrZero ⟨Nat.le_of_ble_eq_true rfl, Nat.le_of_ble_eq_true rfl⟩, (hq _ wt_416), (hq _ wt_417)⟩ ⟨kp_bl, va_recv hKc hPc (ci := 4) (q0 := 0) rfl rfl, kp_at hPc hKc hDc hZ⟩ rfl rfl hl.1 rfl (lv_room (Nat.le_of_ble_eq_true rfl)) dSc_state_103 ⟨(by decide), (by decide)⟩) hS (fun q _ h => hFc q h) hFc (fun r3 u4 t H1 locs ht hvm hw hB hz1 hk1 hS => ?_)
    obtain ⟨hP1, hK1, hD1⟩ := hB
    rw [ht] at hP1
    have hK1 := va_K.moved hvm.symm hK1
    obtain ⟨hP, hD⟩ := va_join (wr := [(h0, ce_Sc h0_balances h0_code h0_inbox h0_trueState h0_scratch h0_payments h0_proof h0_assertion h0_games u.1)]) (w1 := [(h0_trueState, ce_Ma h0_trueState_cells h0_trueState_tree u4.1), (h0_trueState_cells, .inl (c0_trueState_cells, 8, .inl u4.2))]) hP hD [1, 2] [0] rfl rfl (by decide) (by decide) hk1 hFc hP1 hD1
    have hK := (hK.sub (tys' := []) [] rfl).app hK1
    generalize H1 = H at hP hS ⊢
    have hP : va_P (dC, dI) vwCl [(h0, ce_Sc h0_balances h0_code h0_inbox h0_trueState h0_scratch h0_payments h0_proof h0_assertion h0_games u.1), (h0_trueState, ce_Ma h0_trueState_cells h0_trueState_tree u4.1), (h0_trueState_cells, .inl (c0_trueState_cells, 8, .inl u4.2))] H := hP
    have hD : va_D A [(h0, ce_Sc h0_balances h0_code h0_inbox h0_trueState h0_scratch h0_payments h0_proof h0_assertion h0_games u.1), (h0_trueState, ce_Ma h0_trueState_cells h0_trueState_tree u4.1), (h0_trueState_cells, .inl (c0_trueState_cells, 8, .inl u4.2))] := hD
    have hK : va_K (dC, dI) vwCl [(c0_trueState_cells, .int)] s := hK
    have hP9 := hP.sub (ws' := [(h0, ce_Sc h0_balances h0_code h0_inbox h0_trueState h0_scratch h0_payments h0_proof h0_assertion h0_games u.1), (h0_trueState, ce_Ma h0_trueState_cells h0_trueState_tree u4.1), (h0_trueState_cells, .inl (c0_trueState_cells, 8, .inl u4.2))]) [0, 1, 2] rfl
    have hD9 := hD.sub (ws' := [(h0, ce_Sc h0_balances h0_code h0_inbox h0_trueState h0_scratch h0_payments h0_proof h0_assertion h0_games u.1), (h0_trueState, ce_Ma h0_trueState_cells h0_trueState_tree u4.1), (h0_trueState_cells, .inl (c0_trueState_cells, 8, .inl u4.2))]) [0, 1, 2] (by decide) rfl
    have hK9 := hK.sub (tys' := [(c0_trueState_cells, .int)]) [0] rfl
    exact W.lret (v := r3) hx hb hr (fun t ht hW => ⟨⟨r3, (u.1, u4.1, u4.2), rfl, hw, by rw [ht]; exact hP9, va_K.moved hW.alike hK9, hD9⟩, hS.F ht⟩) hS.2.2 dSc_state_106
  have hw := hw.2 cc1
  by_cases cc2 : 5 < k1
  · have hw := hw.1 cc2
    refine lv_tableOut (tgt := 93) hx hb dSc_state_1 (Or.inr (by have q := Int32.lt_iff_toInt_lt.mp cc2; rw [show (5 : Int32).toInt = 5 by decide] at q; exact q)) (by decide) ?_
    refine lv_aload_n hx hb dSc_state_93 rfl (lv_at hl 0 rfl) ?_
    refine va_get (D := (dC, dI)) (ci := 7) (v := .ref h0_trueState) (C := "StepCourt") (T := TSc) (N := 13) hx hb hq inSc hown hK hP 0 rfl rfl 3 (by decide) (hq _ wt_257) (fun _ h9 => h9) rfl dSc_state_94 ?_
    refine lv_iload_n hx hb dSc_state_97 rfl (lv_at hl 1 rfl) ?_
    refine lv_i2l (v := k1.toInt64) hx hb dSc_state_98 rfl ?_
    refine lv_ldc2 (v := 6) hx hb hown (hq _ wt_414) dSc_state_99 ?_
    refine lv_lsub hx hb dSc_state_102 ?_
    have hPc := hP.sub (ws' := [(h0_trueState, ce_Ma h0_trueState_cells h0_trueState_tree u.2.1), (h0_trueState_cells, .inl (c0_trueState_cells, 8, .inl u.2.2))]) [1, 2] rfl
    have hDc := hD.sub (ws' := [(h0_trueState, ce_Ma h0_trueState_cells h0_trueState_tree u.2.1), (h0_trueState_cells, .inl (c0_trueState_cells, 8, .inl u.2.2))]) [1, 2] (by decide) rfl
    have hKc := hK.sub (tys' := [(c0_trueState_cells, .int)]) [0] rfl
    have hFc := va_free (wc := [(h0_trueState, ce_Ma h0_trueState_cells h0_trueState_tree u.2.1), (h0_trueState_cells, .inl (c0_trueState_cells, 8, .inl u.2.2))]) hD hS hA [1, 2] rfl
    refine va_calll (va_runV (As := [.long ((k1.toInt64) - 6)]) (rest := []) ⟨hx, hb, hml, hown, hq⟩ (mt_Ma_cellOrZero l dC dI h0_trueState h0_trueState_cells h0_trueState_tree c0_trueState_cells s.heap.size _ (u.2.1, u.2.2) ((k1.toInt64) - 6) hw) ⟨cq_B 1 hq wt_418 wt_415 wt_4 rfl rfl hd_Ma_cellOrZero ⟨Nat.le_of_ble_eq_true rfl, Nat.le_of_ble_eq_true rfl⟩, (hq _ wt_416), (hq _ wt_417)⟩ ⟨kp_bl, va_recv hKc hPc (ci := 4) (q0 := 0) rfl rfl, kp_at hPc hKc hDc hZ⟩ rfl rfl hl.1 rfl (lv_room (Nat.le_of_ble_eq_true rfl)) dSc_state_103 ⟨(by decide), (by decide)⟩) hS (fun q _ h => hFc q h) hFc (fun r5 u6 t H1 locs ht hvm hw hB hz1 hk1 hS => ?_)
    obtain ⟨hP1, hK1, hD1⟩ := hB
    rw [ht] at hP1
    have hK1 := va_K.moved hvm.symm hK1
    obtain ⟨hP, hD⟩ := va_join (wr := [(h0, ce_Sc h0_balances h0_code h0_inbox h0_trueState h0_scratch h0_payments h0_proof h0_assertion h0_games u.1)]) (w1 := [(h0_trueState, ce_Ma h0_trueState_cells h0_trueState_tree u6.1), (h0_trueState_cells, .inl (c0_trueState_cells, 8, .inl u6.2))]) hP hD [1, 2] [0] rfl rfl (by decide) (by decide) hk1 hFc hP1 hD1
    have hK := (hK.sub (tys' := []) [] rfl).app hK1
    generalize H1 = H at hP hS ⊢
    have hP : va_P (dC, dI) vwCl [(h0, ce_Sc h0_balances h0_code h0_inbox h0_trueState h0_scratch h0_payments h0_proof h0_assertion h0_games u.1), (h0_trueState, ce_Ma h0_trueState_cells h0_trueState_tree u6.1), (h0_trueState_cells, .inl (c0_trueState_cells, 8, .inl u6.2))] H := hP
    have hD : va_D A [(h0, ce_Sc h0_balances h0_code h0_inbox h0_trueState h0_scratch h0_payments h0_proof h0_assertion h0_games u.1), (h0_trueState, ce_Ma h0_trueState_cells h0_trueState_tree u6.1), (h0_trueState_cells, .inl (c0_trueState_cells, 8, .inl u6.2))] := hD
    have hK : va_K (dC, dI) vwCl [(c0_trueState_cells, .int)] s := hK
    have hP9 := hP.sub (ws' := [(h0, ce_Sc h0_balances h0_code h0_inbox h0_trueState h0_scratch h0_payments h0_proof h0_assertion h0_games u.1), (h0_trueState, ce_Ma h0_trueState_cells h0_trueState_tree u6.1), (h0_trueState_cells, .inl (c0_trueState_cells, 8, .inl u6.2))]) [0, 1, 2] rfl
    have hD9 := hD.sub (ws' := [(h0, ce_Sc h0_balances h0_code h0_inbox h0_trueState h0_scratch h0_payments h0_proof h0_assertion h0_games u.1), (h0_trueState, ce_Ma h0_trueState_cells h0_trueState_tree u6.1), (h0_trueState_cells, .inl (c0_trueState_cells, 8, .inl u6.2))]) [0, 1, 2] (by decide) rfl
    have hK9 := hK.sub (tys' := [(c0_trueState_cells, .int)]) [0] rfl
    exact W.lret (v := r5) hx hb hr (fun t ht hW => ⟨⟨r5, (u.1, u6.1, u6.2), rfl, hw, by rw [ht]; exact hP9, va_K.moved hW.alike hK9, hD9⟩, hS.F ht⟩) hS.2.2 dSc_state_106
  have hw := hw.2 cc2
  by_cases cc7 : k1 = 0
  · have hw := hw.1 cc7
    refine lv_tableIn (off := 39) (tgt := 40) hx hb dSc_state_1 (by rw [cc7]; decide) (by rw [cc7]; decide) (by rw [cc7]; decide) (by decide) ?_
    refine lv_aload_n hx hb dSc_state_40 rfl (lv_at hl 0 rfl) ?_
    refine va_get (D := (dC, dI)) (ci := 7) (v := .ref h0_trueState) (C := "StepCourt") (T := TSc) (N := 13) hx hb hq inSc hown hK hP 0 rfl rfl 3 (by decide) (hq _ wt_257) (fun _ h9 => h9) rfl dSc_state_41 ?_
    refine va_getN (D := (dC, dI)) (ci := 4) (v := .int u.2.1.1) (C := "StepCourt$Machine") (T := TMa) (N := 8) hx hb hq inMa hown hK hP 1 rfl rfl 2 (by decide) (va_Nw.use rfl (hZ.1 _ zt_71)) (fun _ h9 => h9) rfl dSc_state_44 ?_
    refine lv_i2l (v := u.2.1.1.toInt64) hx hb dSc_state_47 rfl ?_
    have hP9 := hP.sub (ws' := [(h0, ce_Sc h0_balances h0_code h0_inbox h0_trueState h0_scratch h0_payments h0_proof h0_assertion h0_games u.1), (h0_trueState, ce_Ma h0_trueState_cells h0_trueState_tree u.2.1), (h0_trueState_cells, .inl (c0_trueState_cells, 8, .inl u.2.2))]) [0, 1, 2] rfl
    have hD9 := hD.sub (ws' := [(h0, ce_Sc h0_balances h0_code h0_inbox h0_trueState h0_scratch h0_payments h0_proof h0_assertion h0_games u.1), (h0_trueState, ce_Ma h0_trueState_cells h0_trueState_tree u.2.1), (h0_trueState_cells, .inl (c0_trueState_cells, 8, .inl u.2.2))]) [0, 1, 2] (by decide) rfl
    have hK9 := hK.sub (tys' := [(c0_trueState_cells, .int)]) [0] rfl
    exact W.lret (v := u.2.1.1.toInt64) hx hb hr (fun t ht hW => ⟨⟨u.2.1.1.toInt64, (u.1, u.2.1, u.2.2), rfl, hw, by rw [ht]; exact hP9, va_K.moved hW.alike hK9, hD9⟩, hS.F ht⟩) hS.2.2 dSc_state_48
  have hw := hw.2 cc7
  by_cases cc8 : k1 = 1
  · have hw := hw.1 cc8
    refine lv_tableIn (off := 48) (tgt := 49) hx hb dSc_state_1 (by rw [cc8]; decide) (by rw [cc8]; decide) (by rw [cc8]; decide) (by decide) ?_
    refine lv_aload_n hx hb dSc_state_49 rfl (lv_at hl 0 rfl) ?_
    refine va_get (D := (dC, dI)) (ci := 7) (v := .ref h0_trueState) (C := "StepCourt") (T := TSc) (N := 13) hx hb hq inSc hown hK hP 0 rfl rfl 3 (by decide) (hq _ wt_257) (fun _ h9 => h9) rfl dSc_state_50 ?_
    refine va_getN (D := (dC, dI)) (ci := 4) (v := .int u.2.1.2.1) (C := "StepCourt$Machine") (T := TMa) (N := 8) hx hb hq inMa hown hK hP 1 rfl rfl 3 (by decide) (va_Nw.use rfl (hZ.1 _ zt_74)) (fun _ h9 => h9) rfl dSc_state_53 ?_
    refine lv_i2l (v := u.2.1.2.1.toInt64) hx hb dSc_state_56 rfl ?_
    have hP9 := hP.sub (ws' := [(h0, ce_Sc h0_balances h0_code h0_inbox h0_trueState h0_scratch h0_payments h0_proof h0_assertion h0_games u.1), (h0_trueState, ce_Ma h0_trueState_cells h0_trueState_tree u.2.1), (h0_trueState_cells, .inl (c0_trueState_cells, 8, .inl u.2.2))]) [0, 1, 2] rfl
    have hD9 := hD.sub (ws' := [(h0, ce_Sc h0_balances h0_code h0_inbox h0_trueState h0_scratch h0_payments h0_proof h0_assertion h0_games u.1), (h0_trueState, ce_Ma h0_trueState_cells h0_trueState_tree u.2.1), (h0_trueState_cells, .inl (c0_trueState_cells, 8, .inl u.2.2))]) [0, 1, 2] (by decide) rfl
    have hK9 := hK.sub (tys' := [(c0_trueState_cells, .int)]) [0] rfl
    exact W.lret (v := u.2.1.2.1.toInt64) hx hb hr (fun t ht hW => ⟨⟨u.2.1.2.1.toInt64, (u.1, u.2.1, u.2.2), rfl, hw, by rw [ht]; exact hP9, va_K.moved hW.alike hK9, hD9⟩, hS.F ht⟩) hS.2.2 dSc_state_57
  have hw := hw.2 cc8
  by_cases cc9 : k1 = 2
  · have hw := hw.1 cc9
    refine lv_tableIn (off := 57) (tgt := 58) hx hb dSc_state_1 (by rw [cc9]; decide) (by rw [cc9]; decide) (by rw [cc9]; decide) (by decide) ?_
    refine lv_aload_n hx hb dSc_state_58 rfl (lv_at hl 0 rfl) ?_
    refine va_get (D := (dC, dI)) (ci := 7) (v := .ref h0_trueState) (C := "StepCourt") (T := TSc) (N := 13) hx hb hq inSc hown hK hP 0 rfl rfl 3 (by decide) (hq _ wt_257) (fun _ h9 => h9) rfl dSc_state_59 ?_
    refine va_getN (D := (dC, dI)) (ci := 4) (v := .int u.2.1.2.2.1) (C := "StepCourt$Machine") (T := TMa) (N := 8) hx hb hq inMa hown hK hP 1 rfl rfl 4 (by decide) (va_Nw.use rfl (hZ.1 _ zt_77)) (fun _ h9 => h9) rfl dSc_state_62 ?_
    refine lv_i2l (v := u.2.1.2.2.1.toInt64) hx hb dSc_state_65 rfl ?_
    have hP9 := hP.sub (ws' := [(h0, ce_Sc h0_balances h0_code h0_inbox h0_trueState h0_scratch h0_payments h0_proof h0_assertion h0_games u.1), (h0_trueState, ce_Ma h0_trueState_cells h0_trueState_tree u.2.1), (h0_trueState_cells, .inl (c0_trueState_cells, 8, .inl u.2.2))]) [0, 1, 2] rfl
    have hD9 := hD.sub (ws' := [(h0, ce_Sc h0_balances h0_code h0_inbox h0_trueState h0_scratch h0_payments h0_proof h0_assertion h0_games u.1), (h0_trueState, ce_Ma h0_trueState_cells h0_trueState_tree u.2.1), (h0_trueState_cells, .inl (c0_trueState_cells, 8, .inl u.2.2))]) [0, 1, 2] (by decide) rfl
    have hK9 := hK.sub (tys' := [(c0_trueState_cells, .int)]) [0] rfl
    exact W.lret (v := u.2.1.2.2.1.toInt64) hx hb hr (fun t ht hW => ⟨⟨u.2.1.2.2.1.toInt64, (u.1, u.2.1, u.2.2), rfl, hw, by rw [ht]; exact hP9, va_K.moved hW.alike hK9, hD9⟩, hS.F ht⟩) hS.2.2 dSc_state_66
  have hw := hw.2 cc9
  by_cases cc10 : k1 = 3
  · have hw := hw.1 cc10
    refine lv_tableIn (off := 66) (tgt := 67) hx hb dSc_state_1 (by rw [cc10]; decide) (by rw [cc10]; decide) (by rw [cc10]; decide) (by decide) ?_
    refine lv_aload_n hx hb dSc_state_67 rfl (lv_at hl 0 rfl) ?_
    refine va_get (D := (dC, dI)) (ci := 7) (v := .ref h0_trueState) (C := "StepCourt") (T := TSc) (N := 13) hx hb hq inSc hown hK hP 0 rfl rfl 3 (by decide) (hq _ wt_257) (fun _ h9 => h9) rfl dSc_state_68 ?_
    refine va_getN (D := (dC, dI)) (ci := 4) (v := .int u.2.1.2.2.2.1) (C := "StepCourt$Machine") (T := TMa) (N := 8) hx hb hq inMa hown hK hP 1 rfl rfl 5 (by decide) (va_Nw.use rfl (hZ.1 _ zt_80)) (fun _ h9 => h9) rfl dSc_state_71 ?_
    refine lv_i2l (v := u.2.1.2.2.2.1.toInt64) hx hb dSc_state_74 rfl ?_
    have hP9 := hP.sub (ws' := [(h0, ce_Sc h0_balances h0_code h0_inbox h0_trueState h0_scratch h0_payments h0_proof h0_assertion h0_games u.1), (h0_trueState, ce_Ma h0_trueState_cells h0_trueState_tree u.2.1), (h0_trueState_cells, .inl (c0_trueState_cells, 8, .inl u.2.2))]) [0, 1, 2] rfl
    have hD9 := hD.sub (ws' := [(h0, ce_Sc h0_balances h0_code h0_inbox h0_trueState h0_scratch h0_payments h0_proof h0_assertion h0_games u.1), (h0_trueState, ce_Ma h0_trueState_cells h0_trueState_tree u.2.1), (h0_trueState_cells, .inl (c0_trueState_cells, 8, .inl u.2.2))]) [0, 1, 2] (by decide) rfl
    have hK9 := hK.sub (tys' := [(c0_trueState_cells, .int)]) [0] rfl
    exact W.lret (v := u.2.1.2.2.2.1.toInt64) hx hb hr (fun t ht hW => ⟨⟨u.2.1.2.2.2.1.toInt64, (u.1, u.2.1, u.2.2), rfl, hw, by rw [ht]; exact hP9, va_K.moved hW.alike hK9, hD9⟩, hS.F ht⟩) hS.2.2 dSc_state_75
  have hw := hw.2 cc10
  by_cases cc11 : k1 = 4
  · have hw := hw.1 cc11
    refine lv_tableIn (off := 75) (tgt := 76) hx hb dSc_state_1 (by rw [cc11]; decide) (by rw [cc11]; decide) (by rw [cc11]; decide) (by decide) ?_
    refine lv_aload_n hx hb dSc_state_76 rfl (lv_at hl 0 rfl) ?_
    refine va_get (D := (dC, dI)) (ci := 7) (v := .ref h0_trueState) (C := "StepCourt") (T := TSc) (N := 13) hx hb hq inSc hown hK hP 0 rfl rfl 3 (by decide) (hq _ wt_257) (fun _ h9 => h9) rfl dSc_state_77 ?_
    refine va_getN (D := (dC, dI)) (ci := 4) (v := .int u.2.1.2.2.2.2.1) (C := "StepCourt$Machine") (T := TMa) (N := 8) hx hb hq inMa hown hK hP 1 rfl rfl 6 (by decide) (va_Nw.use rfl (hZ.1 _ zt_83)) (fun _ h9 => h9) rfl dSc_state_80 ?_
    refine lv_i2l (v := u.2.1.2.2.2.2.1.toInt64) hx hb dSc_state_83 rfl ?_
    have hP9 := hP.sub (ws' := [(h0, ce_Sc h0_balances h0_code h0_inbox h0_trueState h0_scratch h0_payments h0_proof h0_assertion h0_games u.1), (h0_trueState, ce_Ma h0_trueState_cells h0_trueState_tree u.2.1), (h0_trueState_cells, .inl (c0_trueState_cells, 8, .inl u.2.2))]) [0, 1, 2] rfl
    have hD9 := hD.sub (ws' := [(h0, ce_Sc h0_balances h0_code h0_inbox h0_trueState h0_scratch h0_payments h0_proof h0_assertion h0_games u.1), (h0_trueState, ce_Ma h0_trueState_cells h0_trueState_tree u.2.1), (h0_trueState_cells, .inl (c0_trueState_cells, 8, .inl u.2.2))]) [0, 1, 2] (by decide) rfl
    have hK9 := hK.sub (tys' := [(c0_trueState_cells, .int)]) [0] rfl
    exact W.lret (v := u.2.1.2.2.2.2.1.toInt64) hx hb hr (fun t ht hW => ⟨⟨u.2.1.2.2.2.2.1.toInt64, (u.1, u.2.1, u.2.2), rfl, hw, by rw [ht]; exact hP9, va_K.moved hW.alike hK9, hD9⟩, hS.F ht⟩) hS.2.2 dSc_state_84
  have hw := hw.2 cc11
  by_cases cc12 : k1 = 5
  · have hw := hw.1 cc12
    refine lv_tableIn (off := 84) (tgt := 85) hx hb dSc_state_1 (by rw [cc12]; decide) (by rw [cc12]; decide) (by rw [cc12]; decide) (by decide) ?_
    refine lv_aload_n hx hb dSc_state_85 rfl (lv_at hl 0 rfl) ?_
    refine va_get (D := (dC, dI)) (ci := 7) (v := .ref h0_trueState) (C := "StepCourt") (T := TSc) (N := 13) hx hb hq inSc hown hK hP 0 rfl rfl 3 (by decide) (hq _ wt_257) (fun _ h9 => h9) rfl dSc_state_86 ?_
    refine va_getN (D := (dC, dI)) (ci := 4) (v := .long u.2.1.2.2.2.2.2) (C := "StepCourt$Machine") (T := TMa) (N := 8) hx hb hq inMa hown hK hP 1 rfl rfl 7 (by decide) (va_Nw.use rfl (hZ.1 _ zt_86)) (fun _ h9 => h9) rfl dSc_state_89 ?_
    have hP9 := hP.sub (ws' := [(h0, ce_Sc h0_balances h0_code h0_inbox h0_trueState h0_scratch h0_payments h0_proof h0_assertion h0_games u.1), (h0_trueState, ce_Ma h0_trueState_cells h0_trueState_tree u.2.1), (h0_trueState_cells, .inl (c0_trueState_cells, 8, .inl u.2.2))]) [0, 1, 2] rfl
    have hD9 := hD.sub (ws' := [(h0, ce_Sc h0_balances h0_code h0_inbox h0_trueState h0_scratch h0_payments h0_proof h0_assertion h0_games u.1), (h0_trueState, ce_Ma h0_trueState_cells h0_trueState_tree u.2.1), (h0_trueState_cells, .inl (c0_trueState_cells, 8, .inl u.2.2))]) [0, 1, 2] (by decide) rfl
    have hK9 := hK.sub (tys' := [(c0_trueState_cells, .int)]) [0] rfl
    exact W.lret (v := u.2.1.2.2.2.2.2) hx hb hr (fun t ht hW => ⟨⟨u.2.1.2.2.2.2.2, (u.1, u.2.1, u.2.2), rfl, hw, by rw [ht]; exact hP9, va_K.moved hW.alike hK9, hD9⟩, hS.F ht⟩) hS.2.2 dSc_state_92
  have hw := hw.2 cc12
  exfalso
  have q1 : ¬ k1.toInt < 0 := fun q => cc1 (Int32.lt_iff_toInt_lt.mpr (by rw [show (0 : Int32).toInt = 0 by decide]; exact q))
  have q2 : ¬ 5 < k1.toInt := fun q => cc2 (Int32.lt_iff_toInt_lt.mpr (by rw [show (5 : Int32).toInt = 5 by decide]; exact q))
  have qcc7 := lv_neT cc7 (show (0 : Int32).toInt = 0 by decide)
  have qcc8 := lv_neT cc8 (show (1 : Int32).toInt = 1 by decide)
  have qcc9 := lv_neT cc9 (show (2 : Int32).toInt = 2 by decide)
  have qcc10 := lv_neT cc10 (show (3 : Int32).toInt = 3 by decide)
  have qcc11 := lv_neT cc11 (show (4 : Int32).toInt = 4 by decide)
  have qcc12 := lv_neT cc12 (show (5 : Int32).toInt = 5 by decide)
  omega
abbrev ww_Sc_assertion (h0 h0_assertion h0_games h0_games_0 h0_games_1 h0_games_2 h0_balances h0_code h0_inbox h0_trueState h0_scratch h0_payments h0_proof : Nat) (c0_games : ClassId) (u : ct_Sc × ct_As × ct_Ga × ct_Ga × ct_Ga) : va_W := [(h0, ce_Sc h0_balances h0_code h0_inbox h0_trueState h0_scratch h0_payments h0_proof h0_assertion h0_games u.1), (h0_assertion, ce_As u.2.1), (h0_games, .inl (c0_games, 3, .inr (.inr (.inr (.inr (va_up (va_up (va_up (fun _ => none) 0 (some h0_games_0)) 1 (some h0_games_1)) 2 (some h0_games_2))))))), (h0_games_0, ce_Ga u.2.2.1), (h0_games_1, ce_Ga u.2.2.2.1), (h0_games_2, ce_Ga u.2.2.2.2)]
def wp_Sc_assertion (post : Int64 → (ct_Sc × ct_As × ct_Ga × ct_Ga × ct_Ga) → Prop) (u : ct_Sc × ct_As × ct_Ga × ct_Ga × ct_Ga) (k1 : Int32) : Prop := ((u.2.1.1 = 0 → (post (-1) (u.1, u.2.1, u.2.2.1, u.2.2.2.1, u.2.2.2.2))) ∧ (¬ u.2.1.1 = 0 → (((k1 < 0 → (post (-1) (u.1, u.2.1, u.2.2.1, u.2.2.2.1, u.2.2.2.2))) ∧ (¬ k1 < 0 → (((6 < k1 → (post (-1) (u.1, u.2.1, u.2.2.1, u.2.2.2.1, u.2.2.2.2))) ∧ (¬ 6 < k1 → (((k1 = 0 → (post (u.2.1.2.2.1.toInt64) (u.1, u.2.1, u.2.2.1, u.2.2.2.1, u.2.2.2.2))) ∧ (¬ k1 = 0 → (((k1 = 1 → (post (u.2.1.2.2.2.1.toInt64) (u.1, u.2.1, u.2.2.1, u.2.2.2.1, u.2.2.2.2))) ∧ (¬ k1 = 1 → (((k1 = 2 → (post (u.2.1.2.2.2.2.1.toInt64) (u.1, u.2.1, u.2.2.1, u.2.2.2.1, u.2.2.2.2))) ∧ (¬ k1 = 2 → (((k1 = 3 → (post (u.2.1.2.2.2.2.2.1.toInt64) (u.1, u.2.1, u.2.2.1, u.2.2.2.1, u.2.2.2.2))) ∧ (¬ k1 = 3 → (((k1 = 4 → (post u.2.1.2.2.2.2.2.2 (u.1, u.2.1, u.2.2.1, u.2.2.2.1, u.2.2.2.2))) ∧ (¬ k1 = 4 → (((k1 = 5 → (post (u.1.1.toInt64) (u.1, u.2.1, u.2.2.1, u.2.2.2.1, u.2.2.2.2))) ∧ (¬ k1 = 5 → (((k1 = 6 → (wp_Sc_countRunning (fun r11 u12 => (post (r11.toInt64) (u12.1, u.2.1, u12.2.1, u12.2.2.1, u12.2.2.2))) (u.1, u.2.2.1, u.2.2.2.1, u.2.2.2.2) )) ∧ (¬ k1 = 6 → (True))))))))))))))))))))))))))))))
set_option maxHeartbeats 4000000 in
set_option maxRecDepth 100000 in
theorem mt_Sc_assertion (l : Launch) (dC : Nat → ClassId) (dI : Nat → Nat → Nat) (h0 h0_assertion h0_games h0_games_0 h0_games_1 h0_games_2 h0_balances h0_code h0_inbox h0_trueState h0_scratch h0_payments h0_proof : Nat) (c0_games : ClassId) (sz : Nat) (post : Int64 → (ct_Sc × ct_As × ct_Ga × ct_Ga × ct_Ga) → Prop) (u : ct_Sc × ct_As × ct_Ga × ct_Ga × ct_Ga) (k1 : Int32) (hw : wp_Sc_assertion post u k1) : Met l ySc_assertion wsSc_assertion ({ frames := 1, cells := 0, slots := 0, locals := 22 }) (kp_P dC dI [.ref h0, .int k1] sz (ww_Sc_assertion h0 h0_assertion h0_games h0_games_0 h0_games_1 h0_games_2 h0_balances h0_code h0_inbox h0_trueState h0_scratch h0_payments h0_proof c0_games u) [(c0_games, (.object "StepCourt$Game"))]) (va_Ql post (fun u9 => kp_B dC dI (va_A (ww_Sc_assertion h0 h0_assertion h0_games h0_games_0 h0_games_1 h0_games_2 h0_balances h0_code h0_inbox h0_trueState h0_scratch h0_payments h0_proof c0_games u) sz) (ww_Sc_assertion h0 h0_assertion h0_games h0_games_0 h0_games_1 h0_games_2 h0_balances h0_code h0_inbox h0_trueState h0_scratch h0_payments h0_proof c0_games u9) [(c0_games, (.object "StepCourt$Game"))]) (va_A (ww_Sc_assertion h0 h0_assertion h0_games h0_games_0 h0_games_1 h0_games_2 h0_balances h0_code h0_inbox h0_trueState h0_scratch h0_payments h0_proof c0_games u) sz)) 0 0 (va_A (ww_Sc_assertion h0 h0_assertion h0_games h0_games_0 h0_games_1 h0_games_2 h0_balances h0_code h0_inbox h0_trueState h0_scratch h0_payments h0_proof c0_games u) sz) := by
  refine Met.ofW (cc := cSc_assertion) (maxL := 2) (ret := (some .long)) (by decide) rfl ?_
  intro p e s m args below meth c s₁ B hml hv
  obtain ⟨rfl, hsz, hP, hK, hD0, hZ⟩ := hv
  have hx := B.exec
  have hb := B.bytes
  have hr := B.returns
  have hq : ∀ w ∈ wz, w.before _ s = true := fun w h => atoms_spec (ws := wsSc_assertion) B.pre w (List.mem_cons_of_mem _ h)
  have hown : s.vm.findClass "StepCourt" = some m.cls := findClass_of_methodNamed B.named
  have hlocks := B.notSynchronized
  subst hsz
  have hD := hD0.self (sz := s.heap.size)
  generalize hAe : va_A (ww_Sc_assertion h0 h0_assertion h0_games h0_games_0 h0_games_1 h0_games_2 h0_balances h0_code h0_inbox h0_trueState h0_scratch h0_payments h0_proof c0_games u) s.heap.size = A at hD ⊢
  have hA : ∀ q : Nat, s.heap.size ≤ q → A q := fun q h => by rw [← hAe]; exact Or.inr h
  have hS : va_S A s.heap s.heap [] := va_S.rf
  have hP : va_P (dC, dI) vwCl [(h0, ce_Sc h0_balances h0_code h0_inbox h0_trueState h0_scratch h0_payments h0_proof h0_assertion h0_games u.1), (h0_assertion, ce_As u.2.1), (h0_games, .inl (c0_games, 3, .inr (.inr (.inr (.inr (va_up (va_up (va_up (fun _ => none) 0 (some h0_games_0)) 1 (some h0_games_1)) 2 (some h0_games_2))))))), (h0_games_0, ce_Ga u.2.2.1), (h0_games_1, ce_Ga u.2.2.2.1), (h0_games_2, ce_Ga u.2.2.2.2)] s.heap := hP
  have hD : va_D A [(h0, ce_Sc h0_balances h0_code h0_inbox h0_trueState h0_scratch h0_payments h0_proof h0_assertion h0_games u.1), (h0_assertion, ce_As u.2.1), (h0_games, .inl (c0_games, 3, .inr (.inr (.inr (.inr (va_up (va_up (va_up (fun _ => none) 0 (some h0_games_0)) 1 (some h0_games_1)) 2 (some h0_games_2))))))), (h0_games_0, ce_Ga u.2.2.1), (h0_games_1, ce_Ga u.2.2.2.1), (h0_games_2, ce_Ga u.2.2.2.2)] := hD
  have hl := lv_entry ([.ref h0, .int k1]) (n := 2) (Nat.le_of_ble_eq_true rfl)
  rw [lg_entry_eq]
  generalize (lg_sl ([.ref h0, .int k1]) ++ List.replicate (2 - (lg_sl ([.ref h0, .int k1])).length) Slot.unset).toArray = ls at hl ⊢
  have hl : lv_has ls 2 [(0, .ref h0), (1, .int k1)] := hl
  skip
  refine lv_aload_n hx hb dSc_assertion_0 rfl (lv_at hl 0 rfl) ?_
  refine va_get (D := (dC, dI)) (ci := 7) (v := .ref h0_assertion) (C := "StepCourt") (T := TSc) (N := 13) hx hb hq inSc hown hK hP 0 rfl rfl 7 (by decide) (hq _ wt_261) (fun _ h9 => h9) rfl dSc_assertion_1 ?_
  refine va_getN (D := (dC, dI)) (ci := 0) (v := .int u.2.1.1) (C := "StepCourt$Assertion") (T := TAs) (N := 7) hx hb hq inAs hown hK hP 1 rfl rfl 0 (by decide) (va_Nw.use rfl (hZ.1 _ zt_158)) (fun _ h9 => h9) rfl dSc_assertion_4 ?_
  refine lv_if_ne (tgt := 14) hx hb dSc_assertion_7 (by decide) (fun cc1 => ?_) (fun cc1 => ?_)
  · have hw := hw.2 cc1
    refine lv_iload_n hx hb dSc_assertion_14 rfl (lv_at hl 1 rfl) ?_
    by_cases cc2 : k1 < 0
    · have hw := hw.1 cc2
      refine lv_tableOut (tgt := 112) hx hb dSc_assertion_15 (Or.inl (by have q := Int32.lt_iff_toInt_lt.mp cc2; rw [show (0 : Int32).toInt = 0 by decide] at q; exact q)) (by decide) ?_
      refine lv_ldc2 (v := (-1)) hx hb hown (hq _ wt_424) dSc_assertion_112 ?_
      have hP9 := hP.sub (ws' := [(h0, ce_Sc h0_balances h0_code h0_inbox h0_trueState h0_scratch h0_payments h0_proof h0_assertion h0_games u.1), (h0_assertion, ce_As u.2.1), (h0_games, .inl (c0_games, 3, .inr (.inr (.inr (.inr (va_up (va_up (va_up (fun _ => none) 0 (some h0_games_0)) 1 (some h0_games_1)) 2 (some h0_games_2))))))), (h0_games_0, ce_Ga u.2.2.1), (h0_games_1, ce_Ga u.2.2.2.1), (h0_games_2, ce_Ga u.2.2.2.2)]) [0, 1, 2, 3, 4, 5] rfl
      have hD9 := hD.sub (ws' := [(h0, ce_Sc h0_balances h0_code h0_inbox h0_trueState h0_scratch h0_payments h0_proof h0_assertion h0_games u.1), (h0_assertion, ce_As u.2.1), (h0_games, .inl (c0_games, 3, .inr (.inr (.inr (.inr (va_up (va_up (va_up (fun _ => none) 0 (some h0_games_0)) 1 (some h0_games_1)) 2 (some h0_games_2))))))), (h0_games_0, ce_Ga u.2.2.1), (h0_games_1, ce_Ga u.2.2.2.1), (h0_games_2, ce_Ga u.2.2.2.2)]) [0, 1, 2, 3, 4, 5] (by decide) rfl
      have hK9 := hK.sub (tys' := [(c0_games, (.object "StepCourt$Game"))]) [0] rfl
      exact W.lret (v := (-1)) hx hb hr (fun t ht hW => ⟨⟨(-1), (u.1, u.2.1, u.2.2.1, u.2.2.2.1, u.2.2.2.2), rfl, hw, by rw [ht]; exact hP9, va_K.moved hW.alike hK9, hD9⟩, hS.F ht⟩) hS.2.2 dSc_assertion_115
    have hw := hw.2 cc2
    by_cases cc3 : 6 < k1
    · have hw := hw.1 cc3
      refine lv_tableOut (tgt := 112) hx hb dSc_assertion_15 (Or.inr (by have q := Int32.lt_iff_toInt_lt.mp cc3; rw [show (6 : Int32).toInt = 6 by decide] at q; exact q)) (by decide) ?_
      refine lv_ldc2 (v := (-1)) hx hb hown (hq _ wt_424) dSc_assertion_112 ?_
      have hP9 := hP.sub (ws' := [(h0, ce_Sc h0_balances h0_code h0_inbox h0_trueState h0_scratch h0_payments h0_proof h0_assertion h0_games u.1), (h0_assertion, ce_As u.2.1), (h0_games, .inl (c0_games, 3, .inr (.inr (.inr (.inr (va_up (va_up (va_up (fun _ => none) 0 (some h0_games_0)) 1 (some h0_games_1)) 2 (some h0_games_2))))))), (h0_games_0, ce_Ga u.2.2.1), (h0_games_1, ce_Ga u.2.2.2.1), (h0_games_2, ce_Ga u.2.2.2.2)]) [0, 1, 2, 3, 4, 5] rfl
      have hD9 := hD.sub (ws' := [(h0, ce_Sc h0_balances h0_code h0_inbox h0_trueState h0_scratch h0_payments h0_proof h0_assertion h0_games u.1), (h0_assertion, ce_As u.2.1), (h0_games, .inl (c0_games, 3, .inr (.inr (.inr (.inr (va_up (va_up (va_up (fun _ => none) 0 (some h0_games_0)) 1 (some h0_games_1)) 2 (some h0_games_2))))))), (h0_games_0, ce_Ga u.2.2.1), (h0_games_1, ce_Ga u.2.2.2.1), (h0_games_2, ce_Ga u.2.2.2.2)]) [0, 1, 2, 3, 4, 5] (by decide) rfl
      have hK9 := hK.sub (tys' := [(c0_games, (.object "StepCourt$Game"))]) [0] rfl
      exact W.lret (v := (-1)) hx hb hr (fun t ht hW => ⟨⟨(-1), (u.1, u.2.1, u.2.2.1, u.2.2.2.1, u.2.2.2.2), rfl, hw, by rw [ht]; exact hP9, va_K.moved hW.alike hK9, hD9⟩, hS.F ht⟩) hS.2.2 dSc_assertion_115
    have hw := hw.2 cc3
    by_cases cc4 : k1 = 0
    · have hw := hw.1 cc4
      refine lv_tableIn (off := 41) (tgt := 56) hx hb dSc_assertion_15 (by rw [cc4]; decide) (by rw [cc4]; decide) (by rw [cc4]; decide) (by decide) ?_
      refine lv_aload_n hx hb dSc_assertion_56 rfl (lv_at hl 0 rfl) ?_
      refine va_get (D := (dC, dI)) (ci := 7) (v := .ref h0_assertion) (C := "StepCourt") (T := TSc) (N := 13) hx hb hq inSc hown hK hP 0 rfl rfl 7 (by decide) (hq _ wt_261) (fun _ h9 => h9) rfl dSc_assertion_57 ?_
      refine va_getN (D := (dC, dI)) (ci := 0) (v := .int u.2.1.2.2.1) (C := "StepCourt$Assertion") (T := TAs) (N := 7) hx hb hq inAs hown hK hP 1 rfl rfl 2 (by decide) (va_Nw.use rfl (hZ.1 _ zt_162)) (fun _ h9 => h9) rfl dSc_assertion_60 ?_
      refine lv_i2l (v := u.2.1.2.2.1.toInt64) hx hb dSc_assertion_63 rfl ?_
      have hP9 := hP.sub (ws' := [(h0, ce_Sc h0_balances h0_code h0_inbox h0_trueState h0_scratch h0_payments h0_proof h0_assertion h0_games u.1), (h0_assertion, ce_As u.2.1), (h0_games, .inl (c0_games, 3, .inr (.inr (.inr (.inr (va_up (va_up (va_up (fun _ => none) 0 (some h0_games_0)) 1 (some h0_games_1)) 2 (some h0_games_2))))))), (h0_games_0, ce_Ga u.2.2.1), (h0_games_1, ce_Ga u.2.2.2.1), (h0_games_2, ce_Ga u.2.2.2.2)]) [0, 1, 2, 3, 4, 5] rfl
      have hD9 := hD.sub (ws' := [(h0, ce_Sc h0_balances h0_code h0_inbox h0_trueState h0_scratch h0_payments h0_proof h0_assertion h0_games u.1), (h0_assertion, ce_As u.2.1), (h0_games, .inl (c0_games, 3, .inr (.inr (.inr (.inr (va_up (va_up (va_up (fun _ => none) 0 (some h0_games_0)) 1 (some h0_games_1)) 2 (some h0_games_2))))))), (h0_games_0, ce_Ga u.2.2.1), (h0_games_1, ce_Ga u.2.2.2.1), (h0_games_2, ce_Ga u.2.2.2.2)]) [0, 1, 2, 3, 4, 5] (by decide) rfl
      have hK9 := hK.sub (tys' := [(c0_games, (.object "StepCourt$Game"))]) [0] rfl
      exact W.lret (v := u.2.1.2.2.1.toInt64) hx hb hr (fun t ht hW => ⟨⟨u.2.1.2.2.1.toInt64, (u.1, u.2.1, u.2.2.1, u.2.2.2.1, u.2.2.2.2), rfl, hw, by rw [ht]; exact hP9, va_K.moved hW.alike hK9, hD9⟩, hS.F ht⟩) hS.2.2 dSc_assertion_64
    have hw := hw.2 cc4
    by_cases cc5 : k1 = 1
    · have hw := hw.1 cc5
      refine lv_tableIn (off := 50) (tgt := 65) hx hb dSc_assertion_15 (by rw [cc5]; decide) (by rw [cc5]; decide) (by rw [cc5]; decide) (by decide) ?_
      refine lv_aload_n hx hb dSc_assertion_65 rfl (lv_at hl 0 rfl) ?_
      refine va_get (D := (dC, dI)) (ci := 7) (v := .ref h0_assertion) (C := "StepCourt") (T := TSc) (N := 13) hx hb hq inSc hown hK hP 0 rfl rfl 7 (by decide) (hq _ wt_261) (fun _ h9 => h9) rfl dSc_assertion_66 ?_
      refine va_getN (D := (dC, dI)) (ci := 0) (v := .int u.2.1.2.2.2.1) (C := "StepCourt$Assertion") (T := TAs) (N := 7) hx hb hq inAs hown hK hP 1 rfl rfl 3 (by decide) (va_Nw.use rfl (hZ.1 _ zt_164)) (fun _ h9 => h9) rfl dSc_assertion_69 ?_
      refine lv_i2l (v := u.2.1.2.2.2.1.toInt64) hx hb dSc_assertion_72 rfl ?_
      have hP9 := hP.sub (ws' := [(h0, ce_Sc h0_balances h0_code h0_inbox h0_trueState h0_scratch h0_payments h0_proof h0_assertion h0_games u.1), (h0_assertion, ce_As u.2.1), (h0_games, .inl (c0_games, 3, .inr (.inr (.inr (.inr (va_up (va_up (va_up (fun _ => none) 0 (some h0_games_0)) 1 (some h0_games_1)) 2 (some h0_games_2))))))), (h0_games_0, ce_Ga u.2.2.1), (h0_games_1, ce_Ga u.2.2.2.1), (h0_games_2, ce_Ga u.2.2.2.2)]) [0, 1, 2, 3, 4, 5] rfl
      have hD9 := hD.sub (ws' := [(h0, ce_Sc h0_balances h0_code h0_inbox h0_trueState h0_scratch h0_payments h0_proof h0_assertion h0_games u.1), (h0_assertion, ce_As u.2.1), (h0_games, .inl (c0_games, 3, .inr (.inr (.inr (.inr (va_up (va_up (va_up (fun _ => none) 0 (some h0_games_0)) 1 (some h0_games_1)) 2 (some h0_games_2))))))), (h0_games_0, ce_Ga u.2.2.1), (h0_games_1, ce_Ga u.2.2.2.1), (h0_games_2, ce_Ga u.2.2.2.2)]) [0, 1, 2, 3, 4, 5] (by decide) rfl
      have hK9 := hK.sub (tys' := [(c0_games, (.object "StepCourt$Game"))]) [0] rfl
      exact W.lret (v := u.2.1.2.2.2.1.toInt64) hx hb hr (fun t ht hW => ⟨⟨u.2.1.2.2.2.1.toInt64, (u.1, u.2.1, u.2.2.1, u.2.2.2.1, u.2.2.2.2), rfl, hw, by rw [ht]; exact hP9, va_K.moved hW.alike hK9, hD9⟩, hS.F ht⟩) hS.2.2 dSc_assertion_73
    have hw := hw.2 cc5
    by_cases cc6 : k1 = 2
    · have hw := hw.1 cc6
      refine lv_tableIn (off := 59) (tgt := 74) hx hb dSc_assertion_15 (by rw [cc6]; decide) (by rw [cc6]; decide) (by rw [cc6]; decide) (by decide) ?_
      refine lv_aload_n hx hb dSc_assertion_74 rfl (lv_at hl 0 rfl) ?_
      refine va_get (D := (dC, dI)) (ci := 7) (v := .ref h0_assertion) (C := "StepCourt") (T := TSc) (N := 13) hx hb hq inSc hown hK hP 0 rfl rfl 7 (by decide) (hq _ wt_261) (fun _ h9 => h9) rfl dSc_assertion_75 ?_
      refine va_getN (D := (dC, dI)) (ci := 0) (v := .int u.2.1.2.2.2.2.1) (C := "StepCourt$Assertion") (T := TAs) (N := 7) hx hb hq inAs hown hK hP 1 rfl rfl 4 (by decide) (va_Nw.use rfl (hZ.1 _ zt_166)) (fun _ h9 => h9) rfl dSc_assertion_78 ?_
      refine lv_i2l (v := u.2.1.2.2.2.2.1.toInt64) hx hb dSc_assertion_81 rfl ?_
      have hP9 := hP.sub (ws' := [(h0, ce_Sc h0_balances h0_code h0_inbox h0_trueState h0_scratch h0_payments h0_proof h0_assertion h0_games u.1), (h0_assertion, ce_As u.2.1), (h0_games, .inl (c0_games, 3, .inr (.inr (.inr (.inr (va_up (va_up (va_up (fun _ => none) 0 (some h0_games_0)) 1 (some h0_games_1)) 2 (some h0_games_2))))))), (h0_games_0, ce_Ga u.2.2.1), (h0_games_1, ce_Ga u.2.2.2.1), (h0_games_2, ce_Ga u.2.2.2.2)]) [0, 1, 2, 3, 4, 5] rfl
      have hD9 := hD.sub (ws' := [(h0, ce_Sc h0_balances h0_code h0_inbox h0_trueState h0_scratch h0_payments h0_proof h0_assertion h0_games u.1), (h0_assertion, ce_As u.2.1), (h0_games, .inl (c0_games, 3, .inr (.inr (.inr (.inr (va_up (va_up (va_up (fun _ => none) 0 (some h0_games_0)) 1 (some h0_games_1)) 2 (some h0_games_2))))))), (h0_games_0, ce_Ga u.2.2.1), (h0_games_1, ce_Ga u.2.2.2.1), (h0_games_2, ce_Ga u.2.2.2.2)]) [0, 1, 2, 3, 4, 5] (by decide) rfl
      have hK9 := hK.sub (tys' := [(c0_games, (.object "StepCourt$Game"))]) [0] rfl
      exact W.lret (v := u.2.1.2.2.2.2.1.toInt64) hx hb hr (fun t ht hW => ⟨⟨u.2.1.2.2.2.2.1.toInt64, (u.1, u.2.1, u.2.2.1, u.2.2.2.1, u.2.2.2.2), rfl, hw, by rw [ht]; exact hP9, va_K.moved hW.alike hK9, hD9⟩, hS.F ht⟩) hS.2.2 dSc_assertion_82
    have hw := hw.2 cc6
    by_cases cc7 : k1 = 3
    · have hw := hw.1 cc7
      refine lv_tableIn (off := 68) (tgt := 83) hx hb dSc_assertion_15 (by rw [cc7]; decide) (by rw [cc7]; decide) (by rw [cc7]; decide) (by decide) ?_
      refine lv_aload_n hx hb dSc_assertion_83 rfl (lv_at hl 0 rfl) ?_
      refine va_get (D := (dC, dI)) (ci := 7) (v := .ref h0_assertion) (C := "StepCourt") (T := TSc) (N := 13) hx hb hq inSc hown hK hP 0 rfl rfl 7 (by decide) (hq _ wt_261) (fun _ h9 => h9) rfl dSc_assertion_84 ?_
      refine va_getN (D := (dC, dI)) (ci := 0) (v := .int u.2.1.2.2.2.2.2.1) (C := "StepCourt$Assertion") (T := TAs) (N := 7) hx hb hq inAs hown hK hP 1 rfl rfl 5 (by decide) (va_Nw.use rfl (hZ.1 _ zt_168)) (fun _ h9 => h9) rfl dSc_assertion_87 ?_
      refine lv_i2l (v := u.2.1.2.2.2.2.2.1.toInt64) hx hb dSc_assertion_90 rfl ?_
      have hP9 := hP.sub (ws' := [(h0, ce_Sc h0_balances h0_code h0_inbox h0_trueState h0_scratch h0_payments h0_proof h0_assertion h0_games u.1), (h0_assertion, ce_As u.2.1), (h0_games, .inl (c0_games, 3, .inr (.inr (.inr (.inr (va_up (va_up (va_up (fun _ => none) 0 (some h0_games_0)) 1 (some h0_games_1)) 2 (some h0_games_2))))))), (h0_games_0, ce_Ga u.2.2.1), (h0_games_1, ce_Ga u.2.2.2.1), (h0_games_2, ce_Ga u.2.2.2.2)]) [0, 1, 2, 3, 4, 5] rfl
      have hD9 := hD.sub (ws' := [(h0, ce_Sc h0_balances h0_code h0_inbox h0_trueState h0_scratch h0_payments h0_proof h0_assertion h0_games u.1), (h0_assertion, ce_As u.2.1), (h0_games, .inl (c0_games, 3, .inr (.inr (.inr (.inr (va_up (va_up (va_up (fun _ => none) 0 (some h0_games_0)) 1 (some h0_games_1)) 2 (some h0_games_2))))))), (h0_games_0, ce_Ga u.2.2.1), (h0_games_1, ce_Ga u.2.2.2.1), (h0_games_2, ce_Ga u.2.2.2.2)]) [0, 1, 2, 3, 4, 5] (by decide) rfl
      have hK9 := hK.sub (tys' := [(c0_games, (.object "StepCourt$Game"))]) [0] rfl
      exact W.lret (v := u.2.1.2.2.2.2.2.1.toInt64) hx hb hr (fun t ht hW => ⟨⟨u.2.1.2.2.2.2.2.1.toInt64, (u.1, u.2.1, u.2.2.1, u.2.2.2.1, u.2.2.2.2), rfl, hw, by rw [ht]; exact hP9, va_K.moved hW.alike hK9, hD9⟩, hS.F ht⟩) hS.2.2 dSc_assertion_91
    have hw := hw.2 cc7
    by_cases cc8 : k1 = 4
    · have hw := hw.1 cc8
      refine lv_tableIn (off := 77) (tgt := 92) hx hb dSc_assertion_15 (by rw [cc8]; decide) (by rw [cc8]; decide) (by rw [cc8]; decide) (by decide) ?_
      refine lv_aload_n hx hb dSc_assertion_92 rfl (lv_at hl 0 rfl) ?_
      refine va_get (D := (dC, dI)) (ci := 7) (v := .ref h0_assertion) (C := "StepCourt") (T := TSc) (N := 13) hx hb hq inSc hown hK hP 0 rfl rfl 7 (by decide) (hq _ wt_261) (fun _ h9 => h9) rfl dSc_assertion_93 ?_
      refine va_getN (D := (dC, dI)) (ci := 0) (v := .long u.2.1.2.2.2.2.2.2) (C := "StepCourt$Assertion") (T := TAs) (N := 7) hx hb hq inAs hown hK hP 1 rfl rfl 6 (by decide) (va_Nw.use rfl (hZ.1 _ zt_169)) (fun _ h9 => h9) rfl dSc_assertion_96 ?_
      have hP9 := hP.sub (ws' := [(h0, ce_Sc h0_balances h0_code h0_inbox h0_trueState h0_scratch h0_payments h0_proof h0_assertion h0_games u.1), (h0_assertion, ce_As u.2.1), (h0_games, .inl (c0_games, 3, .inr (.inr (.inr (.inr (va_up (va_up (va_up (fun _ => none) 0 (some h0_games_0)) 1 (some h0_games_1)) 2 (some h0_games_2))))))), (h0_games_0, ce_Ga u.2.2.1), (h0_games_1, ce_Ga u.2.2.2.1), (h0_games_2, ce_Ga u.2.2.2.2)]) [0, 1, 2, 3, 4, 5] rfl
      have hD9 := hD.sub (ws' := [(h0, ce_Sc h0_balances h0_code h0_inbox h0_trueState h0_scratch h0_payments h0_proof h0_assertion h0_games u.1), (h0_assertion, ce_As u.2.1), (h0_games, .inl (c0_games, 3, .inr (.inr (.inr (.inr (va_up (va_up (va_up (fun _ => none) 0 (some h0_games_0)) 1 (some h0_games_1)) 2 (some h0_games_2))))))), (h0_games_0, ce_Ga u.2.2.1), (h0_games_1, ce_Ga u.2.2.2.1), (h0_games_2, ce_Ga u.2.2.2.2)]) [0, 1, 2, 3, 4, 5] (by decide) rfl
      have hK9 := hK.sub (tys' := [(c0_games, (.object "StepCourt$Game"))]) [0] rfl
      exact W.lret (v := u.2.1.2.2.2.2.2.2) hx hb hr (fun t ht hW => ⟨⟨u.2.1.2.2.2.2.2.2, (u.1, u.2.1, u.2.2.1, u.2.2.2.1, u.2.2.2.2), rfl, hw, by rw [ht]; exact hP9, va_K.moved hW.alike hK9, hD9⟩, hS.F ht⟩) hS.2.2 dSc_assertion_99
    have hw := hw.2 cc8
    by_cases cc9 : k1 = 5
    · have hw := hw.1 cc9
      refine lv_tableIn (off := 85) (tgt := 100) hx hb dSc_assertion_15 (by rw [cc9]; decide) (by rw [cc9]; decide) (by rw [cc9]; decide) (by decide) ?_
      refine lv_aload_n hx hb dSc_assertion_100 rfl (lv_at hl 0 rfl) ?_
      refine va_get (D := (dC, dI)) (ci := 7) (v := .int u.1.1) (C := "StepCourt") (T := TSc) (N := 13) hx hb hq inSc hown hK hP 0 rfl rfl 9 (by decide) (hq _ wt_263) (fun _ h9 => h9) rfl dSc_assertion_101 ?_
      refine lv_i2l (v := u.1.1.toInt64) hx hb dSc_assertion_104 rfl ?_
      have hP9 := hP.sub (ws' := [(h0, ce_Sc h0_balances h0_code h0_inbox h0_trueState h0_scratch h0_payments h0_proof h0_assertion h0_games u.1), (h0_assertion, ce_As u.2.1), (h0_games, .inl (c0_games, 3, .inr (.inr (.inr (.inr (va_up (va_up (va_up (fun _ => none) 0 (some h0_games_0)) 1 (some h0_games_1)) 2 (some h0_games_2))))))), (h0_games_0, ce_Ga u.2.2.1), (h0_games_1, ce_Ga u.2.2.2.1), (h0_games_2, ce_Ga u.2.2.2.2)]) [0, 1, 2, 3, 4, 5] rfl
      have hD9 := hD.sub (ws' := [(h0, ce_Sc h0_balances h0_code h0_inbox h0_trueState h0_scratch h0_payments h0_proof h0_assertion h0_games u.1), (h0_assertion, ce_As u.2.1), (h0_games, .inl (c0_games, 3, .inr (.inr (.inr (.inr (va_up (va_up (va_up (fun _ => none) 0 (some h0_games_0)) 1 (some h0_games_1)) 2 (some h0_games_2))))))), (h0_games_0, ce_Ga u.2.2.1), (h0_games_1, ce_Ga u.2.2.2.1), (h0_games_2, ce_Ga u.2.2.2.2)]) [0, 1, 2, 3, 4, 5] (by decide) rfl
      have hK9 := hK.sub (tys' := [(c0_games, (.object "StepCourt$Game"))]) [0] rfl
      exact W.lret (v := u.1.1.toInt64) hx hb hr (fun t ht hW => ⟨⟨u.1.1.toInt64, (u.1, u.2.1, u.2.2.1, u.2.2.2.1, u.2.2.2.2), rfl, hw, by rw [ht]; exact hP9, va_K.moved hW.alike hK9, hD9⟩, hS.F ht⟩) hS.2.2 dSc_assertion_105
    have hw := hw.2 cc9
    by_cases cc10 : k1 = 6
    · have hw := hw.1 cc10
      refine lv_tableIn (off := 91) (tgt := 106) hx hb dSc_assertion_15 (by rw [cc10]; decide) (by rw [cc10]; decide) (by rw [cc10]; decide) (by decide) ?_
      refine lv_aload_n hx hb dSc_assertion_106 rfl (lv_at hl 0 rfl) ?_
      have hPc := hP.sub (ws' := [(h0, ce_Sc h0_balances h0_code h0_inbox h0_trueState h0_scratch h0_payments h0_proof h0_assertion h0_games u.1), (h0_games, .inl (c0_games, 3, .inr (.inr (.inr (.inr (va_up (va_up (va_up (fun _ => none) 0 (some h0_games_0)) 1 (some h0_games_1)) 2 (some h0_games_2))))))), (h0_games_0, ce_Ga u.2.2.1), (h0_games_1, ce_Ga u.2.2.2.1), (h0_games_2, ce_Ga u.2.2.2.2)]) [0, 2, 3, 4, 5] rfl
      have hDc := hD.sub (ws' := [(h0, ce_Sc h0_balances h0_code h0_inbox h0_trueState h0_scratch h0_payments h0_proof h0_assertion h0_games u.1), (h0_games, .inl (c0_games, 3, .inr (.inr (.inr (.inr (va_up (va_up (va_up (fun _ => none) 0 (some h0_games_0)) 1 (some h0_games_1)) 2 (some h0_games_2))))))), (h0_games_0, ce_Ga u.2.2.1), (h0_games_1, ce_Ga u.2.2.2.1), (h0_games_2, ce_Ga u.2.2.2.2)]) [0, 2, 3, 4, 5] (by decide) rfl
      have hKc := hK.sub (tys' := [(c0_games, (.object "StepCourt$Game"))]) [0] rfl
      have hFc := va_free (wc := [(h0, ce_Sc h0_balances h0_code h0_inbox h0_trueState h0_scratch h0_payments h0_proof h0_assertion h0_games u.1), (h0_games, .inl (c0_games, 3, .inr (.inr (.inr (.inr (va_up (va_up (va_up (fun _ => none) 0 (some h0_games_0)) 1 (some h0_games_1)) 2 (some h0_games_2))))))), (h0_games_0, ce_Ga u.2.2.1), (h0_games_1, ce_Ga u.2.2.2.1), (h0_games_2, ce_Ga u.2.2.2.2)]) hD hS hA [0, 2, 3, 4, 5] rfl
      refine va_calli (va_runV (As := []) (rest := []) ⟨hx, hb, hml, hown, hq⟩ (mt_Sc_countRunning l dC dI h0 h0_games h0_games_0 h0_games_1 h0_games_2 h0_balances h0_code h0_inbox h0_trueState h0_scratch h0_payments h0_proof h0_assertion c0_games s.heap.size _ (u.1, u.2.2.1, u.2.2.2.1, u.2.2.2.2) hw) ⟨cq_B 0 hq wt_336 wt_333 wt_1 rfl rfl hd_Sc_countRunning ⟨Nat.le_of_ble_eq_true rfl, Nat.le_of_ble_eq_true rfl⟩, (hq _ wt_335), (hq _ wv_6)⟩ ⟨kp_bl, va_recv hKc hPc (ci := 7) (q0 := 0) rfl rfl, kp_at hPc hKc hDc hZ⟩ rfl rfl hl.1 rfl (lv_room (Nat.le_of_ble_eq_true rfl)) dSc_assertion_107 ⟨(by decide), (by decide)⟩) hS (fun q _ h => hFc q h) hFc (fun r11 u12 t H1 locs ht hvm hw hB hz1 hk1 hS => ?_)
      obtain ⟨hP1, hK1, hD1⟩ := hB
      rw [ht] at hP1
      have hK1 := va_K.moved hvm.symm hK1
      obtain ⟨hP, hD⟩ := va_join (wr := [(h0_assertion, ce_As u.2.1)]) (w1 := [(h0, ce_Sc h0_balances h0_code h0_inbox h0_trueState h0_scratch h0_payments h0_proof h0_assertion h0_games u12.1), (h0_games, .inl (c0_games, 3, .inr (.inr (.inr (.inr (va_up (va_up (va_up (fun _ => none) 0 (some h0_games_0)) 1 (some h0_games_1)) 2 (some h0_games_2))))))), (h0_games_0, ce_Ga u12.2.1), (h0_games_1, ce_Ga u12.2.2.1), (h0_games_2, ce_Ga u12.2.2.2)]) hP hD [0, 2, 3, 4, 5] [1] rfl rfl (by decide) (by decide) hk1 hFc hP1 hD1
      have hK := (hK.sub (tys' := []) [] rfl).app hK1
      generalize H1 = H at hP hS ⊢
      have hP : va_P (dC, dI) vwCl [(h0_assertion, ce_As u.2.1), (h0, ce_Sc h0_balances h0_code h0_inbox h0_trueState h0_scratch h0_payments h0_proof h0_assertion h0_games u12.1), (h0_games, .inl (c0_games, 3, .inr (.inr (.inr (.inr (va_up (va_up (va_up (fun _ => none) 0 (some h0_games_0)) 1 (some h0_games_1)) 2 (some h0_games_2))))))), (h0_games_0, ce_Ga u12.2.1), (h0_games_1, ce_Ga u12.2.2.1), (h0_games_2, ce_Ga u12.2.2.2)] H := hP
      have hD : va_D A [(h0_assertion, ce_As u.2.1), (h0, ce_Sc h0_balances h0_code h0_inbox h0_trueState h0_scratch h0_payments h0_proof h0_assertion h0_games u12.1), (h0_games, .inl (c0_games, 3, .inr (.inr (.inr (.inr (va_up (va_up (va_up (fun _ => none) 0 (some h0_games_0)) 1 (some h0_games_1)) 2 (some h0_games_2))))))), (h0_games_0, ce_Ga u12.2.1), (h0_games_1, ce_Ga u12.2.2.1), (h0_games_2, ce_Ga u12.2.2.2)] := hD
      have hK : va_K (dC, dI) vwCl [(c0_games, (.object "StepCourt$Game"))] s := hK
      refine lv_i2l (v := r11.toInt64) hx hb dSc_assertion_110 rfl ?_
      have hP9 := hP.sub (ws' := [(h0, ce_Sc h0_balances h0_code h0_inbox h0_trueState h0_scratch h0_payments h0_proof h0_assertion h0_games u12.1), (h0_assertion, ce_As u.2.1), (h0_games, .inl (c0_games, 3, .inr (.inr (.inr (.inr (va_up (va_up (va_up (fun _ => none) 0 (some h0_games_0)) 1 (some h0_games_1)) 2 (some h0_games_2))))))), (h0_games_0, ce_Ga u12.2.1), (h0_games_1, ce_Ga u12.2.2.1), (h0_games_2, ce_Ga u12.2.2.2)]) [1, 0, 2, 3, 4, 5] rfl
      have hD9 := hD.sub (ws' := [(h0, ce_Sc h0_balances h0_code h0_inbox h0_trueState h0_scratch h0_payments h0_proof h0_assertion h0_games u12.1), (h0_assertion, ce_As u.2.1), (h0_games, .inl (c0_games, 3, .inr (.inr (.inr (.inr (va_up (va_up (va_up (fun _ => none) 0 (some h0_games_0)) 1 (some h0_games_1)) 2 (some h0_games_2))))))), (h0_games_0, ce_Ga u12.2.1), (h0_games_1, ce_Ga u12.2.2.1), (h0_games_2, ce_Ga u12.2.2.2)]) [1, 0, 2, 3, 4, 5] (by decide) rfl
      have hK9 := hK.sub (tys' := [(c0_games, (.object "StepCourt$Game"))]) [0] rfl
      exact W.lret (v := r11.toInt64) hx hb hr (fun t ht hW => ⟨⟨r11.toInt64, (u12.1, u.2.1, u12.2.1, u12.2.2.1, u12.2.2.2), rfl, hw, by rw [ht]; exact hP9, va_K.moved hW.alike hK9, hD9⟩, hS.F ht⟩) hS.2.2 dSc_assertion_111
    have hw := hw.2 cc10
    exfalso
    have q1 : ¬ k1.toInt < 0 := fun q => cc2 (Int32.lt_iff_toInt_lt.mpr (by rw [show (0 : Int32).toInt = 0 by decide]; exact q))
    have q2 : ¬ 6 < k1.toInt := fun q => cc3 (Int32.lt_iff_toInt_lt.mpr (by rw [show (6 : Int32).toInt = 6 by decide]; exact q))
    have qcc4 := lv_neT cc4 (show (0 : Int32).toInt = 0 by decide)
    have qcc5 := lv_neT cc5 (show (1 : Int32).toInt = 1 by decide)
    have qcc6 := lv_neT cc6 (show (2 : Int32).toInt = 2 by decide)
    have qcc7 := lv_neT cc7 (show (3 : Int32).toInt = 3 by decide)
    have qcc8 := lv_neT cc8 (show (4 : Int32).toInt = 4 by decide)
    have qcc9 := lv_neT cc9 (show (5 : Int32).toInt = 5 by decide)
    have qcc10 := lv_neT cc10 (show (6 : Int32).toInt = 6 by decide)
    omega
  · have hw := hw.1 cc1
    refine lv_ldc2 (v := (-1)) hx hb hown (hq _ wt_424) dSc_assertion_10 ?_
    have hP9 := hP.sub (ws' := [(h0, ce_Sc h0_balances h0_code h0_inbox h0_trueState h0_scratch h0_payments h0_proof h0_assertion h0_games u.1), (h0_assertion, ce_As u.2.1), (h0_games, .inl (c0_games, 3, .inr (.inr (.inr (.inr (va_up (va_up (va_up (fun _ => none) 0 (some h0_games_0)) 1 (some h0_games_1)) 2 (some h0_games_2))))))), (h0_games_0, ce_Ga u.2.2.1), (h0_games_1, ce_Ga u.2.2.2.1), (h0_games_2, ce_Ga u.2.2.2.2)]) [0, 1, 2, 3, 4, 5] rfl
    have hD9 := hD.sub (ws' := [(h0, ce_Sc h0_balances h0_code h0_inbox h0_trueState h0_scratch h0_payments h0_proof h0_assertion h0_games u.1), (h0_assertion, ce_As u.2.1), (h0_games, .inl (c0_games, 3, .inr (.inr (.inr (.inr (va_up (va_up (va_up (fun _ => none) 0 (some h0_games_0)) 1 (some h0_games_1)) 2 (some h0_games_2))))))), (h0_games_0, ce_Ga u.2.2.1), (h0_games_1, ce_Ga u.2.2.2.1), (h0_games_2, ce_Ga u.2.2.2.2)]) [0, 1, 2, 3, 4, 5] (by decide) rfl
    have hK9 := hK.sub (tys' := [(c0_games, (.object "StepCourt$Game"))]) [0] rfl
    exact W.lret (v := (-1)) hx hb hr (fun t ht hW => ⟨⟨(-1), (u.1, u.2.1, u.2.2.1, u.2.2.2.1, u.2.2.2.2), rfl, hw, by rw [ht]; exact hP9, va_K.moved hW.alike hK9, hD9⟩, hS.F ht⟩) hS.2.2 dSc_assertion_13
abbrev ww_Sc_game (h0 h0_games h0_games_0 h0_games_1 h0_games_2 h0_balances h0_code h0_inbox h0_trueState h0_scratch h0_payments h0_proof h0_assertion : Nat) (c0_games : ClassId) (u : ct_Sc × ct_Ga × ct_Ga × ct_Ga) : va_W := [(h0, ce_Sc h0_balances h0_code h0_inbox h0_trueState h0_scratch h0_payments h0_proof h0_assertion h0_games u.1), (h0_games, .inl (c0_games, 3, .inr (.inr (.inr (.inr (va_up (va_up (va_up (fun _ => none) 0 (some h0_games_0)) 1 (some h0_games_1)) 2 (some h0_games_2))))))), (h0_games_0, ce_Ga u.2.1), (h0_games_1, ce_Ga u.2.2.1), (h0_games_2, ce_Ga u.2.2.2)]
def wp_Sc_game (post : Int64 → (ct_Sc × ct_Ga × ct_Ga × ct_Ga) → Prop) (u : ct_Sc × ct_Ga × ct_Ga × ct_Ga) (k1 : Int32) (k2 : Int32) : Prop := wp_Sc_isGame (fun r1 u2 => (((r1 = 0 → (post (-1) (u2, u.2.1, u.2.2.1, u.2.2.2))) ∧ (¬ r1 = 0 → (vp_in k1 3 ∧ (((k1.toNatClampNeg = 0 → (((k2 < 0 → (post (-1) (u2, u.2.1, u.2.2.1, u.2.2.2))) ∧ (¬ k2 < 0 → (((7 < k2 → (post (-1) (u2, u.2.1, u.2.2.1, u.2.2.2))) ∧ (¬ 7 < k2 → (((k2 = 0 → (post (u.2.1.1.toInt64) (u2, u.2.1, u.2.2.1, u.2.2.2))) ∧ (¬ k2 = 0 → (((k2 = 1 → (post (u.2.1.2.1.toInt64) (u2, u.2.1, u.2.2.1, u.2.2.2))) ∧ (¬ k2 = 1 → (((k2 = 2 → (post (u.2.1.2.2.1.toInt64) (u2, u.2.1, u.2.2.1, u.2.2.2))) ∧ (¬ k2 = 2 → (((k2 = 3 → (post u.2.1.2.2.2.1 (u2, u.2.1, u.2.2.1, u.2.2.2))) ∧ (¬ k2 = 3 → (((k2 = 4 → (post u.2.1.2.2.2.2.1 (u2, u.2.1, u.2.2.1, u.2.2.2))) ∧ (¬ k2 = 4 → (((k2 = 5 → (post u.2.1.2.2.2.2.2.1 (u2, u.2.1, u.2.2.1, u.2.2.2))) ∧ (¬ k2 = 5 → (((k2 = 6 → (post (u.2.1.2.2.2.2.2.2.2.1.toInt64) (u2, u.2.1, u.2.2.1, u.2.2.2))) ∧ (¬ k2 = 6 → (((k2 = 7 → (wp_Ga_duty (fun r16 u17 => (post (r16.toInt64) (u2, u17, u.2.2.1, u.2.2.2))) u.2.1 )) ∧ (¬ k2 = 7 → (True)))))))))))))))))))))))))))))))) ∧ (k1.toNatClampNeg = 1 → (((k2 < 0 → (post (-1) (u2, u.2.1, u.2.2.1, u.2.2.2))) ∧ (¬ k2 < 0 → (((7 < k2 → (post (-1) (u2, u.2.1, u.2.2.1, u.2.2.2))) ∧ (¬ 7 < k2 → (((k2 = 0 → (post (u.2.2.1.1.toInt64) (u2, u.2.1, u.2.2.1, u.2.2.2))) ∧ (¬ k2 = 0 → (((k2 = 1 → (post (u.2.2.1.2.1.toInt64) (u2, u.2.1, u.2.2.1, u.2.2.2))) ∧ (¬ k2 = 1 → (((k2 = 2 → (post (u.2.2.1.2.2.1.toInt64) (u2, u.2.1, u.2.2.1, u.2.2.2))) ∧ (¬ k2 = 2 → (((k2 = 3 → (post u.2.2.1.2.2.2.1 (u2, u.2.1, u.2.2.1, u.2.2.2))) ∧ (¬ k2 = 3 → (((k2 = 4 → (post u.2.2.1.2.2.2.2.1 (u2, u.2.1, u.2.2.1, u.2.2.2))) ∧ (¬ k2 = 4 → (((k2 = 5 → (post u.2.2.1.2.2.2.2.2.1 (u2, u.2.1, u.2.2.1, u.2.2.2))) ∧ (¬ k2 = 5 → (((k2 = 6 → (post (u.2.2.1.2.2.2.2.2.2.2.1.toInt64) (u2, u.2.1, u.2.2.1, u.2.2.2))) ∧ (¬ k2 = 6 → (((k2 = 7 → (wp_Ga_duty (fun r28 u29 => (post (r28.toInt64) (u2, u.2.1, u29, u.2.2.2))) u.2.2.1 )) ∧ (¬ k2 = 7 → (True)))))))))))))))))))))))))))))))) ∧ (k1.toNatClampNeg = 2 → (((k2 < 0 → (post (-1) (u2, u.2.1, u.2.2.1, u.2.2.2))) ∧ (¬ k2 < 0 → (((7 < k2 → (post (-1) (u2, u.2.1, u.2.2.1, u.2.2.2))) ∧ (¬ 7 < k2 → (((k2 = 0 → (post (u.2.2.2.1.toInt64) (u2, u.2.1, u.2.2.1, u.2.2.2))) ∧ (¬ k2 = 0 → (((k2 = 1 → (post (u.2.2.2.2.1.toInt64) (u2, u.2.1, u.2.2.1, u.2.2.2))) ∧ (¬ k2 = 1 → (((k2 = 2 → (post (u.2.2.2.2.2.1.toInt64) (u2, u.2.1, u.2.2.1, u.2.2.2))) ∧ (¬ k2 = 2 → (((k2 = 3 → (post u.2.2.2.2.2.2.1 (u2, u.2.1, u.2.2.1, u.2.2.2))) ∧ (¬ k2 = 3 → (((k2 = 4 → (post u.2.2.2.2.2.2.2.1 (u2, u.2.1, u.2.2.1, u.2.2.2))) ∧ (¬ k2 = 4 → (((k2 = 5 → (post u.2.2.2.2.2.2.2.2.1 (u2, u.2.1, u.2.2.1, u.2.2.2))) ∧ (¬ k2 = 5 → (((k2 = 6 → (post (u.2.2.2.2.2.2.2.2.2.2.1.toInt64) (u2, u.2.1, u.2.2.1, u.2.2.2))) ∧ (¬ k2 = 6 → (((k2 = 7 → (wp_Ga_duty (fun r40 u41 => (post (r40.toInt64) (u2, u.2.1, u.2.2.1, u41))) u.2.2.2 )) ∧ (¬ k2 = 7 → (True))))))))))))))))))))))))))))))))))))))) u.1 k1 
set_option maxHeartbeats 4000000 in
set_option maxRecDepth 100000 in
theorem mt_Sc_game (l : Launch) (dC : Nat → ClassId) (dI : Nat → Nat → Nat) (h0 h0_games h0_games_0 h0_games_1 h0_games_2 h0_balances h0_code h0_inbox h0_trueState h0_scratch h0_payments h0_proof h0_assertion : Nat) (c0_games : ClassId) (sz : Nat) (post : Int64 → (ct_Sc × ct_Ga × ct_Ga × ct_Ga) → Prop) (u : ct_Sc × ct_Ga × ct_Ga × ct_Ga) (k1 : Int32) (k2 : Int32) (hw : wp_Sc_game post u k1 k2) : Met l ySc_game wsSc_game ({ frames := 1, cells := 0, slots := 0, locals := 21 }) (kp_P dC dI [.ref h0, .int k1, .int k2] sz (ww_Sc_game h0 h0_games h0_games_0 h0_games_1 h0_games_2 h0_balances h0_code h0_inbox h0_trueState h0_scratch h0_payments h0_proof h0_assertion c0_games u) [(c0_games, (.object "StepCourt$Game"))]) (va_Ql post (fun u9 => kp_B dC dI (va_A (ww_Sc_game h0 h0_games h0_games_0 h0_games_1 h0_games_2 h0_balances h0_code h0_inbox h0_trueState h0_scratch h0_payments h0_proof h0_assertion c0_games u) sz) (ww_Sc_game h0 h0_games h0_games_0 h0_games_1 h0_games_2 h0_balances h0_code h0_inbox h0_trueState h0_scratch h0_payments h0_proof h0_assertion c0_games u9) [(c0_games, (.object "StepCourt$Game"))]) (va_A (ww_Sc_game h0 h0_games h0_games_0 h0_games_1 h0_games_2 h0_balances h0_code h0_inbox h0_trueState h0_scratch h0_payments h0_proof h0_assertion c0_games u) sz)) 0 0 (va_A (ww_Sc_game h0 h0_games h0_games_0 h0_games_1 h0_games_2 h0_balances h0_code h0_inbox h0_trueState h0_scratch h0_payments h0_proof h0_assertion c0_games u) sz) := by
  refine Met.ofW (cc := cSc_game) (maxL := 4) (ret := (some .long)) (by decide) rfl ?_
  intro p e s m args below meth c s₁ B hml hv
  obtain ⟨rfl, hsz, hP, hK, hD0, hZ⟩ := hv
  have hx := B.exec
  have hb := B.bytes
  have hr := B.returns
  have hq : ∀ w ∈ wz, w.before _ s = true := fun w h => atoms_spec (ws := wsSc_game) B.pre w (List.mem_cons_of_mem _ h)
  have hown : s.vm.findClass "StepCourt" = some m.cls := findClass_of_methodNamed B.named
  have hlocks := B.notSynchronized
  subst hsz
  have hD := hD0.self (sz := s.heap.size)
  generalize hAe : va_A (ww_Sc_game h0 h0_games h0_games_0 h0_games_1 h0_games_2 h0_balances h0_code h0_inbox h0_trueState h0_scratch h0_payments h0_proof h0_assertion c0_games u) s.heap.size = A at hD ⊢
  have hA : ∀ q : Nat, s.heap.size ≤ q → A q := fun q h => by rw [← hAe]; exact Or.inr h
  have hS : va_S A s.heap s.heap [] := va_S.rf
  have hP : va_P (dC, dI) vwCl [(h0, ce_Sc h0_balances h0_code h0_inbox h0_trueState h0_scratch h0_payments h0_proof h0_assertion h0_games u.1), (h0_games, .inl (c0_games, 3, .inr (.inr (.inr (.inr (va_up (va_up (va_up (fun _ => none) 0 (some h0_games_0)) 1 (some h0_games_1)) 2 (some h0_games_2))))))), (h0_games_0, ce_Ga u.2.1), (h0_games_1, ce_Ga u.2.2.1), (h0_games_2, ce_Ga u.2.2.2)] s.heap := hP
  have hD : va_D A [(h0, ce_Sc h0_balances h0_code h0_inbox h0_trueState h0_scratch h0_payments h0_proof h0_assertion h0_games u.1), (h0_games, .inl (c0_games, 3, .inr (.inr (.inr (.inr (va_up (va_up (va_up (fun _ => none) 0 (some h0_games_0)) 1 (some h0_games_1)) 2 (some h0_games_2))))))), (h0_games_0, ce_Ga u.2.1), (h0_games_1, ce_Ga u.2.2.1), (h0_games_2, ce_Ga u.2.2.2)] := hD
  have hl := lv_entry ([.ref h0, .int k1, .int k2]) (n := 4) (Nat.le_of_ble_eq_true rfl)
  rw [lg_entry_eq]
  generalize (lg_sl ([.ref h0, .int k1, .int k2]) ++ List.replicate (4 - (lg_sl ([.ref h0, .int k1, .int k2])).length) Slot.unset).toArray = ls at hl ⊢
  have hl : lv_has ls 4 [(0, .ref h0), (1, .int k1), (2, .int k2)] := hl
  skip
  refine lv_aload_n hx hb dSc_game_0 rfl (lv_at hl 0 rfl) ?_
  refine lv_iload_n hx hb dSc_game_1 rfl (lv_at hl 1 rfl) ?_
  have hPc := hP.sub (ws' := [(h0, ce_Sc h0_balances h0_code h0_inbox h0_trueState h0_scratch h0_payments h0_proof h0_assertion h0_games u.1)]) [0] rfl
  have hDc := hD.sub (ws' := [(h0, ce_Sc h0_balances h0_code h0_inbox h0_trueState h0_scratch h0_payments h0_proof h0_assertion h0_games u.1)]) [0] (by decide) rfl
  have hKc := hK.sub (tys' := []) [] rfl
  have hFc := va_free (wc := [(h0, ce_Sc h0_balances h0_code h0_inbox h0_trueState h0_scratch h0_payments h0_proof h0_assertion h0_games u.1)]) hD hS hA [0] rfl
  refine va_calli (va_runV (As := [.int k1]) (rest := []) ⟨hx, hb, hml, hown, hq⟩ (mt_Sc_isGame l dC dI h0 h0_balances h0_code h0_inbox h0_trueState h0_scratch h0_payments h0_proof h0_assertion h0_games s.heap.size _ u.1 k1 hw) ⟨cq_B 1 hq wt_432 wt_429 wt_1 rfl rfl hd_Sc_isGame ⟨Nat.le_of_ble_eq_true rfl, Nat.le_of_ble_eq_true rfl⟩, (hq _ wt_431), (hq _ wv_13)⟩ ⟨kp_bl, va_recv hKc hPc (ci := 7) (q0 := 0) rfl rfl, kp_at hPc hKc hDc hZ⟩ rfl rfl hl.1 rfl (lv_room (Nat.le_of_ble_eq_true rfl)) dSc_game_2 ⟨(by decide), (by decide)⟩) hS (fun q _ h => hFc q h) hFc (fun r1 u2 t H1 locs ht hvm hw hB hz1 hk1 hS => ?_)
  obtain ⟨hP1, hK1, hD1⟩ := hB
  rw [ht] at hP1
  have hK1 := va_K.moved hvm.symm hK1
  obtain ⟨hP, hD⟩ := va_join (wr := [(h0_games, .inl (c0_games, 3, .inr (.inr (.inr (.inr (va_up (va_up (va_up (fun _ => none) 0 (some h0_games_0)) 1 (some h0_games_1)) 2 (some h0_games_2))))))), (h0_games_0, ce_Ga u.2.1), (h0_games_1, ce_Ga u.2.2.1), (h0_games_2, ce_Ga u.2.2.2)]) (w1 := [(h0, ce_Sc h0_balances h0_code h0_inbox h0_trueState h0_scratch h0_payments h0_proof h0_assertion h0_games u2)]) hP hD [0] [1, 2, 3, 4] rfl rfl (by decide) (by decide) hk1 hFc hP1 hD1
  have hK := (hK.sub (tys' := [(c0_games, (.object "StepCourt$Game"))]) [0] rfl).app hK1
  generalize H1 = H at hP hS ⊢
  have hP : va_P (dC, dI) vwCl [(h0_games, .inl (c0_games, 3, .inr (.inr (.inr (.inr (va_up (va_up (va_up (fun _ => none) 0 (some h0_games_0)) 1 (some h0_games_1)) 2 (some h0_games_2))))))), (h0_games_0, ce_Ga u.2.1), (h0_games_1, ce_Ga u.2.2.1), (h0_games_2, ce_Ga u.2.2.2), (h0, ce_Sc h0_balances h0_code h0_inbox h0_trueState h0_scratch h0_payments h0_proof h0_assertion h0_games u2)] H := hP
  have hD : va_D A [(h0_games, .inl (c0_games, 3, .inr (.inr (.inr (.inr (va_up (va_up (va_up (fun _ => none) 0 (some h0_games_0)) 1 (some h0_games_1)) 2 (some h0_games_2))))))), (h0_games_0, ce_Ga u.2.1), (h0_games_1, ce_Ga u.2.2.1), (h0_games_2, ce_Ga u.2.2.2), (h0, ce_Sc h0_balances h0_code h0_inbox h0_trueState h0_scratch h0_payments h0_proof h0_assertion h0_games u2)] := hD
  have hK : va_K (dC, dI) vwCl [(c0_games, (.object "StepCourt$Game"))] s := hK
  refine lv_if_ne (tgt := 12) hx hb dSc_game_5 (by decide) (fun cc3 => ?_) (fun cc3 => ?_)
  · have hw := hw.2 cc3
    refine lv_aload_n hx hb dSc_game_12 rfl (lv_at hl 0 rfl) ?_
    refine va_get (D := (dC, dI)) (ci := 7) (v := .ref h0_games) (C := "StepCourt") (T := TSc) (N := 13) hx hb hq inSc hown hK hP 4 rfl rfl 8 (by decide) (hq _ wt_262) (fun _ h9 => h9) rfl dSc_game_13 ?_
    refine lv_iload_n hx hb dSc_game_16 rfl (lv_at hl 1 rfl) ?_
    obtain ⟨hh4, hw⟩ := hw
    refine va_aldq hx hb hK hP 0 0 rfl rfl hh4 dSc_game_17 ?_
    have cc5b : k1.toNatClampNeg < 3 := Nat.not_le.mp (fun q => hh4 (Or.inr q))
    rcases (show k1.toNatClampNeg = 0 ∨ k1.toNatClampNeg = 1 ∨ k1.toNatClampNeg = 2 by omega) with cc5 | cc5 | cc5
    · have hw := hw.1 cc5
      refine W.eq (g2 := F0 m 18 ls [.ref h0_games_0]) (by rw [cc5]; rfl) ?_
      refine lv_astore_n (lv' := [(3, .ref h0_games_0), (0, .ref h0), (1, .int k1), (2, .int k2)]) hx hb dSc_game_18 rfl hl (by decide) rfl (fun ls hl => ?_)
      refine lv_iload_n hx hb dSc_game_19 rfl (lv_at hl 3 rfl) ?_
      by_cases cc6 : k2 < 0
      · have hw := hw.1 cc6
        refine lv_tableOut (tgt := 113) hx hb dSc_game_20 (Or.inl (by have q := Int32.lt_iff_toInt_lt.mp cc6; rw [show (0 : Int32).toInt = 0 by decide] at q; exact q)) (by decide) ?_
        refine lv_ldc2 (v := (-1)) hx hb hown (hq _ wt_424) dSc_game_113 ?_
        have hP9 := hP.sub (ws' := [(h0, ce_Sc h0_balances h0_code h0_inbox h0_trueState h0_scratch h0_payments h0_proof h0_assertion h0_games u2), (h0_games, .inl (c0_games, 3, .inr (.inr (.inr (.inr (va_up (va_up (va_up (fun _ => none) 0 (some h0_games_0)) 1 (some h0_games_1)) 2 (some h0_games_2))))))), (h0_games_0, ce_Ga u.2.1), (h0_games_1, ce_Ga u.2.2.1), (h0_games_2, ce_Ga u.2.2.2)]) [4, 0, 1, 2, 3] rfl
        have hD9 := hD.sub (ws' := [(h0, ce_Sc h0_balances h0_code h0_inbox h0_trueState h0_scratch h0_payments h0_proof h0_assertion h0_games u2), (h0_games, .inl (c0_games, 3, .inr (.inr (.inr (.inr (va_up (va_up (va_up (fun _ => none) 0 (some h0_games_0)) 1 (some h0_games_1)) 2 (some h0_games_2))))))), (h0_games_0, ce_Ga u.2.1), (h0_games_1, ce_Ga u.2.2.1), (h0_games_2, ce_Ga u.2.2.2)]) [4, 0, 1, 2, 3] (by decide) rfl
        have hK9 := hK.sub (tys' := [(c0_games, (.object "StepCourt$Game"))]) [0] rfl
        exact W.lret (v := (-1)) hx hb hr (fun t ht hW => ⟨⟨(-1), (u2, u.2.1, u.2.2.1, u.2.2.2), rfl, hw, by rw [ht]; exact hP9, va_K.moved hW.alike hK9, hD9⟩, hS.F ht⟩) hS.2.2 dSc_game_116
      have hw := hw.2 cc6
      by_cases cc7 : 7 < k2
      · have hw := hw.1 cc7
        refine lv_tableOut (tgt := 113) hx hb dSc_game_20 (Or.inr (by have q := Int32.lt_iff_toInt_lt.mp cc7; rw [show (7 : Int32).toInt = 7 by decide] at q; exact q)) (by decide) ?_
        refine lv_ldc2 (v := (-1)) hx hb hown (hq _ wt_424) dSc_game_113 ?_
        have hP9 := hP.sub (ws' := [(h0, ce_Sc h0_balances h0_code h0_inbox h0_trueState h0_scratch h0_payments h0_proof h0_assertion h0_games u2), (h0_games, .inl (c0_games, 3, .inr (.inr (.inr (.inr (va_up (va_up (va_up (fun _ => none) 0 (some h0_games_0)) 1 (some h0_games_1)) 2 (some h0_games_2))))))), (h0_games_0, ce_Ga u.2.1), (h0_games_1, ce_Ga u.2.2.1), (h0_games_2, ce_Ga u.2.2.2)]) [4, 0, 1, 2, 3] rfl
        have hD9 := hD.sub (ws' := [(h0, ce_Sc h0_balances h0_code h0_inbox h0_trueState h0_scratch h0_payments h0_proof h0_assertion h0_games u2), (h0_games, .inl (c0_games, 3, .inr (.inr (.inr (.inr (va_up (va_up (va_up (fun _ => none) 0 (some h0_games_0)) 1 (some h0_games_1)) 2 (some h0_games_2))))))), (h0_games_0, ce_Ga u.2.1), (h0_games_1, ce_Ga u.2.2.1), (h0_games_2, ce_Ga u.2.2.2)]) [4, 0, 1, 2, 3] (by decide) rfl
        have hK9 := hK.sub (tys' := [(c0_games, (.object "StepCourt$Game"))]) [0] rfl
        exact W.lret (v := (-1)) hx hb hr (fun t ht hW => ⟨⟨(-1), (u2, u.2.1, u.2.2.1, u.2.2.2), rfl, hw, by rw [ht]; exact hP9, va_K.moved hW.alike hK9, hD9⟩, hS.F ht⟩) hS.2.2 dSc_game_116
      have hw := hw.2 cc7
      by_cases cc8 : k2 = 0
      · have hw := hw.1 cc8
        refine lv_tableIn (off := 48) (tgt := 68) hx hb dSc_game_20 (by rw [cc8]; decide) (by rw [cc8]; decide) (by rw [cc8]; decide) (by decide) ?_
        refine lv_aload_n hx hb dSc_game_68 rfl (lv_at hl 0 rfl) ?_
        refine va_getN (D := (dC, dI)) (ci := 2) (v := .int u.2.1.1) (C := "StepCourt$Game") (T := TGa) (N := 9) hx hb hq inGa hown hK hP 1 rfl rfl 0 (by decide) (va_Nw.use rfl (hZ.1 _ zt_193)) (fun _ h9 => h9) rfl dSc_game_69 ?_
        refine lv_i2l (v := u.2.1.1.toInt64) hx hb dSc_game_72 rfl ?_
        have hP9 := hP.sub (ws' := [(h0, ce_Sc h0_balances h0_code h0_inbox h0_trueState h0_scratch h0_payments h0_proof h0_assertion h0_games u2), (h0_games, .inl (c0_games, 3, .inr (.inr (.inr (.inr (va_up (va_up (va_up (fun _ => none) 0 (some h0_games_0)) 1 (some h0_games_1)) 2 (some h0_games_2))))))), (h0_games_0, ce_Ga u.2.1), (h0_games_1, ce_Ga u.2.2.1), (h0_games_2, ce_Ga u.2.2.2)]) [4, 0, 1, 2, 3] rfl
        have hD9 := hD.sub (ws' := [(h0, ce_Sc h0_balances h0_code h0_inbox h0_trueState h0_scratch h0_payments h0_proof h0_assertion h0_games u2), (h0_games, .inl (c0_games, 3, .inr (.inr (.inr (.inr (va_up (va_up (va_up (fun _ => none) 0 (some h0_games_0)) 1 (some h0_games_1)) 2 (some h0_games_2))))))), (h0_games_0, ce_Ga u.2.1), (h0_games_1, ce_Ga u.2.2.1), (h0_games_2, ce_Ga u.2.2.2)]) [4, 0, 1, 2, 3] (by decide) rfl
        have hK9 := hK.sub (tys' := [(c0_games, (.object "StepCourt$Game"))]) [0] rfl
        exact W.lret (v := u.2.1.1.toInt64) hx hb hr (fun t ht hW => ⟨⟨u.2.1.1.toInt64, (u2, u.2.1, u.2.2.1, u.2.2.2), rfl, hw, by rw [ht]; exact hP9, va_K.moved hW.alike hK9, hD9⟩, hS.F ht⟩) hS.2.2 dSc_game_73
      have hw := hw.2 cc8
      by_cases cc9 : k2 = 1
      · have hw := hw.1 cc9
        refine lv_tableIn (off := 54) (tgt := 74) hx hb dSc_game_20 (by rw [cc9]; decide) (by rw [cc9]; decide) (by rw [cc9]; decide) (by decide) ?_
        refine lv_aload_n hx hb dSc_game_74 rfl (lv_at hl 0 rfl) ?_
        refine va_getN (D := (dC, dI)) (ci := 2) (v := .int u.2.1.2.1) (C := "StepCourt$Game") (T := TGa) (N := 9) hx hb hq inGa hown hK hP 1 rfl rfl 1 (by decide) (va_Nw.use rfl (hZ.1 _ zt_195)) (fun _ h9 => h9) rfl dSc_game_75 ?_
        refine lv_i2l (v := u.2.1.2.1.toInt64) hx hb dSc_game_78 rfl ?_
        have hP9 := hP.sub (ws' := [(h0, ce_Sc h0_balances h0_code h0_inbox h0_trueState h0_scratch h0_payments h0_proof h0_assertion h0_games u2), (h0_games, .inl (c0_games, 3, .inr (.inr (.inr (.inr (va_up (va_up (va_up (fun _ => none) 0 (some h0_games_0)) 1 (some h0_games_1)) 2 (some h0_games_2))))))), (h0_games_0, ce_Ga u.2.1), (h0_games_1, ce_Ga u.2.2.1), (h0_games_2, ce_Ga u.2.2.2)]) [4, 0, 1, 2, 3] rfl
        have hD9 := hD.sub (ws' := [(h0, ce_Sc h0_balances h0_code h0_inbox h0_trueState h0_scratch h0_payments h0_proof h0_assertion h0_games u2), (h0_games, .inl (c0_games, 3, .inr (.inr (.inr (.inr (va_up (va_up (va_up (fun _ => none) 0 (some h0_games_0)) 1 (some h0_games_1)) 2 (some h0_games_2))))))), (h0_games_0, ce_Ga u.2.1), (h0_games_1, ce_Ga u.2.2.1), (h0_games_2, ce_Ga u.2.2.2)]) [4, 0, 1, 2, 3] (by decide) rfl
        have hK9 := hK.sub (tys' := [(c0_games, (.object "StepCourt$Game"))]) [0] rfl
        exact W.lret (v := u.2.1.2.1.toInt64) hx hb hr (fun t ht hW => ⟨⟨u.2.1.2.1.toInt64, (u2, u.2.1, u.2.2.1, u.2.2.2), rfl, hw, by rw [ht]; exact hP9, va_K.moved hW.alike hK9, hD9⟩, hS.F ht⟩) hS.2.2 dSc_game_79
      have hw := hw.2 cc9
      by_cases cc10 : k2 = 2
      · have hw := hw.1 cc10
        refine lv_tableIn (off := 60) (tgt := 80) hx hb dSc_game_20 (by rw [cc10]; decide) (by rw [cc10]; decide) (by rw [cc10]; decide) (by decide) ?_
        refine lv_aload_n hx hb dSc_game_80 rfl (lv_at hl 0 rfl) ?_
        refine va_getN (D := (dC, dI)) (ci := 2) (v := .int u.2.1.2.2.1) (C := "StepCourt$Game") (T := TGa) (N := 9) hx hb hq inGa hown hK hP 1 rfl rfl 2 (by decide) (va_Nw.use rfl (hZ.1 _ zt_197)) (fun _ h9 => h9) rfl dSc_game_81 ?_
        refine lv_i2l (v := u.2.1.2.2.1.toInt64) hx hb dSc_game_84 rfl ?_
        have hP9 := hP.sub (ws' := [(h0, ce_Sc h0_balances h0_code h0_inbox h0_trueState h0_scratch h0_payments h0_proof h0_assertion h0_games u2), (h0_games, .inl (c0_games, 3, .inr (.inr (.inr (.inr (va_up (va_up (va_up (fun _ => none) 0 (some h0_games_0)) 1 (some h0_games_1)) 2 (some h0_games_2))))))), (h0_games_0, ce_Ga u.2.1), (h0_games_1, ce_Ga u.2.2.1), (h0_games_2, ce_Ga u.2.2.2)]) [4, 0, 1, 2, 3] rfl
        have hD9 := hD.sub (ws' := [(h0, ce_Sc h0_balances h0_code h0_inbox h0_trueState h0_scratch h0_payments h0_proof h0_assertion h0_games u2), (h0_games, .inl (c0_games, 3, .inr (.inr (.inr (.inr (va_up (va_up (va_up (fun _ => none) 0 (some h0_games_0)) 1 (some h0_games_1)) 2 (some h0_games_2))))))), (h0_games_0, ce_Ga u.2.1), (h0_games_1, ce_Ga u.2.2.1), (h0_games_2, ce_Ga u.2.2.2)]) [4, 0, 1, 2, 3] (by decide) rfl
        have hK9 := hK.sub (tys' := [(c0_games, (.object "StepCourt$Game"))]) [0] rfl
        exact W.lret (v := u.2.1.2.2.1.toInt64) hx hb hr (fun t ht hW => ⟨⟨u.2.1.2.2.1.toInt64, (u2, u.2.1, u.2.2.1, u.2.2.2), rfl, hw, by rw [ht]; exact hP9, va_K.moved hW.alike hK9, hD9⟩, hS.F ht⟩) hS.2.2 dSc_game_85
      have hw := hw.2 cc10
      by_cases cc11 : k2 = 3
      · have hw := hw.1 cc11
        refine lv_tableIn (off := 66) (tgt := 86) hx hb dSc_game_20 (by rw [cc11]; decide) (by rw [cc11]; decide) (by rw [cc11]; decide) (by decide) ?_
        refine lv_aload_n hx hb dSc_game_86 rfl (lv_at hl 0 rfl) ?_
        refine va_getN (D := (dC, dI)) (ci := 2) (v := .long u.2.1.2.2.2.1) (C := "StepCourt$Game") (T := TGa) (N := 9) hx hb hq inGa hown hK hP 1 rfl rfl 3 (by decide) (va_Nw.use rfl (hZ.1 _ zt_199)) (fun _ h9 => h9) rfl dSc_game_87 ?_
        have hP9 := hP.sub (ws' := [(h0, ce_Sc h0_balances h0_code h0_inbox h0_trueState h0_scratch h0_payments h0_proof h0_assertion h0_games u2), (h0_games, .inl (c0_games, 3, .inr (.inr (.inr (.inr (va_up (va_up (va_up (fun _ => none) 0 (some h0_games_0)) 1 (some h0_games_1)) 2 (some h0_games_2))))))), (h0_games_0, ce_Ga u.2.1), (h0_games_1, ce_Ga u.2.2.1), (h0_games_2, ce_Ga u.2.2.2)]) [4, 0, 1, 2, 3] rfl
        have hD9 := hD.sub (ws' := [(h0, ce_Sc h0_balances h0_code h0_inbox h0_trueState h0_scratch h0_payments h0_proof h0_assertion h0_games u2), (h0_games, .inl (c0_games, 3, .inr (.inr (.inr (.inr (va_up (va_up (va_up (fun _ => none) 0 (some h0_games_0)) 1 (some h0_games_1)) 2 (some h0_games_2))))))), (h0_games_0, ce_Ga u.2.1), (h0_games_1, ce_Ga u.2.2.1), (h0_games_2, ce_Ga u.2.2.2)]) [4, 0, 1, 2, 3] (by decide) rfl
        have hK9 := hK.sub (tys' := [(c0_games, (.object "StepCourt$Game"))]) [0] rfl
        exact W.lret (v := u.2.1.2.2.2.1) hx hb hr (fun t ht hW => ⟨⟨u.2.1.2.2.2.1, (u2, u.2.1, u.2.2.1, u.2.2.2), rfl, hw, by rw [ht]; exact hP9, va_K.moved hW.alike hK9, hD9⟩, hS.F ht⟩) hS.2.2 dSc_game_90
      have hw := hw.2 cc11
      by_cases cc12 : k2 = 4
      · have hw := hw.1 cc12
        refine lv_tableIn (off := 71) (tgt := 91) hx hb dSc_game_20 (by rw [cc12]; decide) (by rw [cc12]; decide) (by rw [cc12]; decide) (by decide) ?_
        refine lv_aload_n hx hb dSc_game_91 rfl (lv_at hl 0 rfl) ?_
        refine va_getN (D := (dC, dI)) (ci := 2) (v := .long u.2.1.2.2.2.2.1) (C := "StepCourt$Game") (T := TGa) (N := 9) hx hb hq inGa hown hK hP 1 rfl rfl 4 (by decide) (va_Nw.use rfl (hZ.1 _ zt_201)) (fun _ h9 => h9) rfl dSc_game_92 ?_
        have hP9 := hP.sub (ws' := [(h0, ce_Sc h0_balances h0_code h0_inbox h0_trueState h0_scratch h0_payments h0_proof h0_assertion h0_games u2), (h0_games, .inl (c0_games, 3, .inr (.inr (.inr (.inr (va_up (va_up (va_up (fun _ => none) 0 (some h0_games_0)) 1 (some h0_games_1)) 2 (some h0_games_2))))))), (h0_games_0, ce_Ga u.2.1), (h0_games_1, ce_Ga u.2.2.1), (h0_games_2, ce_Ga u.2.2.2)]) [4, 0, 1, 2, 3] rfl
        have hD9 := hD.sub (ws' := [(h0, ce_Sc h0_balances h0_code h0_inbox h0_trueState h0_scratch h0_payments h0_proof h0_assertion h0_games u2), (h0_games, .inl (c0_games, 3, .inr (.inr (.inr (.inr (va_up (va_up (va_up (fun _ => none) 0 (some h0_games_0)) 1 (some h0_games_1)) 2 (some h0_games_2))))))), (h0_games_0, ce_Ga u.2.1), (h0_games_1, ce_Ga u.2.2.1), (h0_games_2, ce_Ga u.2.2.2)]) [4, 0, 1, 2, 3] (by decide) rfl
        have hK9 := hK.sub (tys' := [(c0_games, (.object "StepCourt$Game"))]) [0] rfl
        exact W.lret (v := u.2.1.2.2.2.2.1) hx hb hr (fun t ht hW => ⟨⟨u.2.1.2.2.2.2.1, (u2, u.2.1, u.2.2.1, u.2.2.2), rfl, hw, by rw [ht]; exact hP9, va_K.moved hW.alike hK9, hD9⟩, hS.F ht⟩) hS.2.2 dSc_game_95
      have hw := hw.2 cc12
      by_cases cc13 : k2 = 5
      · have hw := hw.1 cc13
        refine lv_tableIn (off := 76) (tgt := 96) hx hb dSc_game_20 (by rw [cc13]; decide) (by rw [cc13]; decide) (by rw [cc13]; decide) (by decide) ?_
        refine lv_aload_n hx hb dSc_game_96 rfl (lv_at hl 0 rfl) ?_
        refine va_getN (D := (dC, dI)) (ci := 2) (v := .long u.2.1.2.2.2.2.2.1) (C := "StepCourt$Game") (T := TGa) (N := 9) hx hb hq inGa hown hK hP 1 rfl rfl 5 (by decide) (va_Nw.use rfl (hZ.1 _ zt_203)) (fun _ h9 => h9) rfl dSc_game_97 ?_
        have hP9 := hP.sub (ws' := [(h0, ce_Sc h0_balances h0_code h0_inbox h0_trueState h0_scratch h0_payments h0_proof h0_assertion h0_games u2), (h0_games, .inl (c0_games, 3, .inr (.inr (.inr (.inr (va_up (va_up (va_up (fun _ => none) 0 (some h0_games_0)) 1 (some h0_games_1)) 2 (some h0_games_2))))))), (h0_games_0, ce_Ga u.2.1), (h0_games_1, ce_Ga u.2.2.1), (h0_games_2, ce_Ga u.2.2.2)]) [4, 0, 1, 2, 3] rfl
        have hD9 := hD.sub (ws' := [(h0, ce_Sc h0_balances h0_code h0_inbox h0_trueState h0_scratch h0_payments h0_proof h0_assertion h0_games u2), (h0_games, .inl (c0_games, 3, .inr (.inr (.inr (.inr (va_up (va_up (va_up (fun _ => none) 0 (some h0_games_0)) 1 (some h0_games_1)) 2 (some h0_games_2))))))), (h0_games_0, ce_Ga u.2.1), (h0_games_1, ce_Ga u.2.2.1), (h0_games_2, ce_Ga u.2.2.2)]) [4, 0, 1, 2, 3] (by decide) rfl
        have hK9 := hK.sub (tys' := [(c0_games, (.object "StepCourt$Game"))]) [0] rfl
        exact W.lret (v := u.2.1.2.2.2.2.2.1) hx hb hr (fun t ht hW => ⟨⟨u.2.1.2.2.2.2.2.1, (u2, u.2.1, u.2.2.1, u.2.2.2), rfl, hw, by rw [ht]; exact hP9, va_K.moved hW.alike hK9, hD9⟩, hS.F ht⟩) hS.2.2 dSc_game_100
      have hw := hw.2 cc13
      by_cases cc14 : k2 = 6
      · have hw := hw.1 cc14
        refine lv_tableIn (off := 81) (tgt := 101) hx hb dSc_game_20 (by rw [cc14]; decide) (by rw [cc14]; decide) (by rw [cc14]; decide) (by decide) ?_
        refine lv_aload_n hx hb dSc_game_101 rfl (lv_at hl 0 rfl) ?_
        refine va_getN (D := (dC, dI)) (ci := 2) (v := .int u.2.1.2.2.2.2.2.2.2.1) (C := "StepCourt$Game") (T := TGa) (N := 9) hx hb hq inGa hown hK hP 1 rfl rfl 7 (by decide) (va_Nw.use rfl (hZ.1 _ zt_206)) (fun _ h9 => h9) rfl dSc_game_102 ?_
        refine lv_i2l (v := u.2.1.2.2.2.2.2.2.2.1.toInt64) hx hb dSc_game_105 rfl ?_
        have hP9 := hP.sub (ws' := [(h0, ce_Sc h0_balances h0_code h0_inbox h0_trueState h0_scratch h0_payments h0_proof h0_assertion h0_games u2), (h0_games, .inl (c0_games, 3, .inr (.inr (.inr (.inr (va_up (va_up (va_up (fun _ => none) 0 (some h0_games_0)) 1 (some h0_games_1)) 2 (some h0_games_2))))))), (h0_games_0, ce_Ga u.2.1), (h0_games_1, ce_Ga u.2.2.1), (h0_games_2, ce_Ga u.2.2.2)]) [4, 0, 1, 2, 3] rfl
        have hD9 := hD.sub (ws' := [(h0, ce_Sc h0_balances h0_code h0_inbox h0_trueState h0_scratch h0_payments h0_proof h0_assertion h0_games u2), (h0_games, .inl (c0_games, 3, .inr (.inr (.inr (.inr (va_up (va_up (va_up (fun _ => none) 0 (some h0_games_0)) 1 (some h0_games_1)) 2 (some h0_games_2))))))), (h0_games_0, ce_Ga u.2.1), (h0_games_1, ce_Ga u.2.2.1), (h0_games_2, ce_Ga u.2.2.2)]) [4, 0, 1, 2, 3] (by decide) rfl
        have hK9 := hK.sub (tys' := [(c0_games, (.object "StepCourt$Game"))]) [0] rfl
        exact W.lret (v := u.2.1.2.2.2.2.2.2.2.1.toInt64) hx hb hr (fun t ht hW => ⟨⟨u.2.1.2.2.2.2.2.2.2.1.toInt64, (u2, u.2.1, u.2.2.1, u.2.2.2), rfl, hw, by rw [ht]; exact hP9, va_K.moved hW.alike hK9, hD9⟩, hS.F ht⟩) hS.2.2 dSc_game_106
      have hw := hw.2 cc14
      by_cases cc15 : k2 = 7
      · have hw := hw.1 cc15
        refine lv_tableIn (off := 87) (tgt := 107) hx hb dSc_game_20 (by rw [cc15]; decide) (by rw [cc15]; decide) (by rw [cc15]; decide) (by decide) ?_
        refine lv_aload_n hx hb dSc_game_107 rfl (lv_at hl 0 rfl) ?_
        have hPc := hP.sub (ws' := [(h0_games_0, ce_Ga u.2.1)]) [1] rfl
        have hDc := hD.sub (ws' := [(h0_games_0, ce_Ga u.2.1)]) [1] (by decide) rfl
        have hKc := hK.sub (tys' := []) [] rfl
        have hFc := va_free (wc := [(h0_games_0, ce_Ga u.2.1)]) hD hS hA [1] rfl
        refine va_calli (va_runV (As := []) (rest := []) ⟨hx, hb, hml, hown, hq⟩ (mt_Ga_duty l dC dI h0_games_0 H.size _ u.2.1 hw) ⟨cq_B 0 hq wt_309 wt_306 wt_8 rfl rfl hd_Ga_duty ⟨Nat.le_of_ble_eq_true rfl, Nat.le_of_ble_eq_true rfl⟩, (hq _ wt_307), (hq _ wt_308)⟩ ⟨kp_bl, va_recv hKc hPc (ci := 2) (q0 := 0) rfl rfl, kp_at hPc hKc hDc hZ⟩ rfl rfl hl.1 rfl (lv_room (Nat.le_of_ble_eq_true rfl)) dSc_game_108 ⟨(by decide), (by decide)⟩) hS (fun q _ h => hFc q h) hFc (fun r16 u17 t H1 locs ht hvm hw hB hz1 hk1 hS => ?_)
        obtain ⟨hP1, hK1, hD1⟩ := hB
        rw [ht] at hP1
        have hK1 := va_K.moved hvm.symm hK1
        obtain ⟨hP, hD⟩ := va_join (wr := [(h0_games, .inl (c0_games, 3, .inr (.inr (.inr (.inr (va_up (va_up (va_up (fun _ => none) 0 (some h0_games_0)) 1 (some h0_games_1)) 2 (some h0_games_2))))))), (h0_games_1, ce_Ga u.2.2.1), (h0_games_2, ce_Ga u.2.2.2), (h0, ce_Sc h0_balances h0_code h0_inbox h0_trueState h0_scratch h0_payments h0_proof h0_assertion h0_games u2)]) (w1 := [(h0_games_0, ce_Ga u17)]) hP hD [1] [0, 2, 3, 4] rfl rfl (by decide) (by decide) hk1 hFc hP1 hD1
        have hK := (hK.sub (tys' := [(c0_games, (.object "StepCourt$Game"))]) [0] rfl).app hK1
        generalize H1 = H at hP hS ⊢
        have hP : va_P (dC, dI) vwCl [(h0_games, .inl (c0_games, 3, .inr (.inr (.inr (.inr (va_up (va_up (va_up (fun _ => none) 0 (some h0_games_0)) 1 (some h0_games_1)) 2 (some h0_games_2))))))), (h0_games_1, ce_Ga u.2.2.1), (h0_games_2, ce_Ga u.2.2.2), (h0, ce_Sc h0_balances h0_code h0_inbox h0_trueState h0_scratch h0_payments h0_proof h0_assertion h0_games u2), (h0_games_0, ce_Ga u17)] H := hP
        have hD : va_D A [(h0_games, .inl (c0_games, 3, .inr (.inr (.inr (.inr (va_up (va_up (va_up (fun _ => none) 0 (some h0_games_0)) 1 (some h0_games_1)) 2 (some h0_games_2))))))), (h0_games_1, ce_Ga u.2.2.1), (h0_games_2, ce_Ga u.2.2.2), (h0, ce_Sc h0_balances h0_code h0_inbox h0_trueState h0_scratch h0_payments h0_proof h0_assertion h0_games u2), (h0_games_0, ce_Ga u17)] := hD
        have hK : va_K (dC, dI) vwCl [(c0_games, (.object "StepCourt$Game"))] s := hK
        refine lv_i2l (v := r16.toInt64) hx hb dSc_game_111 rfl ?_
        have hP9 := hP.sub (ws' := [(h0, ce_Sc h0_balances h0_code h0_inbox h0_trueState h0_scratch h0_payments h0_proof h0_assertion h0_games u2), (h0_games, .inl (c0_games, 3, .inr (.inr (.inr (.inr (va_up (va_up (va_up (fun _ => none) 0 (some h0_games_0)) 1 (some h0_games_1)) 2 (some h0_games_2))))))), (h0_games_0, ce_Ga u17), (h0_games_1, ce_Ga u.2.2.1), (h0_games_2, ce_Ga u.2.2.2)]) [3, 0, 4, 1, 2] rfl
        have hD9 := hD.sub (ws' := [(h0, ce_Sc h0_balances h0_code h0_inbox h0_trueState h0_scratch h0_payments h0_proof h0_assertion h0_games u2), (h0_games, .inl (c0_games, 3, .inr (.inr (.inr (.inr (va_up (va_up (va_up (fun _ => none) 0 (some h0_games_0)) 1 (some h0_games_1)) 2 (some h0_games_2))))))), (h0_games_0, ce_Ga u17), (h0_games_1, ce_Ga u.2.2.1), (h0_games_2, ce_Ga u.2.2.2)]) [3, 0, 4, 1, 2] (by decide) rfl
        have hK9 := hK.sub (tys' := [(c0_games, (.object "StepCourt$Game"))]) [0] rfl
        exact W.lret (v := r16.toInt64) hx hb hr (fun t ht hW => ⟨⟨r16.toInt64, (u2, u17, u.2.2.1, u.2.2.2), rfl, hw, by rw [ht]; exact hP9, va_K.moved hW.alike hK9, hD9⟩, hS.F ht⟩) hS.2.2 dSc_game_112
      have hw := hw.2 cc15
      exfalso
      have q1 : ¬ k2.toInt < 0 := fun q => cc6 (Int32.lt_iff_toInt_lt.mpr (by rw [show (0 : Int32).toInt = 0 by decide]; exact q))
      have q2 : ¬ 7 < k2.toInt := fun q => cc7 (Int32.lt_iff_toInt_lt.mpr (by rw [show (7 : Int32).toInt = 7 by decide]; exact q))
      have qcc8 := lv_neT cc8 (show (0 : Int32).toInt = 0 by decide)
      have qcc9 := lv_neT cc9 (show (1 : Int32).toInt = 1 by decide)
      have qcc10 := lv_neT cc10 (show (2 : Int32).toInt = 2 by decide)
      have qcc11 := lv_neT cc11 (show (3 : Int32).toInt = 3 by decide)
      have qcc12 := lv_neT cc12 (show (4 : Int32).toInt = 4 by decide)
      have qcc13 := lv_neT cc13 (show (5 : Int32).toInt = 5 by decide)
      have qcc14 := lv_neT cc14 (show (6 : Int32).toInt = 6 by decide)
      have qcc15 := lv_neT cc15 (show (7 : Int32).toInt = 7 by decide)
      omega
    · have hw := hw.2.1 cc5
      refine W.eq (g2 := F0 m 18 ls [.ref h0_games_1]) (by rw [cc5]; rfl) ?_
      refine lv_astore_n (lv' := [(3, .ref h0_games_1), (0, .ref h0), (1, .int k1), (2, .int k2)]) hx hb dSc_game_18 rfl hl (by decide) rfl (fun ls hl => ?_)
      refine lv_iload_n hx hb dSc_game_19 rfl (lv_at hl 3 rfl) ?_
      by_cases cc18 : k2 < 0
      · have hw := hw.1 cc18
        refine lv_tableOut (tgt := 113) hx hb dSc_game_20 (Or.inl (by have q := Int32.lt_iff_toInt_lt.mp cc18; rw [show (0 : Int32).toInt = 0 by decide] at q; exact q)) (by decide) ?_
        refine lv_ldc2 (v := (-1)) hx hb hown (hq _ wt_424) dSc_game_113 ?_
        have hP9 := hP.sub (ws' := [(h0, ce_Sc h0_balances h0_code h0_inbox h0_trueState h0_scratch h0_payments h0_proof h0_assertion h0_games u2), (h0_games, .inl (c0_games, 3, .inr (.inr (.inr (.inr (va_up (va_up (va_up (fun _ => none) 0 (some h0_games_0)) 1 (some h0_games_1)) 2 (some h0_games_2))))))), (h0_games_0, ce_Ga u.2.1), (h0_games_1, ce_Ga u.2.2.1), (h0_games_2, ce_Ga u.2.2.2)]) [4, 0, 1, 2, 3] rfl
        have hD9 := hD.sub (ws' := [(h0, ce_Sc h0_balances h0_code h0_inbox h0_trueState h0_scratch h0_payments h0_proof h0_assertion h0_games u2), (h0_games, .inl (c0_games, 3, .inr (.inr (.inr (.inr (va_up (va_up (va_up (fun _ => none) 0 (some h0_games_0)) 1 (some h0_games_1)) 2 (some h0_games_2))))))), (h0_games_0, ce_Ga u.2.1), (h0_games_1, ce_Ga u.2.2.1), (h0_games_2, ce_Ga u.2.2.2)]) [4, 0, 1, 2, 3] (by decide) rfl
        have hK9 := hK.sub (tys' := [(c0_games, (.object "StepCourt$Game"))]) [0] rfl
        exact W.lret (v := (-1)) hx hb hr (fun t ht hW => ⟨⟨(-1), (u2, u.2.1, u.2.2.1, u.2.2.2), rfl, hw, by rw [ht]; exact hP9, va_K.moved hW.alike hK9, hD9⟩, hS.F ht⟩) hS.2.2 dSc_game_116
      have hw := hw.2 cc18
      by_cases cc19 : 7 < k2
      · have hw := hw.1 cc19
        refine lv_tableOut (tgt := 113) hx hb dSc_game_20 (Or.inr (by have q := Int32.lt_iff_toInt_lt.mp cc19; rw [show (7 : Int32).toInt = 7 by decide] at q; exact q)) (by decide) ?_
        refine lv_ldc2 (v := (-1)) hx hb hown (hq _ wt_424) dSc_game_113 ?_
        have hP9 := hP.sub (ws' := [(h0, ce_Sc h0_balances h0_code h0_inbox h0_trueState h0_scratch h0_payments h0_proof h0_assertion h0_games u2), (h0_games, .inl (c0_games, 3, .inr (.inr (.inr (.inr (va_up (va_up (va_up (fun _ => none) 0 (some h0_games_0)) 1 (some h0_games_1)) 2 (some h0_games_2))))))), (h0_games_0, ce_Ga u.2.1), (h0_games_1, ce_Ga u.2.2.1), (h0_games_2, ce_Ga u.2.2.2)]) [4, 0, 1, 2, 3] rfl
        have hD9 := hD.sub (ws' := [(h0, ce_Sc h0_balances h0_code h0_inbox h0_trueState h0_scratch h0_payments h0_proof h0_assertion h0_games u2), (h0_games, .inl (c0_games, 3, .inr (.inr (.inr (.inr (va_up (va_up (va_up (fun _ => none) 0 (some h0_games_0)) 1 (some h0_games_1)) 2 (some h0_games_2))))))), (h0_games_0, ce_Ga u.2.1), (h0_games_1, ce_Ga u.2.2.1), (h0_games_2, ce_Ga u.2.2.2)]) [4, 0, 1, 2, 3] (by decide) rfl
        have hK9 := hK.sub (tys' := [(c0_games, (.object "StepCourt$Game"))]) [0] rfl
        exact W.lret (v := (-1)) hx hb hr (fun t ht hW => ⟨⟨(-1), (u2, u.2.1, u.2.2.1, u.2.2.2), rfl, hw, by rw [ht]; exact hP9, va_K.moved hW.alike hK9, hD9⟩, hS.F ht⟩) hS.2.2 dSc_game_116
      have hw := hw.2 cc19
      by_cases cc20 : k2 = 0
      · have hw := hw.1 cc20
        refine lv_tableIn (off := 48) (tgt := 68) hx hb dSc_game_20 (by rw [cc20]; decide) (by rw [cc20]; decide) (by rw [cc20]; decide) (by decide) ?_
        refine lv_aload_n hx hb dSc_game_68 rfl (lv_at hl 0 rfl) ?_
        refine va_getN (D := (dC, dI)) (ci := 2) (v := .int u.2.2.1.1) (C := "StepCourt$Game") (T := TGa) (N := 9) hx hb hq inGa hown hK hP 2 rfl rfl 0 (by decide) (va_Nw.use rfl (hZ.1 _ zt_193)) (fun _ h9 => h9) rfl dSc_game_69 ?_
        refine lv_i2l (v := u.2.2.1.1.toInt64) hx hb dSc_game_72 rfl ?_
        have hP9 := hP.sub (ws' := [(h0, ce_Sc h0_balances h0_code h0_inbox h0_trueState h0_scratch h0_payments h0_proof h0_assertion h0_games u2), (h0_games, .inl (c0_games, 3, .inr (.inr (.inr (.inr (va_up (va_up (va_up (fun _ => none) 0 (some h0_games_0)) 1 (some h0_games_1)) 2 (some h0_games_2))))))), (h0_games_0, ce_Ga u.2.1), (h0_games_1, ce_Ga u.2.2.1), (h0_games_2, ce_Ga u.2.2.2)]) [4, 0, 1, 2, 3] rfl
        have hD9 := hD.sub (ws' := [(h0, ce_Sc h0_balances h0_code h0_inbox h0_trueState h0_scratch h0_payments h0_proof h0_assertion h0_games u2), (h0_games, .inl (c0_games, 3, .inr (.inr (.inr (.inr (va_up (va_up (va_up (fun _ => none) 0 (some h0_games_0)) 1 (some h0_games_1)) 2 (some h0_games_2))))))), (h0_games_0, ce_Ga u.2.1), (h0_games_1, ce_Ga u.2.2.1), (h0_games_2, ce_Ga u.2.2.2)]) [4, 0, 1, 2, 3] (by decide) rfl
        have hK9 := hK.sub (tys' := [(c0_games, (.object "StepCourt$Game"))]) [0] rfl
        exact W.lret (v := u.2.2.1.1.toInt64) hx hb hr (fun t ht hW => ⟨⟨u.2.2.1.1.toInt64, (u2, u.2.1, u.2.2.1, u.2.2.2), rfl, hw, by rw [ht]; exact hP9, va_K.moved hW.alike hK9, hD9⟩, hS.F ht⟩) hS.2.2 dSc_game_73
      have hw := hw.2 cc20
      by_cases cc21 : k2 = 1
      · have hw := hw.1 cc21
        refine lv_tableIn (off := 54) (tgt := 74) hx hb dSc_game_20 (by rw [cc21]; decide) (by rw [cc21]; decide) (by rw [cc21]; decide) (by decide) ?_
        refine lv_aload_n hx hb dSc_game_74 rfl (lv_at hl 0 rfl) ?_
        refine va_getN (D := (dC, dI)) (ci := 2) (v := .int u.2.2.1.2.1) (C := "StepCourt$Game") (T := TGa) (N := 9) hx hb hq inGa hown hK hP 2 rfl rfl 1 (by decide) (va_Nw.use rfl (hZ.1 _ zt_195)) (fun _ h9 => h9) rfl dSc_game_75 ?_
        refine lv_i2l (v := u.2.2.1.2.1.toInt64) hx hb dSc_game_78 rfl ?_
        have hP9 := hP.sub (ws' := [(h0, ce_Sc h0_balances h0_code h0_inbox h0_trueState h0_scratch h0_payments h0_proof h0_assertion h0_games u2), (h0_games, .inl (c0_games, 3, .inr (.inr (.inr (.inr (va_up (va_up (va_up (fun _ => none) 0 (some h0_games_0)) 1 (some h0_games_1)) 2 (some h0_games_2))))))), (h0_games_0, ce_Ga u.2.1), (h0_games_1, ce_Ga u.2.2.1), (h0_games_2, ce_Ga u.2.2.2)]) [4, 0, 1, 2, 3] rfl
        have hD9 := hD.sub (ws' := [(h0, ce_Sc h0_balances h0_code h0_inbox h0_trueState h0_scratch h0_payments h0_proof h0_assertion h0_games u2), (h0_games, .inl (c0_games, 3, .inr (.inr (.inr (.inr (va_up (va_up (va_up (fun _ => none) 0 (some h0_games_0)) 1 (some h0_games_1)) 2 (some h0_games_2))))))), (h0_games_0, ce_Ga u.2.1), (h0_games_1, ce_Ga u.2.2.1), (h0_games_2, ce_Ga u.2.2.2)]) [4, 0, 1, 2, 3] (by decide) rfl
        have hK9 := hK.sub (tys' := [(c0_games, (.object "StepCourt$Game"))]) [0] rfl
        exact W.lret (v := u.2.2.1.2.1.toInt64) hx hb hr (fun t ht hW => ⟨⟨u.2.2.1.2.1.toInt64, (u2, u.2.1, u.2.2.1, u.2.2.2), rfl, hw, by rw [ht]; exact hP9, va_K.moved hW.alike hK9, hD9⟩, hS.F ht⟩) hS.2.2 dSc_game_79
      have hw := hw.2 cc21
      by_cases cc22 : k2 = 2
      · have hw := hw.1 cc22
        refine lv_tableIn (off := 60) (tgt := 80) hx hb dSc_game_20 (by rw [cc22]; decide) (by rw [cc22]; decide) (by rw [cc22]; decide) (by decide) ?_
        refine lv_aload_n hx hb dSc_game_80 rfl (lv_at hl 0 rfl) ?_
        refine va_getN (D := (dC, dI)) (ci := 2) (v := .int u.2.2.1.2.2.1) (C := "StepCourt$Game") (T := TGa) (N := 9) hx hb hq inGa hown hK hP 2 rfl rfl 2 (by decide) (va_Nw.use rfl (hZ.1 _ zt_197)) (fun _ h9 => h9) rfl dSc_game_81 ?_
        refine lv_i2l (v := u.2.2.1.2.2.1.toInt64) hx hb dSc_game_84 rfl ?_
        have hP9 := hP.sub (ws' := [(h0, ce_Sc h0_balances h0_code h0_inbox h0_trueState h0_scratch h0_payments h0_proof h0_assertion h0_games u2), (h0_games, .inl (c0_games, 3, .inr (.inr (.inr (.inr (va_up (va_up (va_up (fun _ => none) 0 (some h0_games_0)) 1 (some h0_games_1)) 2 (some h0_games_2))))))), (h0_games_0, ce_Ga u.2.1), (h0_games_1, ce_Ga u.2.2.1), (h0_games_2, ce_Ga u.2.2.2)]) [4, 0, 1, 2, 3] rfl
        have hD9 := hD.sub (ws' := [(h0, ce_Sc h0_balances h0_code h0_inbox h0_trueState h0_scratch h0_payments h0_proof h0_assertion h0_games u2), (h0_games, .inl (c0_games, 3, .inr (.inr (.inr (.inr (va_up (va_up (va_up (fun _ => none) 0 (some h0_games_0)) 1 (some h0_games_1)) 2 (some h0_games_2))))))), (h0_games_0, ce_Ga u.2.1), (h0_games_1, ce_Ga u.2.2.1), (h0_games_2, ce_Ga u.2.2.2)]) [4, 0, 1, 2, 3] (by decide) rfl
        have hK9 := hK.sub (tys' := [(c0_games, (.object "StepCourt$Game"))]) [0] rfl
        exact W.lret (v := u.2.2.1.2.2.1.toInt64) hx hb hr (fun t ht hW => ⟨⟨u.2.2.1.2.2.1.toInt64, (u2, u.2.1, u.2.2.1, u.2.2.2), rfl, hw, by rw [ht]; exact hP9, va_K.moved hW.alike hK9, hD9⟩, hS.F ht⟩) hS.2.2 dSc_game_85
      have hw := hw.2 cc22
      by_cases cc23 : k2 = 3
      · have hw := hw.1 cc23
        refine lv_tableIn (off := 66) (tgt := 86) hx hb dSc_game_20 (by rw [cc23]; decide) (by rw [cc23]; decide) (by rw [cc23]; decide) (by decide) ?_
        refine lv_aload_n hx hb dSc_game_86 rfl (lv_at hl 0 rfl) ?_
        refine va_getN (D := (dC, dI)) (ci := 2) (v := .long u.2.2.1.2.2.2.1) (C := "StepCourt$Game") (T := TGa) (N := 9) hx hb hq inGa hown hK hP 2 rfl rfl 3 (by decide) (va_Nw.use rfl (hZ.1 _ zt_199)) (fun _ h9 => h9) rfl dSc_game_87 ?_
        have hP9 := hP.sub (ws' := [(h0, ce_Sc h0_balances h0_code h0_inbox h0_trueState h0_scratch h0_payments h0_proof h0_assertion h0_games u2), (h0_games, .inl (c0_games, 3, .inr (.inr (.inr (.inr (va_up (va_up (va_up (fun _ => none) 0 (some h0_games_0)) 1 (some h0_games_1)) 2 (some h0_games_2))))))), (h0_games_0, ce_Ga u.2.1), (h0_games_1, ce_Ga u.2.2.1), (h0_games_2, ce_Ga u.2.2.2)]) [4, 0, 1, 2, 3] rfl
        have hD9 := hD.sub (ws' := [(h0, ce_Sc h0_balances h0_code h0_inbox h0_trueState h0_scratch h0_payments h0_proof h0_assertion h0_games u2), (h0_games, .inl (c0_games, 3, .inr (.inr (.inr (.inr (va_up (va_up (va_up (fun _ => none) 0 (some h0_games_0)) 1 (some h0_games_1)) 2 (some h0_games_2))))))), (h0_games_0, ce_Ga u.2.1), (h0_games_1, ce_Ga u.2.2.1), (h0_games_2, ce_Ga u.2.2.2)]) [4, 0, 1, 2, 3] (by decide) rfl
        have hK9 := hK.sub (tys' := [(c0_games, (.object "StepCourt$Game"))]) [0] rfl
        exact W.lret (v := u.2.2.1.2.2.2.1) hx hb hr (fun t ht hW => ⟨⟨u.2.2.1.2.2.2.1, (u2, u.2.1, u.2.2.1, u.2.2.2), rfl, hw, by rw [ht]; exact hP9, va_K.moved hW.alike hK9, hD9⟩, hS.F ht⟩) hS.2.2 dSc_game_90
      have hw := hw.2 cc23
      by_cases cc24 : k2 = 4
      · have hw := hw.1 cc24
        refine lv_tableIn (off := 71) (tgt := 91) hx hb dSc_game_20 (by rw [cc24]; decide) (by rw [cc24]; decide) (by rw [cc24]; decide) (by decide) ?_
        refine lv_aload_n hx hb dSc_game_91 rfl (lv_at hl 0 rfl) ?_
        refine va_getN (D := (dC, dI)) (ci := 2) (v := .long u.2.2.1.2.2.2.2.1) (C := "StepCourt$Game") (T := TGa) (N := 9) hx hb hq inGa hown hK hP 2 rfl rfl 4 (by decide) (va_Nw.use rfl (hZ.1 _ zt_201)) (fun _ h9 => h9) rfl dSc_game_92 ?_
        have hP9 := hP.sub (ws' := [(h0, ce_Sc h0_balances h0_code h0_inbox h0_trueState h0_scratch h0_payments h0_proof h0_assertion h0_games u2), (h0_games, .inl (c0_games, 3, .inr (.inr (.inr (.inr (va_up (va_up (va_up (fun _ => none) 0 (some h0_games_0)) 1 (some h0_games_1)) 2 (some h0_games_2))))))), (h0_games_0, ce_Ga u.2.1), (h0_games_1, ce_Ga u.2.2.1), (h0_games_2, ce_Ga u.2.2.2)]) [4, 0, 1, 2, 3] rfl
        have hD9 := hD.sub (ws' := [(h0, ce_Sc h0_balances h0_code h0_inbox h0_trueState h0_scratch h0_payments h0_proof h0_assertion h0_games u2), (h0_games, .inl (c0_games, 3, .inr (.inr (.inr (.inr (va_up (va_up (va_up (fun _ => none) 0 (some h0_games_0)) 1 (some h0_games_1)) 2 (some h0_games_2))))))), (h0_games_0, ce_Ga u.2.1), (h0_games_1, ce_Ga u.2.2.1), (h0_games_2, ce_Ga u.2.2.2)]) [4, 0, 1, 2, 3] (by decide) rfl
        have hK9 := hK.sub (tys' := [(c0_games, (.object "StepCourt$Game"))]) [0] rfl
        exact W.lret (v := u.2.2.1.2.2.2.2.1) hx hb hr (fun t ht hW => ⟨⟨u.2.2.1.2.2.2.2.1, (u2, u.2.1, u.2.2.1, u.2.2.2), rfl, hw, by rw [ht]; exact hP9, va_K.moved hW.alike hK9, hD9⟩, hS.F ht⟩) hS.2.2 dSc_game_95
      have hw := hw.2 cc24
      by_cases cc25 : k2 = 5
      · have hw := hw.1 cc25
        refine lv_tableIn (off := 76) (tgt := 96) hx hb dSc_game_20 (by rw [cc25]; decide) (by rw [cc25]; decide) (by rw [cc25]; decide) (by decide) ?_
        refine lv_aload_n hx hb dSc_game_96 rfl (lv_at hl 0 rfl) ?_
        refine va_getN (D := (dC, dI)) (ci := 2) (v := .long u.2.2.1.2.2.2.2.2.1) (C := "StepCourt$Game") (T := TGa) (N := 9) hx hb hq inGa hown hK hP 2 rfl rfl 5 (by decide) (va_Nw.use rfl (hZ.1 _ zt_203)) (fun _ h9 => h9) rfl dSc_game_97 ?_
        have hP9 := hP.sub (ws' := [(h0, ce_Sc h0_balances h0_code h0_inbox h0_trueState h0_scratch h0_payments h0_proof h0_assertion h0_games u2), (h0_games, .inl (c0_games, 3, .inr (.inr (.inr (.inr (va_up (va_up (va_up (fun _ => none) 0 (some h0_games_0)) 1 (some h0_games_1)) 2 (some h0_games_2))))))), (h0_games_0, ce_Ga u.2.1), (h0_games_1, ce_Ga u.2.2.1), (h0_games_2, ce_Ga u.2.2.2)]) [4, 0, 1, 2, 3] rfl
        have hD9 := hD.sub (ws' := [(h0, ce_Sc h0_balances h0_code h0_inbox h0_trueState h0_scratch h0_payments h0_proof h0_assertion h0_games u2), (h0_games, .inl (c0_games, 3, .inr (.inr (.inr (.inr (va_up (va_up (va_up (fun _ => none) 0 (some h0_games_0)) 1 (some h0_games_1)) 2 (some h0_games_2))))))), (h0_games_0, ce_Ga u.2.1), (h0_games_1, ce_Ga u.2.2.1), (h0_games_2, ce_Ga u.2.2.2)]) [4, 0, 1, 2, 3] (by decide) rfl
        have hK9 := hK.sub (tys' := [(c0_games, (.object "StepCourt$Game"))]) [0] rfl
        exact W.lret (v := u.2.2.1.2.2.2.2.2.1) hx hb hr (fun t ht hW => ⟨⟨u.2.2.1.2.2.2.2.2.1, (u2, u.2.1, u.2.2.1, u.2.2.2), rfl, hw, by rw [ht]; exact hP9, va_K.moved hW.alike hK9, hD9⟩, hS.F ht⟩) hS.2.2 dSc_game_100
      have hw := hw.2 cc25
      by_cases cc26 : k2 = 6
      · have hw := hw.1 cc26
        refine lv_tableIn (off := 81) (tgt := 101) hx hb dSc_game_20 (by rw [cc26]; decide) (by rw [cc26]; decide) (by rw [cc26]; decide) (by decide) ?_
        refine lv_aload_n hx hb dSc_game_101 rfl (lv_at hl 0 rfl) ?_
        refine va_getN (D := (dC, dI)) (ci := 2) (v := .int u.2.2.1.2.2.2.2.2.2.2.1) (C := "StepCourt$Game") (T := TGa) (N := 9) hx hb hq inGa hown hK hP 2 rfl rfl 7 (by decide) (va_Nw.use rfl (hZ.1 _ zt_206)) (fun _ h9 => h9) rfl dSc_game_102 ?_
        refine lv_i2l (v := u.2.2.1.2.2.2.2.2.2.2.1.toInt64) hx hb dSc_game_105 rfl ?_
        have hP9 := hP.sub (ws' := [(h0, ce_Sc h0_balances h0_code h0_inbox h0_trueState h0_scratch h0_payments h0_proof h0_assertion h0_games u2), (h0_games, .inl (c0_games, 3, .inr (.inr (.inr (.inr (va_up (va_up (va_up (fun _ => none) 0 (some h0_games_0)) 1 (some h0_games_1)) 2 (some h0_games_2))))))), (h0_games_0, ce_Ga u.2.1), (h0_games_1, ce_Ga u.2.2.1), (h0_games_2, ce_Ga u.2.2.2)]) [4, 0, 1, 2, 3] rfl
        have hD9 := hD.sub (ws' := [(h0, ce_Sc h0_balances h0_code h0_inbox h0_trueState h0_scratch h0_payments h0_proof h0_assertion h0_games u2), (h0_games, .inl (c0_games, 3, .inr (.inr (.inr (.inr (va_up (va_up (va_up (fun _ => none) 0 (some h0_games_0)) 1 (some h0_games_1)) 2 (some h0_games_2))))))), (h0_games_0, ce_Ga u.2.1), (h0_games_1, ce_Ga u.2.2.1), (h0_games_2, ce_Ga u.2.2.2)]) [4, 0, 1, 2, 3] (by decide) rfl
        have hK9 := hK.sub (tys' := [(c0_games, (.object "StepCourt$Game"))]) [0] rfl
        exact W.lret (v := u.2.2.1.2.2.2.2.2.2.2.1.toInt64) hx hb hr (fun t ht hW => ⟨⟨u.2.2.1.2.2.2.2.2.2.2.1.toInt64, (u2, u.2.1, u.2.2.1, u.2.2.2), rfl, hw, by rw [ht]; exact hP9, va_K.moved hW.alike hK9, hD9⟩, hS.F ht⟩) hS.2.2 dSc_game_106
      have hw := hw.2 cc26
      by_cases cc27 : k2 = 7
      · have hw := hw.1 cc27
        refine lv_tableIn (off := 87) (tgt := 107) hx hb dSc_game_20 (by rw [cc27]; decide) (by rw [cc27]; decide) (by rw [cc27]; decide) (by decide) ?_
        refine lv_aload_n hx hb dSc_game_107 rfl (lv_at hl 0 rfl) ?_
        have hPc := hP.sub (ws' := [(h0_games_1, ce_Ga u.2.2.1)]) [2] rfl
        have hDc := hD.sub (ws' := [(h0_games_1, ce_Ga u.2.2.1)]) [2] (by decide) rfl
        have hKc := hK.sub (tys' := []) [] rfl
        have hFc := va_free (wc := [(h0_games_1, ce_Ga u.2.2.1)]) hD hS hA [2] rfl
        refine va_calli (va_runV (As := []) (rest := []) ⟨hx, hb, hml, hown, hq⟩ (mt_Ga_duty l dC dI h0_games_1 H.size _ u.2.2.1 hw) ⟨cq_B 0 hq wt_309 wt_306 wt_8 rfl rfl hd_Ga_duty ⟨Nat.le_of_ble_eq_true rfl, Nat.le_of_ble_eq_true rfl⟩, (hq _ wt_307), (hq _ wt_308)⟩ ⟨kp_bl, va_recv hKc hPc (ci := 2) (q0 := 0) rfl rfl, kp_at hPc hKc hDc hZ⟩ rfl rfl hl.1 rfl (lv_room (Nat.le_of_ble_eq_true rfl)) dSc_game_108 ⟨(by decide), (by decide)⟩) hS (fun q _ h => hFc q h) hFc (fun r28 u29 t H1 locs ht hvm hw hB hz1 hk1 hS => ?_)
        obtain ⟨hP1, hK1, hD1⟩ := hB
        rw [ht] at hP1
        have hK1 := va_K.moved hvm.symm hK1
        obtain ⟨hP, hD⟩ := va_join (wr := [(h0_games, .inl (c0_games, 3, .inr (.inr (.inr (.inr (va_up (va_up (va_up (fun _ => none) 0 (some h0_games_0)) 1 (some h0_games_1)) 2 (some h0_games_2))))))), (h0_games_0, ce_Ga u.2.1), (h0_games_2, ce_Ga u.2.2.2), (h0, ce_Sc h0_balances h0_code h0_inbox h0_trueState h0_scratch h0_payments h0_proof h0_assertion h0_games u2)]) (w1 := [(h0_games_1, ce_Ga u29)]) hP hD [2] [0, 1, 3, 4] rfl rfl (by decide) (by decide) hk1 hFc hP1 hD1
        have hK := (hK.sub (tys' := [(c0_games, (.object "StepCourt$Game"))]) [0] rfl).app hK1
        generalize H1 = H at hP hS ⊢
        have hP : va_P (dC, dI) vwCl [(h0_games, .inl (c0_games, 3, .inr (.inr (.inr (.inr (va_up (va_up (va_up (fun _ => none) 0 (some h0_games_0)) 1 (some h0_games_1)) 2 (some h0_games_2))))))), (h0_games_0, ce_Ga u.2.1), (h0_games_2, ce_Ga u.2.2.2), (h0, ce_Sc h0_balances h0_code h0_inbox h0_trueState h0_scratch h0_payments h0_proof h0_assertion h0_games u2), (h0_games_1, ce_Ga u29)] H := hP
        have hD : va_D A [(h0_games, .inl (c0_games, 3, .inr (.inr (.inr (.inr (va_up (va_up (va_up (fun _ => none) 0 (some h0_games_0)) 1 (some h0_games_1)) 2 (some h0_games_2))))))), (h0_games_0, ce_Ga u.2.1), (h0_games_2, ce_Ga u.2.2.2), (h0, ce_Sc h0_balances h0_code h0_inbox h0_trueState h0_scratch h0_payments h0_proof h0_assertion h0_games u2), (h0_games_1, ce_Ga u29)] := hD
        have hK : va_K (dC, dI) vwCl [(c0_games, (.object "StepCourt$Game"))] s := hK
        refine lv_i2l (v := r28.toInt64) hx hb dSc_game_111 rfl ?_
        have hP9 := hP.sub (ws' := [(h0, ce_Sc h0_balances h0_code h0_inbox h0_trueState h0_scratch h0_payments h0_proof h0_assertion h0_games u2), (h0_games, .inl (c0_games, 3, .inr (.inr (.inr (.inr (va_up (va_up (va_up (fun _ => none) 0 (some h0_games_0)) 1 (some h0_games_1)) 2 (some h0_games_2))))))), (h0_games_0, ce_Ga u.2.1), (h0_games_1, ce_Ga u29), (h0_games_2, ce_Ga u.2.2.2)]) [3, 0, 1, 4, 2] rfl
        have hD9 := hD.sub (ws' := [(h0, ce_Sc h0_balances h0_code h0_inbox h0_trueState h0_scratch h0_payments h0_proof h0_assertion h0_games u2), (h0_games, .inl (c0_games, 3, .inr (.inr (.inr (.inr (va_up (va_up (va_up (fun _ => none) 0 (some h0_games_0)) 1 (some h0_games_1)) 2 (some h0_games_2))))))), (h0_games_0, ce_Ga u.2.1), (h0_games_1, ce_Ga u29), (h0_games_2, ce_Ga u.2.2.2)]) [3, 0, 1, 4, 2] (by decide) rfl
        have hK9 := hK.sub (tys' := [(c0_games, (.object "StepCourt$Game"))]) [0] rfl
        exact W.lret (v := r28.toInt64) hx hb hr (fun t ht hW => ⟨⟨r28.toInt64, (u2, u.2.1, u29, u.2.2.2), rfl, hw, by rw [ht]; exact hP9, va_K.moved hW.alike hK9, hD9⟩, hS.F ht⟩) hS.2.2 dSc_game_112
      have hw := hw.2 cc27
      exfalso
      have q1 : ¬ k2.toInt < 0 := fun q => cc18 (Int32.lt_iff_toInt_lt.mpr (by rw [show (0 : Int32).toInt = 0 by decide]; exact q))
      have q2 : ¬ 7 < k2.toInt := fun q => cc19 (Int32.lt_iff_toInt_lt.mpr (by rw [show (7 : Int32).toInt = 7 by decide]; exact q))
      have qcc20 := lv_neT cc20 (show (0 : Int32).toInt = 0 by decide)
      have qcc21 := lv_neT cc21 (show (1 : Int32).toInt = 1 by decide)
      have qcc22 := lv_neT cc22 (show (2 : Int32).toInt = 2 by decide)
      have qcc23 := lv_neT cc23 (show (3 : Int32).toInt = 3 by decide)
      have qcc24 := lv_neT cc24 (show (4 : Int32).toInt = 4 by decide)
      have qcc25 := lv_neT cc25 (show (5 : Int32).toInt = 5 by decide)
      have qcc26 := lv_neT cc26 (show (6 : Int32).toInt = 6 by decide)
      have qcc27 := lv_neT cc27 (show (7 : Int32).toInt = 7 by decide)
      omega
    · have hw := hw.2.2 cc5
      refine W.eq (g2 := F0 m 18 ls [.ref h0_games_2]) (by rw [cc5]; rfl) ?_
      refine lv_astore_n (lv' := [(3, .ref h0_games_2), (0, .ref h0), (1, .int k1), (2, .int k2)]) hx hb dSc_game_18 rfl hl (by decide) rfl (fun ls hl => ?_)
      refine lv_iload_n hx hb dSc_game_19 rfl (lv_at hl 3 rfl) ?_
      by_cases cc30 : k2 < 0
      · have hw := hw.1 cc30
        refine lv_tableOut (tgt := 113) hx hb dSc_game_20 (Or.inl (by have q := Int32.lt_iff_toInt_lt.mp cc30; rw [show (0 : Int32).toInt = 0 by decide] at q; exact q)) (by decide) ?_
        refine lv_ldc2 (v := (-1)) hx hb hown (hq _ wt_424) dSc_game_113 ?_
        have hP9 := hP.sub (ws' := [(h0, ce_Sc h0_balances h0_code h0_inbox h0_trueState h0_scratch h0_payments h0_proof h0_assertion h0_games u2), (h0_games, .inl (c0_games, 3, .inr (.inr (.inr (.inr (va_up (va_up (va_up (fun _ => none) 0 (some h0_games_0)) 1 (some h0_games_1)) 2 (some h0_games_2))))))), (h0_games_0, ce_Ga u.2.1), (h0_games_1, ce_Ga u.2.2.1), (h0_games_2, ce_Ga u.2.2.2)]) [4, 0, 1, 2, 3] rfl
        have hD9 := hD.sub (ws' := [(h0, ce_Sc h0_balances h0_code h0_inbox h0_trueState h0_scratch h0_payments h0_proof h0_assertion h0_games u2), (h0_games, .inl (c0_games, 3, .inr (.inr (.inr (.inr (va_up (va_up (va_up (fun _ => none) 0 (some h0_games_0)) 1 (some h0_games_1)) 2 (some h0_games_2))))))), (h0_games_0, ce_Ga u.2.1), (h0_games_1, ce_Ga u.2.2.1), (h0_games_2, ce_Ga u.2.2.2)]) [4, 0, 1, 2, 3] (by decide) rfl
        have hK9 := hK.sub (tys' := [(c0_games, (.object "StepCourt$Game"))]) [0] rfl
        exact W.lret (v := (-1)) hx hb hr (fun t ht hW => ⟨⟨(-1), (u2, u.2.1, u.2.2.1, u.2.2.2), rfl, hw, by rw [ht]; exact hP9, va_K.moved hW.alike hK9, hD9⟩, hS.F ht⟩) hS.2.2 dSc_game_116
      have hw := hw.2 cc30
      by_cases cc31 : 7 < k2
      · have hw := hw.1 cc31
        refine lv_tableOut (tgt := 113) hx hb dSc_game_20 (Or.inr (by have q := Int32.lt_iff_toInt_lt.mp cc31; rw [show (7 : Int32).toInt = 7 by decide] at q; exact q)) (by decide) ?_
        refine lv_ldc2 (v := (-1)) hx hb hown (hq _ wt_424) dSc_game_113 ?_
        have hP9 := hP.sub (ws' := [(h0, ce_Sc h0_balances h0_code h0_inbox h0_trueState h0_scratch h0_payments h0_proof h0_assertion h0_games u2), (h0_games, .inl (c0_games, 3, .inr (.inr (.inr (.inr (va_up (va_up (va_up (fun _ => none) 0 (some h0_games_0)) 1 (some h0_games_1)) 2 (some h0_games_2))))))), (h0_games_0, ce_Ga u.2.1), (h0_games_1, ce_Ga u.2.2.1), (h0_games_2, ce_Ga u.2.2.2)]) [4, 0, 1, 2, 3] rfl
        have hD9 := hD.sub (ws' := [(h0, ce_Sc h0_balances h0_code h0_inbox h0_trueState h0_scratch h0_payments h0_proof h0_assertion h0_games u2), (h0_games, .inl (c0_games, 3, .inr (.inr (.inr (.inr (va_up (va_up (va_up (fun _ => none) 0 (some h0_games_0)) 1 (some h0_games_1)) 2 (some h0_games_2))))))), (h0_games_0, ce_Ga u.2.1), (h0_games_1, ce_Ga u.2.2.1), (h0_games_2, ce_Ga u.2.2.2)]) [4, 0, 1, 2, 3] (by decide) rfl
        have hK9 := hK.sub (tys' := [(c0_games, (.object "StepCourt$Game"))]) [0] rfl
        exact W.lret (v := (-1)) hx hb hr (fun t ht hW => ⟨⟨(-1), (u2, u.2.1, u.2.2.1, u.2.2.2), rfl, hw, by rw [ht]; exact hP9, va_K.moved hW.alike hK9, hD9⟩, hS.F ht⟩) hS.2.2 dSc_game_116
      have hw := hw.2 cc31
      by_cases cc32 : k2 = 0
      · have hw := hw.1 cc32
        refine lv_tableIn (off := 48) (tgt := 68) hx hb dSc_game_20 (by rw [cc32]; decide) (by rw [cc32]; decide) (by rw [cc32]; decide) (by decide) ?_
        refine lv_aload_n hx hb dSc_game_68 rfl (lv_at hl 0 rfl) ?_
        refine va_getN (D := (dC, dI)) (ci := 2) (v := .int u.2.2.2.1) (C := "StepCourt$Game") (T := TGa) (N := 9) hx hb hq inGa hown hK hP 3 rfl rfl 0 (by decide) (va_Nw.use rfl (hZ.1 _ zt_193)) (fun _ h9 => h9) rfl dSc_game_69 ?_
        refine lv_i2l (v := u.2.2.2.1.toInt64) hx hb dSc_game_72 rfl ?_
        have hP9 := hP.sub (ws' := [(h0, ce_Sc h0_balances h0_code h0_inbox h0_trueState h0_scratch h0_payments h0_proof h0_assertion h0_games u2), (h0_games, .inl (c0_games, 3, .inr (.inr (.inr (.inr (va_up (va_up (va_up (fun _ => none) 0 (some h0_games_0)) 1 (some h0_games_1)) 2 (some h0_games_2))))))), (h0_games_0, ce_Ga u.2.1), (h0_games_1, ce_Ga u.2.2.1), (h0_games_2, ce_Ga u.2.2.2)]) [4, 0, 1, 2, 3] rfl
        have hD9 := hD.sub (ws' := [(h0, ce_Sc h0_balances h0_code h0_inbox h0_trueState h0_scratch h0_payments h0_proof h0_assertion h0_games u2), (h0_games, .inl (c0_games, 3, .inr (.inr (.inr (.inr (va_up (va_up (va_up (fun _ => none) 0 (some h0_games_0)) 1 (some h0_games_1)) 2 (some h0_games_2))))))), (h0_games_0, ce_Ga u.2.1), (h0_games_1, ce_Ga u.2.2.1), (h0_games_2, ce_Ga u.2.2.2)]) [4, 0, 1, 2, 3] (by decide) rfl
        have hK9 := hK.sub (tys' := [(c0_games, (.object "StepCourt$Game"))]) [0] rfl
        exact W.lret (v := u.2.2.2.1.toInt64) hx hb hr (fun t ht hW => ⟨⟨u.2.2.2.1.toInt64, (u2, u.2.1, u.2.2.1, u.2.2.2), rfl, hw, by rw [ht]; exact hP9, va_K.moved hW.alike hK9, hD9⟩, hS.F ht⟩) hS.2.2 dSc_game_73
      have hw := hw.2 cc32
      by_cases cc33 : k2 = 1
      · have hw := hw.1 cc33
        refine lv_tableIn (off := 54) (tgt := 74) hx hb dSc_game_20 (by rw [cc33]; decide) (by rw [cc33]; decide) (by rw [cc33]; decide) (by decide) ?_
        refine lv_aload_n hx hb dSc_game_74 rfl (lv_at hl 0 rfl) ?_
        refine va_getN (D := (dC, dI)) (ci := 2) (v := .int u.2.2.2.2.1) (C := "StepCourt$Game") (T := TGa) (N := 9) hx hb hq inGa hown hK hP 3 rfl rfl 1 (by decide) (va_Nw.use rfl (hZ.1 _ zt_195)) (fun _ h9 => h9) rfl dSc_game_75 ?_
        refine lv_i2l (v := u.2.2.2.2.1.toInt64) hx hb dSc_game_78 rfl ?_
        have hP9 := hP.sub (ws' := [(h0, ce_Sc h0_balances h0_code h0_inbox h0_trueState h0_scratch h0_payments h0_proof h0_assertion h0_games u2), (h0_games, .inl (c0_games, 3, .inr (.inr (.inr (.inr (va_up (va_up (va_up (fun _ => none) 0 (some h0_games_0)) 1 (some h0_games_1)) 2 (some h0_games_2))))))), (h0_games_0, ce_Ga u.2.1), (h0_games_1, ce_Ga u.2.2.1), (h0_games_2, ce_Ga u.2.2.2)]) [4, 0, 1, 2, 3] rfl
        have hD9 := hD.sub (ws' := [(h0, ce_Sc h0_balances h0_code h0_inbox h0_trueState h0_scratch h0_payments h0_proof h0_assertion h0_games u2), (h0_games, .inl (c0_games, 3, .inr (.inr (.inr (.inr (va_up (va_up (va_up (fun _ => none) 0 (some h0_games_0)) 1 (some h0_games_1)) 2 (some h0_games_2))))))), (h0_games_0, ce_Ga u.2.1), (h0_games_1, ce_Ga u.2.2.1), (h0_games_2, ce_Ga u.2.2.2)]) [4, 0, 1, 2, 3] (by decide) rfl
        have hK9 := hK.sub (tys' := [(c0_games, (.object "StepCourt$Game"))]) [0] rfl
        exact W.lret (v := u.2.2.2.2.1.toInt64) hx hb hr (fun t ht hW => ⟨⟨u.2.2.2.2.1.toInt64, (u2, u.2.1, u.2.2.1, u.2.2.2), rfl, hw, by rw [ht]; exact hP9, va_K.moved hW.alike hK9, hD9⟩, hS.F ht⟩) hS.2.2 dSc_game_79
      have hw := hw.2 cc33
      by_cases cc34 : k2 = 2
      · have hw := hw.1 cc34
        refine lv_tableIn (off := 60) (tgt := 80) hx hb dSc_game_20 (by rw [cc34]; decide) (by rw [cc34]; decide) (by rw [cc34]; decide) (by decide) ?_
        refine lv_aload_n hx hb dSc_game_80 rfl (lv_at hl 0 rfl) ?_
        refine va_getN (D := (dC, dI)) (ci := 2) (v := .int u.2.2.2.2.2.1) (C := "StepCourt$Game") (T := TGa) (N := 9) hx hb hq inGa hown hK hP 3 rfl rfl 2 (by decide) (va_Nw.use rfl (hZ.1 _ zt_197)) (fun _ h9 => h9) rfl dSc_game_81 ?_
        refine lv_i2l (v := u.2.2.2.2.2.1.toInt64) hx hb dSc_game_84 rfl ?_
        have hP9 := hP.sub (ws' := [(h0, ce_Sc h0_balances h0_code h0_inbox h0_trueState h0_scratch h0_payments h0_proof h0_assertion h0_games u2), (h0_games, .inl (c0_games, 3, .inr (.inr (.inr (.inr (va_up (va_up (va_up (fun _ => none) 0 (some h0_games_0)) 1 (some h0_games_1)) 2 (some h0_games_2))))))), (h0_games_0, ce_Ga u.2.1), (h0_games_1, ce_Ga u.2.2.1), (h0_games_2, ce_Ga u.2.2.2)]) [4, 0, 1, 2, 3] rfl
        have hD9 := hD.sub (ws' := [(h0, ce_Sc h0_balances h0_code h0_inbox h0_trueState h0_scratch h0_payments h0_proof h0_assertion h0_games u2), (h0_games, .inl (c0_games, 3, .inr (.inr (.inr (.inr (va_up (va_up (va_up (fun _ => none) 0 (some h0_games_0)) 1 (some h0_games_1)) 2 (some h0_games_2))))))), (h0_games_0, ce_Ga u.2.1), (h0_games_1, ce_Ga u.2.2.1), (h0_games_2, ce_Ga u.2.2.2)]) [4, 0, 1, 2, 3] (by decide) rfl
        have hK9 := hK.sub (tys' := [(c0_games, (.object "StepCourt$Game"))]) [0] rfl
        exact W.lret (v := u.2.2.2.2.2.1.toInt64) hx hb hr (fun t ht hW => ⟨⟨u.2.2.2.2.2.1.toInt64, (u2, u.2.1, u.2.2.1, u.2.2.2), rfl, hw, by rw [ht]; exact hP9, va_K.moved hW.alike hK9, hD9⟩, hS.F ht⟩) hS.2.2 dSc_game_85
      have hw := hw.2 cc34
      by_cases cc35 : k2 = 3
      · have hw := hw.1 cc35
        refine lv_tableIn (off := 66) (tgt := 86) hx hb dSc_game_20 (by rw [cc35]; decide) (by rw [cc35]; decide) (by rw [cc35]; decide) (by decide) ?_
        refine lv_aload_n hx hb dSc_game_86 rfl (lv_at hl 0 rfl) ?_
        refine va_getN (D := (dC, dI)) (ci := 2) (v := .long u.2.2.2.2.2.2.1) (C := "StepCourt$Game") (T := TGa) (N := 9) hx hb hq inGa hown hK hP 3 rfl rfl 3 (by decide) (va_Nw.use rfl (hZ.1 _ zt_199)) (fun _ h9 => h9) rfl dSc_game_87 ?_
        have hP9 := hP.sub (ws' := [(h0, ce_Sc h0_balances h0_code h0_inbox h0_trueState h0_scratch h0_payments h0_proof h0_assertion h0_games u2), (h0_games, .inl (c0_games, 3, .inr (.inr (.inr (.inr (va_up (va_up (va_up (fun _ => none) 0 (some h0_games_0)) 1 (some h0_games_1)) 2 (some h0_games_2))))))), (h0_games_0, ce_Ga u.2.1), (h0_games_1, ce_Ga u.2.2.1), (h0_games_2, ce_Ga u.2.2.2)]) [4, 0, 1, 2, 3] rfl
        have hD9 := hD.sub (ws' := [(h0, ce_Sc h0_balances h0_code h0_inbox h0_trueState h0_scratch h0_payments h0_proof h0_assertion h0_games u2), (h0_games, .inl (c0_games, 3, .inr (.inr (.inr (.inr (va_up (va_up (va_up (fun _ => none) 0 (some h0_games_0)) 1 (some h0_games_1)) 2 (some h0_games_2))))))), (h0_games_0, ce_Ga u.2.1), (h0_games_1, ce_Ga u.2.2.1), (h0_games_2, ce_Ga u.2.2.2)]) [4, 0, 1, 2, 3] (by decide) rfl
        have hK9 := hK.sub (tys' := [(c0_games, (.object "StepCourt$Game"))]) [0] rfl
        exact W.lret (v := u.2.2.2.2.2.2.1) hx hb hr (fun t ht hW => ⟨⟨u.2.2.2.2.2.2.1, (u2, u.2.1, u.2.2.1, u.2.2.2), rfl, hw, by rw [ht]; exact hP9, va_K.moved hW.alike hK9, hD9⟩, hS.F ht⟩) hS.2.2 dSc_game_90
      have hw := hw.2 cc35
      by_cases cc36 : k2 = 4
      · have hw := hw.1 cc36
        refine lv_tableIn (off := 71) (tgt := 91) hx hb dSc_game_20 (by rw [cc36]; decide) (by rw [cc36]; decide) (by rw [cc36]; decide) (by decide) ?_
        refine lv_aload_n hx hb dSc_game_91 rfl (lv_at hl 0 rfl) ?_
        refine va_getN (D := (dC, dI)) (ci := 2) (v := .long u.2.2.2.2.2.2.2.1) (C := "StepCourt$Game") (T := TGa) (N := 9) hx hb hq inGa hown hK hP 3 rfl rfl 4 (by decide) (va_Nw.use rfl (hZ.1 _ zt_201)) (fun _ h9 => h9) rfl dSc_game_92 ?_
        have hP9 := hP.sub (ws' := [(h0, ce_Sc h0_balances h0_code h0_inbox h0_trueState h0_scratch h0_payments h0_proof h0_assertion h0_games u2), (h0_games, .inl (c0_games, 3, .inr (.inr (.inr (.inr (va_up (va_up (va_up (fun _ => none) 0 (some h0_games_0)) 1 (some h0_games_1)) 2 (some h0_games_2))))))), (h0_games_0, ce_Ga u.2.1), (h0_games_1, ce_Ga u.2.2.1), (h0_games_2, ce_Ga u.2.2.2)]) [4, 0, 1, 2, 3] rfl
        have hD9 := hD.sub (ws' := [(h0, ce_Sc h0_balances h0_code h0_inbox h0_trueState h0_scratch h0_payments h0_proof h0_assertion h0_games u2), (h0_games, .inl (c0_games, 3, .inr (.inr (.inr (.inr (va_up (va_up (va_up (fun _ => none) 0 (some h0_games_0)) 1 (some h0_games_1)) 2 (some h0_games_2))))))), (h0_games_0, ce_Ga u.2.1), (h0_games_1, ce_Ga u.2.2.1), (h0_games_2, ce_Ga u.2.2.2)]) [4, 0, 1, 2, 3] (by decide) rfl
        have hK9 := hK.sub (tys' := [(c0_games, (.object "StepCourt$Game"))]) [0] rfl
        exact W.lret (v := u.2.2.2.2.2.2.2.1) hx hb hr (fun t ht hW => ⟨⟨u.2.2.2.2.2.2.2.1, (u2, u.2.1, u.2.2.1, u.2.2.2), rfl, hw, by rw [ht]; exact hP9, va_K.moved hW.alike hK9, hD9⟩, hS.F ht⟩) hS.2.2 dSc_game_95
      have hw := hw.2 cc36
      by_cases cc37 : k2 = 5
      · have hw := hw.1 cc37
        refine lv_tableIn (off := 76) (tgt := 96) hx hb dSc_game_20 (by rw [cc37]; decide) (by rw [cc37]; decide) (by rw [cc37]; decide) (by decide) ?_
        refine lv_aload_n hx hb dSc_game_96 rfl (lv_at hl 0 rfl) ?_
        refine va_getN (D := (dC, dI)) (ci := 2) (v := .long u.2.2.2.2.2.2.2.2.1) (C := "StepCourt$Game") (T := TGa) (N := 9) hx hb hq inGa hown hK hP 3 rfl rfl 5 (by decide) (va_Nw.use rfl (hZ.1 _ zt_203)) (fun _ h9 => h9) rfl dSc_game_97 ?_
        have hP9 := hP.sub (ws' := [(h0, ce_Sc h0_balances h0_code h0_inbox h0_trueState h0_scratch h0_payments h0_proof h0_assertion h0_games u2), (h0_games, .inl (c0_games, 3, .inr (.inr (.inr (.inr (va_up (va_up (va_up (fun _ => none) 0 (some h0_games_0)) 1 (some h0_games_1)) 2 (some h0_games_2))))))), (h0_games_0, ce_Ga u.2.1), (h0_games_1, ce_Ga u.2.2.1), (h0_games_2, ce_Ga u.2.2.2)]) [4, 0, 1, 2, 3] rfl
        have hD9 := hD.sub (ws' := [(h0, ce_Sc h0_balances h0_code h0_inbox h0_trueState h0_scratch h0_payments h0_proof h0_assertion h0_games u2), (h0_games, .inl (c0_games, 3, .inr (.inr (.inr (.inr (va_up (va_up (va_up (fun _ => none) 0 (some h0_games_0)) 1 (some h0_games_1)) 2 (some h0_games_2))))))), (h0_games_0, ce_Ga u.2.1), (h0_games_1, ce_Ga u.2.2.1), (h0_games_2, ce_Ga u.2.2.2)]) [4, 0, 1, 2, 3] (by decide) rfl
        have hK9 := hK.sub (tys' := [(c0_games, (.object "StepCourt$Game"))]) [0] rfl
        exact W.lret (v := u.2.2.2.2.2.2.2.2.1) hx hb hr (fun t ht hW => ⟨⟨u.2.2.2.2.2.2.2.2.1, (u2, u.2.1, u.2.2.1, u.2.2.2), rfl, hw, by rw [ht]; exact hP9, va_K.moved hW.alike hK9, hD9⟩, hS.F ht⟩) hS.2.2 dSc_game_100
      have hw := hw.2 cc37
      by_cases cc38 : k2 = 6
      · have hw := hw.1 cc38
        refine lv_tableIn (off := 81) (tgt := 101) hx hb dSc_game_20 (by rw [cc38]; decide) (by rw [cc38]; decide) (by rw [cc38]; decide) (by decide) ?_
        refine lv_aload_n hx hb dSc_game_101 rfl (lv_at hl 0 rfl) ?_
        refine va_getN (D := (dC, dI)) (ci := 2) (v := .int u.2.2.2.2.2.2.2.2.2.2.1) (C := "StepCourt$Game") (T := TGa) (N := 9) hx hb hq inGa hown hK hP 3 rfl rfl 7 (by decide) (va_Nw.use rfl (hZ.1 _ zt_206)) (fun _ h9 => h9) rfl dSc_game_102 ?_
        refine lv_i2l (v := u.2.2.2.2.2.2.2.2.2.2.1.toInt64) hx hb dSc_game_105 rfl ?_
        have hP9 := hP.sub (ws' := [(h0, ce_Sc h0_balances h0_code h0_inbox h0_trueState h0_scratch h0_payments h0_proof h0_assertion h0_games u2), (h0_games, .inl (c0_games, 3, .inr (.inr (.inr (.inr (va_up (va_up (va_up (fun _ => none) 0 (some h0_games_0)) 1 (some h0_games_1)) 2 (some h0_games_2))))))), (h0_games_0, ce_Ga u.2.1), (h0_games_1, ce_Ga u.2.2.1), (h0_games_2, ce_Ga u.2.2.2)]) [4, 0, 1, 2, 3] rfl
        have hD9 := hD.sub (ws' := [(h0, ce_Sc h0_balances h0_code h0_inbox h0_trueState h0_scratch h0_payments h0_proof h0_assertion h0_games u2), (h0_games, .inl (c0_games, 3, .inr (.inr (.inr (.inr (va_up (va_up (va_up (fun _ => none) 0 (some h0_games_0)) 1 (some h0_games_1)) 2 (some h0_games_2))))))), (h0_games_0, ce_Ga u.2.1), (h0_games_1, ce_Ga u.2.2.1), (h0_games_2, ce_Ga u.2.2.2)]) [4, 0, 1, 2, 3] (by decide) rfl
        have hK9 := hK.sub (tys' := [(c0_games, (.object "StepCourt$Game"))]) [0] rfl
        exact W.lret (v := u.2.2.2.2.2.2.2.2.2.2.1.toInt64) hx hb hr (fun t ht hW => ⟨⟨u.2.2.2.2.2.2.2.2.2.2.1.toInt64, (u2, u.2.1, u.2.2.1, u.2.2.2), rfl, hw, by rw [ht]; exact hP9, va_K.moved hW.alike hK9, hD9⟩, hS.F ht⟩) hS.2.2 dSc_game_106
      have hw := hw.2 cc38
      by_cases cc39 : k2 = 7
      · have hw := hw.1 cc39
        refine lv_tableIn (off := 87) (tgt := 107) hx hb dSc_game_20 (by rw [cc39]; decide) (by rw [cc39]; decide) (by rw [cc39]; decide) (by decide) ?_
        refine lv_aload_n hx hb dSc_game_107 rfl (lv_at hl 0 rfl) ?_
        have hPc := hP.sub (ws' := [(h0_games_2, ce_Ga u.2.2.2)]) [3] rfl
        have hDc := hD.sub (ws' := [(h0_games_2, ce_Ga u.2.2.2)]) [3] (by decide) rfl
        have hKc := hK.sub (tys' := []) [] rfl
        have hFc := va_free (wc := [(h0_games_2, ce_Ga u.2.2.2)]) hD hS hA [3] rfl
        refine va_calli (va_runV (As := []) (rest := []) ⟨hx, hb, hml, hown, hq⟩ (mt_Ga_duty l dC dI h0_games_2 H.size _ u.2.2.2 hw) ⟨cq_B 0 hq wt_309 wt_306 wt_8 rfl rfl hd_Ga_duty ⟨Nat.le_of_ble_eq_true rfl, Nat.le_of_ble_eq_true rfl⟩, (hq _ wt_307), (hq _ wt_308)⟩ ⟨kp_bl, va_recv hKc hPc (ci := 2) (q0 := 0) rfl rfl, kp_at hPc hKc hDc hZ⟩ rfl rfl hl.1 rfl (lv_room (Nat.le_of_ble_eq_true rfl)) dSc_game_108 ⟨(by decide), (by decide)⟩) hS (fun q _ h => hFc q h) hFc (fun r40 u41 t H1 locs ht hvm hw hB hz1 hk1 hS => ?_)
        obtain ⟨hP1, hK1, hD1⟩ := hB
        rw [ht] at hP1
        have hK1 := va_K.moved hvm.symm hK1
        obtain ⟨hP, hD⟩ := va_join (wr := [(h0_games, .inl (c0_games, 3, .inr (.inr (.inr (.inr (va_up (va_up (va_up (fun _ => none) 0 (some h0_games_0)) 1 (some h0_games_1)) 2 (some h0_games_2))))))), (h0_games_0, ce_Ga u.2.1), (h0_games_1, ce_Ga u.2.2.1), (h0, ce_Sc h0_balances h0_code h0_inbox h0_trueState h0_scratch h0_payments h0_proof h0_assertion h0_games u2)]) (w1 := [(h0_games_2, ce_Ga u41)]) hP hD [3] [0, 1, 2, 4] rfl rfl (by decide) (by decide) hk1 hFc hP1 hD1
        have hK := (hK.sub (tys' := [(c0_games, (.object "StepCourt$Game"))]) [0] rfl).app hK1
        generalize H1 = H at hP hS ⊢
        have hP : va_P (dC, dI) vwCl [(h0_games, .inl (c0_games, 3, .inr (.inr (.inr (.inr (va_up (va_up (va_up (fun _ => none) 0 (some h0_games_0)) 1 (some h0_games_1)) 2 (some h0_games_2))))))), (h0_games_0, ce_Ga u.2.1), (h0_games_1, ce_Ga u.2.2.1), (h0, ce_Sc h0_balances h0_code h0_inbox h0_trueState h0_scratch h0_payments h0_proof h0_assertion h0_games u2), (h0_games_2, ce_Ga u41)] H := hP
        have hD : va_D A [(h0_games, .inl (c0_games, 3, .inr (.inr (.inr (.inr (va_up (va_up (va_up (fun _ => none) 0 (some h0_games_0)) 1 (some h0_games_1)) 2 (some h0_games_2))))))), (h0_games_0, ce_Ga u.2.1), (h0_games_1, ce_Ga u.2.2.1), (h0, ce_Sc h0_balances h0_code h0_inbox h0_trueState h0_scratch h0_payments h0_proof h0_assertion h0_games u2), (h0_games_2, ce_Ga u41)] := hD
        have hK : va_K (dC, dI) vwCl [(c0_games, (.object "StepCourt$Game"))] s := hK
        refine lv_i2l (v := r40.toInt64) hx hb dSc_game_111 rfl ?_
        have hP9 := hP.sub (ws' := [(h0, ce_Sc h0_balances h0_code h0_inbox h0_trueState h0_scratch h0_payments h0_proof h0_assertion h0_games u2), (h0_games, .inl (c0_games, 3, .inr (.inr (.inr (.inr (va_up (va_up (va_up (fun _ => none) 0 (some h0_games_0)) 1 (some h0_games_1)) 2 (some h0_games_2))))))), (h0_games_0, ce_Ga u.2.1), (h0_games_1, ce_Ga u.2.2.1), (h0_games_2, ce_Ga u41)]) [3, 0, 1, 2, 4] rfl
        have hD9 := hD.sub (ws' := [(h0, ce_Sc h0_balances h0_code h0_inbox h0_trueState h0_scratch h0_payments h0_proof h0_assertion h0_games u2), (h0_games, .inl (c0_games, 3, .inr (.inr (.inr (.inr (va_up (va_up (va_up (fun _ => none) 0 (some h0_games_0)) 1 (some h0_games_1)) 2 (some h0_games_2))))))), (h0_games_0, ce_Ga u.2.1), (h0_games_1, ce_Ga u.2.2.1), (h0_games_2, ce_Ga u41)]) [3, 0, 1, 2, 4] (by decide) rfl
        have hK9 := hK.sub (tys' := [(c0_games, (.object "StepCourt$Game"))]) [0] rfl
        exact W.lret (v := r40.toInt64) hx hb hr (fun t ht hW => ⟨⟨r40.toInt64, (u2, u.2.1, u.2.2.1, u41), rfl, hw, by rw [ht]; exact hP9, va_K.moved hW.alike hK9, hD9⟩, hS.F ht⟩) hS.2.2 dSc_game_112
      have hw := hw.2 cc39
      exfalso
      have q1 : ¬ k2.toInt < 0 := fun q => cc30 (Int32.lt_iff_toInt_lt.mpr (by rw [show (0 : Int32).toInt = 0 by decide]; exact q))
      have q2 : ¬ 7 < k2.toInt := fun q => cc31 (Int32.lt_iff_toInt_lt.mpr (by rw [show (7 : Int32).toInt = 7 by decide]; exact q))
      have qcc32 := lv_neT cc32 (show (0 : Int32).toInt = 0 by decide)
      have qcc33 := lv_neT cc33 (show (1 : Int32).toInt = 1 by decide)
      have qcc34 := lv_neT cc34 (show (2 : Int32).toInt = 2 by decide)
      have qcc35 := lv_neT cc35 (show (3 : Int32).toInt = 3 by decide)
      have qcc36 := lv_neT cc36 (show (4 : Int32).toInt = 4 by decide)
      have qcc37 := lv_neT cc37 (show (5 : Int32).toInt = 5 by decide)
      have qcc38 := lv_neT cc38 (show (6 : Int32).toInt = 6 by decide)
      have qcc39 := lv_neT cc39 (show (7 : Int32).toInt = 7 by decide)
      omega
  · have hw := hw.1 cc3
    refine lv_ldc2 (v := (-1)) hx hb hown (hq _ wt_424) dSc_game_8 ?_
    have hP9 := hP.sub (ws' := [(h0, ce_Sc h0_balances h0_code h0_inbox h0_trueState h0_scratch h0_payments h0_proof h0_assertion h0_games u2), (h0_games, .inl (c0_games, 3, .inr (.inr (.inr (.inr (va_up (va_up (va_up (fun _ => none) 0 (some h0_games_0)) 1 (some h0_games_1)) 2 (some h0_games_2))))))), (h0_games_0, ce_Ga u.2.1), (h0_games_1, ce_Ga u.2.2.1), (h0_games_2, ce_Ga u.2.2.2)]) [4, 0, 1, 2, 3] rfl
    have hD9 := hD.sub (ws' := [(h0, ce_Sc h0_balances h0_code h0_inbox h0_trueState h0_scratch h0_payments h0_proof h0_assertion h0_games u2), (h0_games, .inl (c0_games, 3, .inr (.inr (.inr (.inr (va_up (va_up (va_up (fun _ => none) 0 (some h0_games_0)) 1 (some h0_games_1)) 2 (some h0_games_2))))))), (h0_games_0, ce_Ga u.2.1), (h0_games_1, ce_Ga u.2.2.1), (h0_games_2, ce_Ga u.2.2.2)]) [4, 0, 1, 2, 3] (by decide) rfl
    have hK9 := hK.sub (tys' := [(c0_games, (.object "StepCourt$Game"))]) [0] rfl
    exact W.lret (v := (-1)) hx hb hr (fun t ht hW => ⟨⟨(-1), (u2, u.2.1, u.2.2.1, u.2.2.2), rfl, hw, by rw [ht]; exact hP9, va_K.moved hW.alike hK9, hD9⟩, hS.F ht⟩) hS.2.2 dSc_game_11
