theorem dSc_requireParty_0 : decode cSc_requireParty 0 = .ok (.iload_n 0, 1) := by decide +kernel
theorem dSc_requireParty_1 : decode cSc_requireParty 1 = .ok (.invokestatic 251, 3) := by decide +kernel
theorem dSc_requireParty_4 : decode cSc_requireParty 4 = .ok (.ifCond .ne 14, 3) := by decide +kernel
theorem dSc_requireParty_7 : decode cSc_requireParty 7 = .ok (.new 227, 3) := by decide +kernel
theorem dSc_requireParty_10 : decode cSc_requireParty 10 = .ok (.dup, 1) := by decide +kernel
theorem dSc_requireParty_11 : decode cSc_requireParty 11 = .ok (.ldc_w 302, 3) := by decide +kernel
theorem dSc_requireParty_14 : decode cSc_requireParty 14 = .ok (.invokespecial 231, 3) := by decide +kernel
theorem dSc_requireParty_17 : decode cSc_requireParty 17 = .ok (.athrow, 1) := by decide +kernel
theorem dSc_requireParty_18 : decode cSc_requireParty 18 = .ok (.return_, 1) := by decide +kernel
theorem dSc_takeStake_0 : decode cSc_takeStake 0 = .ok (.aload_n 0, 1) := by decide +kernel
theorem dSc_takeStake_1 : decode cSc_takeStake 1 = .ok (.getfield 9, 3) := by decide +kernel
theorem dSc_takeStake_4 : decode cSc_takeStake 4 = .ok (.iload_n 1, 1) := by decide +kernel
theorem dSc_takeStake_5 : decode cSc_takeStake 5 = .ok (.iaload, 1) := by decide +kernel
theorem dSc_takeStake_6 : decode cSc_takeStake 6 = .ok (.bipush 100, 2) := by decide +kernel
theorem dSc_takeStake_8 : decode cSc_takeStake 8 = .ok (.if_icmp .ge 14, 3) := by decide +kernel
theorem dSc_takeStake_11 : decode cSc_takeStake 11 = .ok (.new 98, 3) := by decide +kernel
theorem dSc_takeStake_14 : decode cSc_takeStake 14 = .ok (.dup, 1) := by decide +kernel
theorem dSc_takeStake_15 : decode cSc_takeStake 15 = .ok (.ldc_w 308, 3) := by decide +kernel
theorem dSc_takeStake_18 : decode cSc_takeStake 18 = .ok (.invokespecial 102, 3) := by decide +kernel
theorem dSc_takeStake_21 : decode cSc_takeStake 21 = .ok (.athrow, 1) := by decide +kernel
theorem dSc_takeStake_22 : decode cSc_takeStake 22 = .ok (.aload_n 0, 1) := by decide +kernel
theorem dSc_takeStake_23 : decode cSc_takeStake 23 = .ok (.getfield 9, 3) := by decide +kernel
theorem dSc_takeStake_26 : decode cSc_takeStake 26 = .ok (.iload_n 1, 1) := by decide +kernel
theorem dSc_takeStake_27 : decode cSc_takeStake 27 = .ok (.dup2, 1) := by decide +kernel
theorem dSc_takeStake_28 : decode cSc_takeStake 28 = .ok (.iaload, 1) := by decide +kernel
theorem dSc_takeStake_29 : decode cSc_takeStake 29 = .ok (.bipush 100, 2) := by decide +kernel
theorem dSc_takeStake_31 : decode cSc_takeStake 31 = .ok (.isub, 1) := by decide +kernel
theorem dSc_takeStake_32 : decode cSc_takeStake 32 = .ok (.iastore, 1) := by decide +kernel
theorem dSc_takeStake_33 : decode cSc_takeStake 33 = .ok (.return_, 1) := by decide +kernel
theorem dSc_gameWithDuty_0 : decode cSc_gameWithDuty 0 = .ok (.aload_n 0, 1) := by decide +kernel
theorem dSc_gameWithDuty_1 : decode cSc_gameWithDuty 1 = .ok (.iload_n 1, 1) := by decide +kernel
theorem dSc_gameWithDuty_2 : decode cSc_gameWithDuty 2 = .ok (.invokevirtual 290, 3) := by decide +kernel
theorem dSc_gameWithDuty_5 : decode cSc_gameWithDuty 5 = .ok (.ifCond .ne 14, 3) := by decide +kernel
theorem dSc_gameWithDuty_8 : decode cSc_gameWithDuty 8 = .ok (.new 227, 3) := by decide +kernel
theorem dSc_gameWithDuty_11 : decode cSc_gameWithDuty 11 = .ok (.dup, 1) := by decide +kernel
theorem dSc_gameWithDuty_12 : decode cSc_gameWithDuty 12 = .ok (.ldc_w 304, 3) := by decide +kernel
theorem dSc_gameWithDuty_15 : decode cSc_gameWithDuty 15 = .ok (.invokespecial 231, 3) := by decide +kernel
theorem dSc_gameWithDuty_18 : decode cSc_gameWithDuty 18 = .ok (.athrow, 1) := by decide +kernel
theorem dSc_gameWithDuty_19 : decode cSc_gameWithDuty 19 = .ok (.aload_n 0, 1) := by decide +kernel
theorem dSc_gameWithDuty_20 : decode cSc_gameWithDuty 20 = .ok (.getfield 60, 3) := by decide +kernel
theorem dSc_gameWithDuty_23 : decode cSc_gameWithDuty 23 = .ok (.iload_n 1, 1) := by decide +kernel
theorem dSc_gameWithDuty_24 : decode cSc_gameWithDuty 24 = .ok (.aaload, 1) := by decide +kernel
theorem dSc_gameWithDuty_25 : decode cSc_gameWithDuty 25 = .ok (.astore_n 3, 1) := by decide +kernel
theorem dSc_gameWithDuty_26 : decode cSc_gameWithDuty 26 = .ok (.aload_n 3, 1) := by decide +kernel
theorem dSc_gameWithDuty_27 : decode cSc_gameWithDuty 27 = .ok (.invokevirtual 299, 3) := by decide +kernel
theorem dSc_gameWithDuty_30 : decode cSc_gameWithDuty 30 = .ok (.iload_n 2, 1) := by decide +kernel
theorem dSc_gameWithDuty_31 : decode cSc_gameWithDuty 31 = .ok (.if_icmp .eq 14, 3) := by decide +kernel
theorem dSc_gameWithDuty_34 : decode cSc_gameWithDuty 34 = .ok (.new 118, 3) := by decide +kernel
theorem dSc_gameWithDuty_37 : decode cSc_gameWithDuty 37 = .ok (.dup, 1) := by decide +kernel
theorem dSc_gameWithDuty_38 : decode cSc_gameWithDuty 38 = .ok (.ldc_w 306, 3) := by decide +kernel
theorem dSc_gameWithDuty_41 : decode cSc_gameWithDuty 41 = .ok (.invokespecial 122, 3) := by decide +kernel
theorem dSc_gameWithDuty_44 : decode cSc_gameWithDuty 44 = .ok (.athrow, 1) := by decide +kernel
theorem dSc_gameWithDuty_45 : decode cSc_gameWithDuty 45 = .ok (.aload_n 3, 1) := by decide +kernel
theorem dSc_gameWithDuty_46 : decode cSc_gameWithDuty 46 = .ok (.areturn, 1) := by decide +kernel
theorem dSc_deposit_0 : decode cSc_deposit 0 = .ok (.iload_n 1, 1) := by decide +kernel
theorem dSc_deposit_1 : decode cSc_deposit 1 = .ok (.invokestatic 83, 3) := by decide +kernel
theorem dSc_deposit_4 : decode cSc_deposit 4 = .ok (.iload_n 2, 1) := by decide +kernel
theorem dSc_deposit_5 : decode cSc_deposit 5 = .ok (.iconst 1, 1) := by decide +kernel
theorem dSc_deposit_6 : decode cSc_deposit 6 = .ok (.if_icmp .ge 13, 3) := by decide +kernel
theorem dSc_deposit_9 : decode cSc_deposit 9 = .ok (.new 87, 3) := by decide +kernel
theorem dSc_deposit_12 : decode cSc_deposit 12 = .ok (.dup, 1) := by decide +kernel
theorem dSc_deposit_13 : decode cSc_deposit 13 = .ok (.ldc 89, 2) := by decide +kernel
theorem dSc_deposit_15 : decode cSc_deposit 15 = .ok (.invokespecial 91, 3) := by decide +kernel
theorem dSc_deposit_18 : decode cSc_deposit 18 = .ok (.athrow, 1) := by decide +kernel
theorem dSc_deposit_19 : decode cSc_deposit 19 = .ok (.aload_n 0, 1) := by decide +kernel
theorem dSc_deposit_20 : decode cSc_deposit 20 = .ok (.getfield 9, 3) := by decide +kernel
theorem dSc_deposit_23 : decode cSc_deposit 23 = .ok (.iload_n 1, 1) := by decide +kernel
theorem dSc_deposit_24 : decode cSc_deposit 24 = .ok (.iaload, 1) := by decide +kernel
theorem dSc_deposit_25 : decode cSc_deposit 25 = .ok (.iload_n 2, 1) := by decide +kernel
theorem dSc_deposit_26 : decode cSc_deposit 26 = .ok (.if_icmp .lt 14, 3) := by decide +kernel
theorem dSc_deposit_29 : decode cSc_deposit 29 = .ok (.aload_n 0, 1) := by decide +kernel
theorem dSc_deposit_30 : decode cSc_deposit 30 = .ok (.getfield 23, 3) := by decide +kernel
theorem dSc_deposit_33 : decode cSc_deposit 33 = .ok (.invokevirtual 94, 3) := by decide +kernel
theorem dSc_deposit_36 : decode cSc_deposit 36 = .ok (.iconst 3, 1) := by decide +kernel
theorem dSc_deposit_37 : decode cSc_deposit 37 = .ok (.if_icmp .ge 13, 3) := by decide +kernel
theorem dSc_deposit_40 : decode cSc_deposit 40 = .ok (.new 98, 3) := by decide +kernel
theorem dSc_deposit_43 : decode cSc_deposit 43 = .ok (.dup, 1) := by decide +kernel
theorem dSc_deposit_44 : decode cSc_deposit 44 = .ok (.ldc 100, 2) := by decide +kernel
theorem dSc_deposit_46 : decode cSc_deposit 46 = .ok (.invokespecial 102, 3) := by decide +kernel
theorem dSc_deposit_49 : decode cSc_deposit 49 = .ok (.athrow, 1) := by decide +kernel
theorem dSc_deposit_50 : decode cSc_deposit 50 = .ok (.aload_n 0, 1) := by decide +kernel
theorem dSc_deposit_51 : decode cSc_deposit 51 = .ok (.getfield 9, 3) := by decide +kernel
theorem dSc_deposit_54 : decode cSc_deposit 54 = .ok (.iload_n 1, 1) := by decide +kernel
theorem dSc_deposit_55 : decode cSc_deposit 55 = .ok (.dup2, 1) := by decide +kernel
theorem dSc_deposit_56 : decode cSc_deposit 56 = .ok (.iaload, 1) := by decide +kernel
theorem dSc_deposit_57 : decode cSc_deposit 57 = .ok (.iload_n 2, 1) := by decide +kernel
theorem dSc_deposit_58 : decode cSc_deposit 58 = .ok (.isub, 1) := by decide +kernel
theorem dSc_deposit_59 : decode cSc_deposit 59 = .ok (.iastore, 1) := by decide +kernel
theorem dSc_deposit_60 : decode cSc_deposit 60 = .ok (.aload_n 0, 1) := by decide +kernel
theorem dSc_deposit_61 : decode cSc_deposit 61 = .ok (.dup, 1) := by decide +kernel
theorem dSc_deposit_62 : decode cSc_deposit 62 = .ok (.getfield 103, 3) := by decide +kernel
theorem dSc_deposit_65 : decode cSc_deposit 65 = .ok (.iload_n 2, 1) := by decide +kernel
theorem dSc_deposit_66 : decode cSc_deposit 66 = .ok (.iadd, 1) := by decide +kernel
theorem dSc_deposit_67 : decode cSc_deposit 67 = .ok (.putfield 103, 3) := by decide +kernel
theorem dSc_deposit_70 : decode cSc_deposit 70 = .ok (.aload_n 0, 1) := by decide +kernel
theorem dSc_deposit_71 : decode cSc_deposit 71 = .ok (.getfield 23, 3) := by decide +kernel
theorem dSc_deposit_74 : decode cSc_deposit 74 = .ok (.iconst 1, 1) := by decide +kernel
theorem dSc_deposit_75 : decode cSc_deposit 75 = .ok (.invokevirtual 107, 3) := by decide +kernel
theorem dSc_deposit_78 : decode cSc_deposit 78 = .ok (.aload_n 0, 1) := by decide +kernel
theorem dSc_deposit_79 : decode cSc_deposit 79 = .ok (.getfield 23, 3) := by decide +kernel
theorem dSc_deposit_82 : decode cSc_deposit 82 = .ok (.iload_n 1, 1) := by decide +kernel
theorem dSc_deposit_83 : decode cSc_deposit 83 = .ok (.invokevirtual 107, 3) := by decide +kernel
theorem dSc_deposit_86 : decode cSc_deposit 86 = .ok (.aload_n 0, 1) := by decide +kernel
theorem dSc_deposit_87 : decode cSc_deposit 87 = .ok (.getfield 23, 3) := by decide +kernel
theorem dSc_deposit_90 : decode cSc_deposit 90 = .ok (.iload_n 2, 1) := by decide +kernel
theorem dSc_deposit_91 : decode cSc_deposit 91 = .ok (.invokevirtual 107, 3) := by decide +kernel
theorem dSc_deposit_94 : decode cSc_deposit 94 = .ok (.aload_n 0, 1) := by decide +kernel
theorem dSc_deposit_95 : decode cSc_deposit 95 = .ok (.getfield 23, 3) := by decide +kernel
theorem dSc_deposit_98 : decode cSc_deposit 98 = .ok (.getfield 110, 3) := by decide +kernel
theorem dSc_deposit_101 : decode cSc_deposit 101 = .ok (.ireturn, 1) := by decide +kernel
theorem dSc_send_0 : decode cSc_send 0 = .ok (.aload_n 0, 1) := by decide +kernel
theorem dSc_send_1 : decode cSc_send 1 = .ok (.getfield 23, 3) := by decide +kernel
theorem dSc_send_4 : decode cSc_send 4 = .ok (.invokevirtual 94, 3) := by decide +kernel
theorem dSc_send_7 : decode cSc_send 7 = .ok (.iconst 1, 1) := by decide +kernel
theorem dSc_send_8 : decode cSc_send 8 = .ok (.if_icmp .ge 13, 3) := by decide +kernel
theorem dSc_send_11 : decode cSc_send 11 = .ok (.new 98, 3) := by decide +kernel
theorem dSc_send_14 : decode cSc_send 14 = .ok (.dup, 1) := by decide +kernel
theorem dSc_send_15 : decode cSc_send 15 = .ok (.ldc 113, 2) := by decide +kernel
theorem dSc_send_17 : decode cSc_send 17 = .ok (.invokespecial 102, 3) := by decide +kernel
theorem dSc_send_20 : decode cSc_send 20 = .ok (.athrow, 1) := by decide +kernel
theorem dSc_send_21 : decode cSc_send 21 = .ok (.aload_n 0, 1) := by decide +kernel
theorem dSc_send_22 : decode cSc_send 22 = .ok (.getfield 23, 3) := by decide +kernel
theorem dSc_send_25 : decode cSc_send 25 = .ok (.iload_n 1, 1) := by decide +kernel
theorem dSc_send_26 : decode cSc_send 26 = .ok (.invokevirtual 107, 3) := by decide +kernel
theorem dSc_send_29 : decode cSc_send 29 = .ok (.aload_n 0, 1) := by decide +kernel
theorem dSc_send_30 : decode cSc_send 30 = .ok (.getfield 23, 3) := by decide +kernel
theorem dSc_send_33 : decode cSc_send 33 = .ok (.getfield 110, 3) := by decide +kernel
theorem dSc_send_36 : decode cSc_send 36 = .ok (.ireturn, 1) := by decide +kernel
theorem dSc_claim_0 : decode cSc_claim 0 = .ok (.iload_n 1, 1) := by decide +kernel
theorem dSc_claim_1 : decode cSc_claim 1 = .ok (.invokestatic 83, 3) := by decide +kernel
theorem dSc_claim_4 : decode cSc_claim 4 = .ok (.aload_n 0, 1) := by decide +kernel
theorem dSc_claim_5 : decode cSc_claim 5 = .ok (.getfield 54, 3) := by decide +kernel
theorem dSc_claim_8 : decode cSc_claim 8 = .ok (.getfield 115, 3) := by decide +kernel
theorem dSc_claim_11 : decode cSc_claim 11 = .ok (.ifCond .eq 13, 3) := by decide +kernel
theorem dSc_claim_14 : decode cSc_claim 14 = .ok (.new 118, 3) := by decide +kernel
theorem dSc_claim_17 : decode cSc_claim 17 = .ok (.dup, 1) := by decide +kernel
theorem dSc_claim_18 : decode cSc_claim 18 = .ok (.ldc 120, 2) := by decide +kernel
theorem dSc_claim_20 : decode cSc_claim 20 = .ok (.invokespecial 122, 3) := by decide +kernel
theorem dSc_claim_23 : decode cSc_claim 23 = .ok (.athrow, 1) := by decide +kernel
theorem dSc_claim_24 : decode cSc_claim 24 = .ok (.iload_n 2, 1) := by decide +kernel
theorem dSc_claim_25 : decode cSc_claim 25 = .ok (.iconst 1, 1) := by decide +kernel
theorem dSc_claim_26 : decode cSc_claim 26 = .ok (.if_icmp .lt 9, 3) := by decide +kernel
theorem dSc_claim_29 : decode cSc_claim 29 = .ok (.iload_n 2, 1) := by decide +kernel
theorem dSc_claim_30 : decode cSc_claim 30 = .ok (.bipush 64, 2) := by decide +kernel
theorem dSc_claim_32 : decode cSc_claim 32 = .ok (.if_icmp .le 13, 3) := by decide +kernel
theorem dSc_claim_35 : decode cSc_claim 35 = .ok (.new 87, 3) := by decide +kernel
theorem dSc_claim_38 : decode cSc_claim 38 = .ok (.dup, 1) := by decide +kernel
theorem dSc_claim_39 : decode cSc_claim 39 = .ok (.ldc 123, 2) := by decide +kernel
theorem dSc_claim_41 : decode cSc_claim 41 = .ok (.invokespecial 91, 3) := by decide +kernel
theorem dSc_claim_44 : decode cSc_claim 44 = .ok (.athrow, 1) := by decide +kernel
theorem dSc_claim_45 : decode cSc_claim 45 = .ok (.aload_n 0, 1) := by decide +kernel
theorem dSc_claim_46 : decode cSc_claim 46 = .ok (.iload_n 1, 1) := by decide +kernel
theorem dSc_claim_47 : decode cSc_claim 47 = .ok (.invokevirtual 125, 3) := by decide +kernel
theorem dSc_claim_50 : decode cSc_claim 50 = .ok (.aload_n 0, 1) := by decide +kernel
theorem dSc_claim_51 : decode cSc_claim 51 = .ok (.getfield 54, 3) := by decide +kernel
theorem dSc_claim_54 : decode cSc_claim 54 = .ok (.iload_n 1, 1) := by decide +kernel
theorem dSc_claim_55 : decode cSc_claim 55 = .ok (.iload_n 2, 1) := by decide +kernel
theorem dSc_claim_56 : decode cSc_claim 56 = .ok (.aload_n 0, 1) := by decide +kernel
theorem dSc_claim_57 : decode cSc_claim 57 = .ok (.getfield 23, 3) := by decide +kernel
theorem dSc_claim_60 : decode cSc_claim 60 = .ok (.getfield 110, 3) := by decide +kernel
theorem dSc_claim_63 : decode cSc_claim 63 = .ok (.aload_n 0, 1) := by decide +kernel
theorem dSc_claim_64 : decode cSc_claim 64 = .ok (.getfield 128, 3) := by decide +kernel
theorem dSc_claim_67 : decode cSc_claim 67 = .ok (.invokevirtual 131, 3) := by decide +kernel
theorem dSc_claim_70 : decode cSc_claim 70 = .ok (.aload_n 0, 1) := by decide +kernel
theorem dSc_claim_71 : decode cSc_claim 71 = .ok (.getfield 54, 3) := by decide +kernel
theorem dSc_claim_74 : decode cSc_claim 74 = .ok (.aload_n 0, 1) := by decide +kernel
theorem dSc_claim_75 : decode cSc_claim 75 = .ok (.iload_n 2, 1) := by decide +kernel
theorem dSc_claim_76 : decode cSc_claim 76 = .ok (.invokevirtual 135, 3) := by decide +kernel
theorem dSc_claim_79 : decode cSc_claim 79 = .ok (.lload_n 3, 1) := by decide +kernel
theorem dSc_claim_80 : decode cSc_claim 80 = .ok (.lxor, 1) := by decide +kernel
theorem dSc_claim_81 : decode cSc_claim 81 = .ok (.putfield 139, 3) := by decide +kernel
theorem dSc_claim_84 : decode cSc_claim 84 = .ok (.aload_n 0, 1) := by decide +kernel
theorem dSc_claim_85 : decode cSc_claim 85 = .ok (.getfield 54, 3) := by decide +kernel
theorem dSc_claim_88 : decode cSc_claim 88 = .ok (.getfield 139, 3) := by decide +kernel
theorem dSc_claim_91 : decode cSc_claim 91 = .ok (.lreturn, 1) := by decide +kernel
theorem dSc_challenge_0 : decode cSc_challenge 0 = .ok (.iload_n 1, 1) := by decide +kernel
theorem dSc_challenge_1 : decode cSc_challenge 1 = .ok (.invokestatic 83, 3) := by decide +kernel
theorem dSc_challenge_4 : decode cSc_challenge 4 = .ok (.aload_n 0, 1) := by decide +kernel
theorem dSc_challenge_5 : decode cSc_challenge 5 = .ok (.getfield 54, 3) := by decide +kernel
theorem dSc_challenge_8 : decode cSc_challenge 8 = .ok (.getfield 115, 3) := by decide +kernel
theorem dSc_challenge_11 : decode cSc_challenge 11 = .ok (.ifCond .eq 30, 3) := by decide +kernel
theorem dSc_challenge_14 : decode cSc_challenge 14 = .ok (.iload_n 1, 1) := by decide +kernel
theorem dSc_challenge_15 : decode cSc_challenge 15 = .ok (.aload_n 0, 1) := by decide +kernel
theorem dSc_challenge_16 : decode cSc_challenge 16 = .ok (.getfield 54, 3) := by decide +kernel
theorem dSc_challenge_19 : decode cSc_challenge 19 = .ok (.getfield 142, 3) := by decide +kernel
theorem dSc_challenge_22 : decode cSc_challenge 22 = .ok (.if_icmp .eq 19, 3) := by decide +kernel
theorem dSc_challenge_25 : decode cSc_challenge 25 = .ok (.aload_n 0, 1) := by decide +kernel
theorem dSc_challenge_26 : decode cSc_challenge 26 = .ok (.iload_n 1, 1) := by decide +kernel
theorem dSc_challenge_27 : decode cSc_challenge 27 = .ok (.invokevirtual 145, 3) := by decide +kernel
theorem dSc_challenge_30 : decode cSc_challenge 30 = .ok (.ifCond .ne 11, 3) := by decide +kernel
theorem dSc_challenge_33 : decode cSc_challenge 33 = .ok (.aload_n 0, 1) := by decide +kernel
theorem dSc_challenge_34 : decode cSc_challenge 34 = .ok (.getfield 149, 3) := by decide +kernel
theorem dSc_challenge_37 : decode cSc_challenge 37 = .ok (.iconst 3, 1) := by decide +kernel
theorem dSc_challenge_38 : decode cSc_challenge 38 = .ok (.if_icmp .lt 13, 3) := by decide +kernel
theorem dSc_challenge_41 : decode cSc_challenge 41 = .ok (.new 118, 3) := by decide +kernel
theorem dSc_challenge_44 : decode cSc_challenge 44 = .ok (.dup, 1) := by decide +kernel
theorem dSc_challenge_45 : decode cSc_challenge 45 = .ok (.ldc 152, 2) := by decide +kernel
theorem dSc_challenge_47 : decode cSc_challenge 47 = .ok (.invokespecial 122, 3) := by decide +kernel
theorem dSc_challenge_50 : decode cSc_challenge 50 = .ok (.athrow, 1) := by decide +kernel
theorem dSc_challenge_51 : decode cSc_challenge 51 = .ok (.aload_n 0, 1) := by decide +kernel
theorem dSc_challenge_52 : decode cSc_challenge 52 = .ok (.iload_n 1, 1) := by decide +kernel
theorem dSc_challenge_53 : decode cSc_challenge 53 = .ok (.invokevirtual 125, 3) := by decide +kernel
theorem dSc_challenge_56 : decode cSc_challenge 56 = .ok (.aload_n 0, 1) := by decide +kernel
theorem dSc_challenge_57 : decode cSc_challenge 57 = .ok (.getfield 60, 3) := by decide +kernel
theorem dSc_challenge_60 : decode cSc_challenge 60 = .ok (.aload_n 0, 1) := by decide +kernel
theorem dSc_challenge_61 : decode cSc_challenge 61 = .ok (.getfield 149, 3) := by decide +kernel
theorem dSc_challenge_64 : decode cSc_challenge 64 = .ok (.aaload, 1) := by decide +kernel
theorem dSc_challenge_65 : decode cSc_challenge 65 = .ok (.astore_n 2, 1) := by decide +kernel
theorem dSc_challenge_66 : decode cSc_challenge 66 = .ok (.aload_n 2, 1) := by decide +kernel
theorem dSc_challenge_67 : decode cSc_challenge 67 = .ok (.iload_n 1, 1) := by decide +kernel
theorem dSc_challenge_68 : decode cSc_challenge 68 = .ok (.aload_n 0, 1) := by decide +kernel
theorem dSc_challenge_69 : decode cSc_challenge 69 = .ok (.getfield 54, 3) := by decide +kernel
theorem dSc_challenge_72 : decode cSc_challenge 72 = .ok (.getfield 154, 3) := by decide +kernel
theorem dSc_challenge_75 : decode cSc_challenge 75 = .ok (.aload_n 0, 1) := by decide +kernel
theorem dSc_challenge_76 : decode cSc_challenge 76 = .ok (.getfield 69, 3) := by decide +kernel
theorem dSc_challenge_79 : decode cSc_challenge 79 = .ok (.aload_n 0, 1) := by decide +kernel
theorem dSc_challenge_80 : decode cSc_challenge 80 = .ok (.getfield 54, 3) := by decide +kernel
theorem dSc_challenge_83 : decode cSc_challenge 83 = .ok (.getfield 139, 3) := by decide +kernel
theorem dSc_challenge_86 : decode cSc_challenge 86 = .ok (.invokevirtual 157, 3) := by decide +kernel
theorem dSc_challenge_89 : decode cSc_challenge 89 = .ok (.aload_n 2, 1) := by decide +kernel
theorem dSc_challenge_90 : decode cSc_challenge 90 = .ok (.aload_n 0, 1) := by decide +kernel
theorem dSc_challenge_91 : decode cSc_challenge 91 = .ok (.getfield 128, 3) := by decide +kernel
theorem dSc_challenge_94 : decode cSc_challenge 94 = .ok (.invokevirtual 161, 3) := by decide +kernel
theorem dSc_challenge_97 : decode cSc_challenge 97 = .ok (.aload_n 0, 1) := by decide +kernel
theorem dSc_challenge_98 : decode cSc_challenge 98 = .ok (.dup, 1) := by decide +kernel
theorem dSc_challenge_99 : decode cSc_challenge 99 = .ok (.getfield 149, 3) := by decide +kernel
theorem dSc_challenge_102 : decode cSc_challenge 102 = .ok (.iconst 1, 1) := by decide +kernel
theorem dSc_challenge_103 : decode cSc_challenge 103 = .ok (.iadd, 1) := by decide +kernel
theorem dSc_challenge_104 : decode cSc_challenge 104 = .ok (.putfield 149, 3) := by decide +kernel
theorem dSc_challenge_107 : decode cSc_challenge 107 = .ok (.aload_n 0, 1) := by decide +kernel
theorem dSc_challenge_108 : decode cSc_challenge 108 = .ok (.getfield 149, 3) := by decide +kernel
theorem dSc_challenge_111 : decode cSc_challenge 111 = .ok (.iconst 1, 1) := by decide +kernel
theorem dSc_challenge_112 : decode cSc_challenge 112 = .ok (.isub, 1) := by decide +kernel
theorem dSc_challenge_113 : decode cSc_challenge 113 = .ok (.ireturn, 1) := by decide +kernel
abbrev ww_Sc_requireParty (u : Unit) : va_W := []
def wp_Sc_requireParty (post : Unit → Unit → Prop) (px : String → Unit → Prop) (u : Unit) (k0 : Int32) : Prop := wp_Sc_isParty (fun r1 u2 => (((r1 = 0 → (px "java/lang/IndexOutOfBoundsException" ())) ∧ (¬ r1 = 0 → (post () ()))))) () k0 
set_option maxHeartbeats 4000000 in
set_option maxRecDepth 100000 in
theorem mt_Sc_requireParty (l : Launch) (hl9 : l.stackTraces = false) (dC : Nat → ClassId) (dI : Nat → Nat → Nat) (sz : Nat) (post : Unit → Unit → Prop) (px : String → Unit → Prop) (u : Unit) (k0 : Int32) (hw : wp_Sc_requireParty post px u k0) : tx_Met l ySc_requireParty wsSc_requireParty ({ frames := 6, cells := 1, slots := 6, locals := 82 }) (kx_P dC dI [.int k0] sz (ww_Sc_requireParty u) []) (tx_Q tx_v post px (fun u9 => kp_B dC dI (va_A (ww_Sc_requireParty u) sz) (ww_Sc_requireParty u9) []) (va_A (ww_Sc_requireParty u) sz)) 1 6 (va_A (ww_Sc_requireParty u) sz) := by
  refine tx_ofW (cc := cSc_requireParty) (maxL := 1) (ret := none) (by decide) rfl ?_
  intro p e s m args below meth c s₁ B hml hTab hv
  obtain ⟨rfl, hsz, hP, hK, hD0, hZ, hT9⟩ := hv
  have hx := B.exec
  have hb := B.bytes
  have hr := B.returns
  have hq : ∀ w ∈ wz, w.before _ s = true := fun w h => atoms_spec (ws := wsSc_requireParty) B.pre w (List.mem_cons_of_mem _ h)
  have hown : s.vm.findClass "StepCourt" = some m.cls := findClass_of_methodNamed B.named
  have hlocks := B.notSynchronized
  subst hsz
  have hD := hD0.self (sz := s.heap.size)
  generalize hAe : va_A (ww_Sc_requireParty u) s.heap.size = A at hD hT9 ⊢
  have hA : ∀ q : Nat, s.heap.size ≤ q → A q := fun q h => by rw [← hAe]; exact Or.inr h
  have hS : va_S A s.heap s.heap [] := va_S.rf
  have hP : va_P (dC, dI) vwCl [] s.heap := hP
  have hD : va_D A [] := hD
  have hl := lv_entry ([.int k0]) (n := 1) (Nat.le_of_ble_eq_true rfl)
  rw [lg_entry_eq]
  generalize (lg_sl ([.int k0]) ++ List.replicate (1 - (lg_sl ([.int k0])).length) Slot.unset).toArray = ls at hl ⊢
  have hl : lv_has ls 1 [(0, .int k0)] := hl
  skip
  refine lv_iload_n hx hb dSc_requireParty_0 rfl (lv_at hl 0 rfl) ?_
  have hPc := hP.sub (ws' := []) [] rfl
  have hDc := hD.sub (ws' := []) [] (by decide) rfl
  have hKc := hK.sub (tys' := []) [] rfl
  have hFc := va_free (wc := []) hD hS hA [] rfl
  refine va_calli (va_runS (As := [.int k0]) (rest := []) ⟨hx, hb, hml, hown, hq⟩ (mt_Sc_isParty l dC dI s.heap.size _ () k0 hw) ⟨cq_B 1 hq wt_320 wt_318 wt_1 rfl rfl hd_Sc_isParty ⟨Nat.le_of_ble_eq_true rfl, Nat.le_of_ble_eq_true rfl⟩, (hq _ wt_319)⟩ ⟨kp_bl, kp_at hPc hKc hDc hZ⟩ rfl rfl hl.1 rfl (lv_room (Nat.le_of_ble_eq_true rfl)) dSc_requireParty_1 ⟨(by decide), (by decide)⟩) hS (fun q _ h => hFc q h) hFc (fun r1 u2 t H1 locs ht hvm hw hB hz1 hk1 hS => ?_)
  obtain ⟨hP1, hK1, hD1⟩ := hB
  rw [ht] at hP1
  have hK1 := va_K.moved hvm.symm hK1
  obtain ⟨hP, hD⟩ := va_join (wr := []) (w1 := []) hP hD [] [] rfl rfl (by decide) (by decide) hk1 hFc hP1 hD1
  have hK := (hK.sub (tys' := []) [] rfl).app hK1
  generalize H1 = H at hP hS ⊢
  have hP : va_P (dC, dI) vwCl [] H := hP
  have hD : va_D A [] := hD
  have hK : va_K (dC, dI) vwCl [] s := hK
  refine lv_if_ne (tgt := 18) hx hb dSc_requireParty_4 (by decide) (fun cc3 => ?_) (fun cc3 => ?_)
  · have hw := hw.2 cc3
    refine tx_ret (Q1 := tx_Q tx_v post px (fun u9 => kp_B dC dI A (ww_Sc_requireParty u9) []) A) (fun _ _ h => h) ?_
    have hP9 := hP.sub (ws' := []) [] rfl
    have hD9 := hD.sub (ws' := []) [] (by decide) rfl
    have hK9 := hK.sub (tys' := []) [] rfl
    refine W.widen (k := 1) (n := 6) (by decide) (by decide) ?_
    exact W.vret hx hb hr (fun t ht hW => ⟨Or.inl ⟨(), (), rfl, hw, by rw [ht]; exact hP9, va_K.moved hW.alike hK9, hD9⟩, hS.F ht⟩) hS.2.2 dSc_requireParty_18
  · have hw := hw.1 cc3
    have hP9 := hP.sub (ws' := []) [] rfl
    have hD9 := hD.sub (ws' := []) [] (by decide) rfl
    have hK9 := hK.sub (tys' := []) [] rfl
    obtain ⟨sa, hstr⟩ := hZ.2.2.1 _ (List.mem_of_getElem? (i := 0) rfl)
    exact tx_throwW (own := "StepCourt") (cls := "java/lang/IndexOutOfBoundsException") (names := ["java/lang/RuntimeException", "java/lang/Exception"]) (A := A) hx hb hl9 hown (by decide +kernel) (by decide +kernel) oa_231 hq wt_446 wt_14 hZ hstr hT9 hS (by rw [hml]; exact hl.1) dSc_requireParty_7 dSc_requireParty_10 dSc_requireParty_11 dSc_requireParty_14 dSc_requireParty_17 hTab hlocks (by decide) (by decide) (by decide) (by decide) (fun t ce q ha hz1 hk1 hce hcv hcl => ⟨Or.inr ⟨q, _, ce, (), rfl, hw, ⟨hP9.kept (fun k q hk => hk1 q.1 (hP9 k q hk).lt), va_K.moved ha hK9, hD9⟩, hce, hcv, hcl⟩, Nat.le_trans hS.1 hz1, fun z h1 h2 => (hk1 z (Nat.lt_of_lt_of_le h1 hS.1)).trans (hS.2.1 z h1 h2)⟩) hS.2.2 (by decide) (by decide)
abbrev ww_Sc_takeStake (h0 h0_balances h0_code h0_inbox h0_trueState h0_scratch h0_payments h0_proof h0_assertion h0_games : Nat) (c0_balances : ClassId) (u : ct_Sc × (Nat → Int32)) : va_W := [(h0, ce_Sc h0_balances h0_code h0_inbox h0_trueState h0_scratch h0_payments h0_proof h0_assertion h0_games u.1), (h0_balances, .inl (c0_balances, 4, .inl u.2))]
def wp_Sc_takeStake (post : Unit → (ct_Sc × (Nat → Int32)) → Prop) (px : String → (ct_Sc × (Nat → Int32)) → Prop) (u : ct_Sc × (Nat → Int32)) (k1 : Int32) : Prop := vp_in k1 4 ∧ (((100 ≤ (u.2 k1.toNatClampNeg) → (vp_in k1 4 ∧ (∀ f4 : Int32, f4 = ((u.2 k1.toNatClampNeg) - 100) → (vp_in k1 4 ∧ (post () (u.1, (upd u.2 k1.toNatClampNeg f4))))))) ∧ (¬ 100 ≤ (u.2 k1.toNatClampNeg) → (px "java/lang/UnsupportedOperationException" (u.1, u.2)))))
set_option maxHeartbeats 4000000 in
set_option maxRecDepth 100000 in
theorem mt_Sc_takeStake (l : Launch) (hl9 : l.stackTraces = false) (dC : Nat → ClassId) (dI : Nat → Nat → Nat) (h0 h0_balances h0_code h0_inbox h0_trueState h0_scratch h0_payments h0_proof h0_assertion h0_games : Nat) (c0_balances : ClassId) (sz : Nat) (post : Unit → (ct_Sc × (Nat → Int32)) → Prop) (px : String → (ct_Sc × (Nat → Int32)) → Prop) (u : ct_Sc × (Nat → Int32)) (k1 : Int32) (hw : wp_Sc_takeStake post px u k1) : tx_Met l ySc_takeStake wsSc_takeStake ({ frames := 6, cells := 1, slots := 6, locals := 82 }) (kx_P dC dI [.ref h0, .int k1] sz (ww_Sc_takeStake h0 h0_balances h0_code h0_inbox h0_trueState h0_scratch h0_payments h0_proof h0_assertion h0_games c0_balances u) [(c0_balances, .int)]) (tx_Q tx_v post px (fun u9 => kp_B dC dI (va_A (ww_Sc_takeStake h0 h0_balances h0_code h0_inbox h0_trueState h0_scratch h0_payments h0_proof h0_assertion h0_games c0_balances u) sz) (ww_Sc_takeStake h0 h0_balances h0_code h0_inbox h0_trueState h0_scratch h0_payments h0_proof h0_assertion h0_games c0_balances u9) [(c0_balances, .int)]) (va_A (ww_Sc_takeStake h0 h0_balances h0_code h0_inbox h0_trueState h0_scratch h0_payments h0_proof h0_assertion h0_games c0_balances u) sz)) 1 6 (va_A (ww_Sc_takeStake h0 h0_balances h0_code h0_inbox h0_trueState h0_scratch h0_payments h0_proof h0_assertion h0_games c0_balances u) sz) := by
  refine tx_ofW (cc := cSc_takeStake) (maxL := 2) (ret := none) (by decide) rfl ?_
  intro p e s m args below meth c s₁ B hml hTab hv
  obtain ⟨rfl, hsz, hP, hK, hD0, hZ, hT9⟩ := hv
  have hx := B.exec
  have hb := B.bytes
  have hr := B.returns
  have hq : ∀ w ∈ wz, w.before _ s = true := fun w h => atoms_spec (ws := wsSc_takeStake) B.pre w (List.mem_cons_of_mem _ h)
  have hown : s.vm.findClass "StepCourt" = some m.cls := findClass_of_methodNamed B.named
  have hlocks := B.notSynchronized
  subst hsz
  have hD := hD0.self (sz := s.heap.size)
  generalize hAe : va_A (ww_Sc_takeStake h0 h0_balances h0_code h0_inbox h0_trueState h0_scratch h0_payments h0_proof h0_assertion h0_games c0_balances u) s.heap.size = A at hD hT9 ⊢
  have hA : ∀ q : Nat, s.heap.size ≤ q → A q := fun q h => by rw [← hAe]; exact Or.inr h
  have hS : va_S A s.heap s.heap [] := va_S.rf
  have hP : va_P (dC, dI) vwCl [(h0, ce_Sc h0_balances h0_code h0_inbox h0_trueState h0_scratch h0_payments h0_proof h0_assertion h0_games u.1), (h0_balances, .inl (c0_balances, 4, .inl u.2))] s.heap := hP
  have hD : va_D A [(h0, ce_Sc h0_balances h0_code h0_inbox h0_trueState h0_scratch h0_payments h0_proof h0_assertion h0_games u.1), (h0_balances, .inl (c0_balances, 4, .inl u.2))] := hD
  have hl := lv_entry ([.ref h0, .int k1]) (n := 2) (Nat.le_of_ble_eq_true rfl)
  rw [lg_entry_eq]
  generalize (lg_sl ([.ref h0, .int k1]) ++ List.replicate (2 - (lg_sl ([.ref h0, .int k1])).length) Slot.unset).toArray = ls at hl ⊢
  have hl : lv_has ls 2 [(0, .ref h0), (1, .int k1)] := hl
  skip
  refine lv_aload_n hx hb dSc_takeStake_0 rfl (lv_at hl 0 rfl) ?_
  refine va_get (D := (dC, dI)) (ci := 7) (v := .ref h0_balances) (C := "StepCourt") (T := TSc) (N := 13) hx hb hq inSc hown hK hP 0 rfl rfl 0 (by decide) (hq _ wt_254) (fun _ h9 => h9) rfl dSc_takeStake_1 ?_
  refine lv_iload_n hx hb dSc_takeStake_4 rfl (lv_at hl 1 rfl) ?_
  obtain ⟨hh1, hw⟩ := hw
  refine va_iald hx hb hK hP 1 0 rfl rfl hh1 dSc_takeStake_5 ?_
  refine lv_bipush (v := 100) hx hb dSc_takeStake_6 (by decide) ?_
  refine lv_icmp_ge (tgt := 22) hx hb dSc_takeStake_8 (by decide) (fun cc2 => ?_) (fun cc2 => ?_)
  · have hw := hw.1 cc2
    refine lv_aload_n hx hb dSc_takeStake_22 rfl (lv_at hl 0 rfl) ?_
    refine va_get (D := (dC, dI)) (ci := 7) (v := .ref h0_balances) (C := "StepCourt") (T := TSc) (N := 13) hx hb hq inSc hown hK hP 0 rfl rfl 0 (by decide) (hq _ wt_254) (fun _ h9 => h9) rfl dSc_takeStake_23 ?_
    refine lv_iload_n hx hb dSc_takeStake_26 rfl (lv_at hl 1 rfl) ?_
    refine lv_dup2_11 hx hb dSc_takeStake_27 rfl rfl ?_
    obtain ⟨hh3, hw⟩ := hw
    refine va_iald hx hb hK hP 1 0 rfl rfl hh3 dSc_takeStake_28 ?_
    refine lv_bipush (v := 100) hx hb dSc_takeStake_29 (by decide) ?_
    refine lv_isub hx hb dSc_takeStake_31 ?_
    refine lv_topi (fun f4 ef4 => ?_)
    have hw := hw f4 ef4
    obtain ⟨hh5, hw⟩ := hw
    refine va_iast hx hb hK hP hD hS 1 0 rfl rfl hh5 dSc_takeStake_32 (fun H locs hP hD hS => ?_)
    have hP : va_P (dC, dI) vwCl [(h0, ce_Sc h0_balances h0_code h0_inbox h0_trueState h0_scratch h0_payments h0_proof h0_assertion h0_games u.1), (h0_balances, .inl (c0_balances, 4, .inl (upd u.2 k1.toNatClampNeg f4)))] H := hP
    have hD : va_D A [(h0, ce_Sc h0_balances h0_code h0_inbox h0_trueState h0_scratch h0_payments h0_proof h0_assertion h0_games u.1), (h0_balances, .inl (c0_balances, 4, .inl (upd u.2 k1.toNatClampNeg f4)))] := hD
    refine tx_ret (Q1 := tx_Q tx_v post px (fun u9 => kp_B dC dI A (ww_Sc_takeStake h0 h0_balances h0_code h0_inbox h0_trueState h0_scratch h0_payments h0_proof h0_assertion h0_games c0_balances u9) [(c0_balances, .int)]) A) (fun _ _ h => h) ?_
    have hP9 := hP.sub (ws' := [(h0, ce_Sc h0_balances h0_code h0_inbox h0_trueState h0_scratch h0_payments h0_proof h0_assertion h0_games u.1), (h0_balances, .inl (c0_balances, 4, .inl (upd u.2 k1.toNatClampNeg f4)))]) [0, 1] rfl
    have hD9 := hD.sub (ws' := [(h0, ce_Sc h0_balances h0_code h0_inbox h0_trueState h0_scratch h0_payments h0_proof h0_assertion h0_games u.1), (h0_balances, .inl (c0_balances, 4, .inl (upd u.2 k1.toNatClampNeg f4)))]) [0, 1] (by decide) rfl
    have hK9 := hK.sub (tys' := [(c0_balances, .int)]) [0] rfl
    refine W.widen (k := 1) (n := 6) (by decide) (by decide) ?_
    exact W.vret hx hb hr (fun t ht hW => ⟨Or.inl ⟨(), (u.1, (upd u.2 k1.toNatClampNeg f4)), rfl, hw, by rw [ht]; exact hP9, va_K.moved hW.alike hK9, hD9⟩, hS.F ht⟩) hS.2.2 dSc_takeStake_33
  · have hw := hw.2 cc2
    have hP9 := hP.sub (ws' := [(h0, ce_Sc h0_balances h0_code h0_inbox h0_trueState h0_scratch h0_payments h0_proof h0_assertion h0_games u.1), (h0_balances, .inl (c0_balances, 4, .inl u.2))]) [0, 1] rfl
    have hD9 := hD.sub (ws' := [(h0, ce_Sc h0_balances h0_code h0_inbox h0_trueState h0_scratch h0_payments h0_proof h0_assertion h0_games u.1), (h0_balances, .inl (c0_balances, 4, .inl u.2))]) [0, 1] (by decide) rfl
    have hK9 := hK.sub (tys' := [(c0_balances, .int)]) [0] rfl
    obtain ⟨sa, hstr⟩ := hZ.2.2.1 _ (List.mem_of_getElem? (i := 6) rfl)
    exact tx_throwW (own := "StepCourt") (cls := "java/lang/UnsupportedOperationException") (names := ["java/lang/RuntimeException", "java/lang/Exception"]) (A := A) hx hb hl9 hown (by decide +kernel) (by decide +kernel) oa_102 hq wt_535 wt_16 hZ hstr hT9 hS (by rw [hml]; exact hl.1) dSc_takeStake_11 dSc_takeStake_14 dSc_takeStake_15 dSc_takeStake_18 dSc_takeStake_21 hTab hlocks (by decide) (by decide) (by decide) (by decide) (fun t ce q ha hz1 hk1 hce hcv hcl => ⟨Or.inr ⟨q, _, ce, (u.1, u.2), rfl, hw, ⟨hP9.kept (fun k q hk => hk1 q.1 (hP9 k q hk).lt), va_K.moved ha hK9, hD9⟩, hce, hcv, hcl⟩, Nat.le_trans hS.1 hz1, fun z h1 h2 => (hk1 z (Nat.lt_of_lt_of_le h1 hS.1)).trans (hS.2.1 z h1 h2)⟩) hS.2.2 (by decide) (by decide)
abbrev ww_Sc_gameWithDuty (h0 h0_games h0_games_0 h0_games_1 h0_games_2 h0_balances h0_code h0_inbox h0_trueState h0_scratch h0_payments h0_proof h0_assertion : Nat) (c0_games : ClassId) (u : ct_Sc × ct_Ga × ct_Ga × ct_Ga) : va_W := [(h0, ce_Sc h0_balances h0_code h0_inbox h0_trueState h0_scratch h0_payments h0_proof h0_assertion h0_games u.1), (h0_games, .inl (c0_games, 3, .inr (.inr (.inr (.inr (va_up (va_up (va_up (fun _ => none) 0 (some h0_games_0)) 1 (some h0_games_1)) 2 (some h0_games_2))))))), (h0_games_0, ce_Ga u.2.1), (h0_games_1, ce_Ga u.2.2.1), (h0_games_2, ce_Ga u.2.2.2)]
def wp_Sc_gameWithDuty (post : Nat → (ct_Sc × ct_Ga × ct_Ga × ct_Ga) → Prop) (px : String → (ct_Sc × ct_Ga × ct_Ga × ct_Ga) → Prop) (u : ct_Sc × ct_Ga × ct_Ga × ct_Ga) (k1 : Int32) (k2 : Int32) : Prop := wp_Sc_isGame (fun r1 u2 => (((r1 = 0 → (px "java/lang/IndexOutOfBoundsException" (u2, u.2.1, u.2.2.1, u.2.2.2))) ∧ (¬ r1 = 0 → (vp_in k1 3 ∧ (((k1.toNatClampNeg = 0 → (wp_Ga_duty (fun r6 u7 => (((r6 = k2 → (post 0 (u2, u7, u.2.2.1, u.2.2.2))) ∧ (¬ r6 = k2 → (px "java/lang/IllegalStateException" (u2, u7, u.2.2.1, u.2.2.2)))))) u.2.1 )) ∧ (k1.toNatClampNeg = 1 → (wp_Ga_duty (fun r9 u10 => (((r9 = k2 → (post 1 (u2, u.2.1, u10, u.2.2.2))) ∧ (¬ r9 = k2 → (px "java/lang/IllegalStateException" (u2, u.2.1, u10, u.2.2.2)))))) u.2.2.1 )) ∧ (k1.toNatClampNeg = 2 → (wp_Ga_duty (fun r12 u13 => (((r12 = k2 → (post 2 (u2, u.2.1, u.2.2.1, u13))) ∧ (¬ r12 = k2 → (px "java/lang/IllegalStateException" (u2, u.2.1, u.2.2.1, u13)))))) u.2.2.2 ))))))))) u.1 k1 
set_option maxHeartbeats 4000000 in
set_option maxRecDepth 100000 in
theorem mt_Sc_gameWithDuty (l : Launch) (hl9 : l.stackTraces = false) (dC : Nat → ClassId) (dI : Nat → Nat → Nat) (h0 h0_games h0_games_0 h0_games_1 h0_games_2 h0_balances h0_code h0_inbox h0_trueState h0_scratch h0_payments h0_proof h0_assertion : Nat) (c0_games : ClassId) (sz : Nat) (post : Nat → (ct_Sc × ct_Ga × ct_Ga × ct_Ga) → Prop) (px : String → (ct_Sc × ct_Ga × ct_Ga × ct_Ga) → Prop) (u : ct_Sc × ct_Ga × ct_Ga × ct_Ga) (k1 : Int32) (k2 : Int32) (hw : wp_Sc_gameWithDuty post px u k1 k2) : tx_Met l ySc_gameWithDuty wsSc_gameWithDuty ({ frames := 6, cells := 1, slots := 6, locals := 82 }) (kx_P dC dI [.ref h0, .int k1, .int k2] sz (ww_Sc_gameWithDuty h0 h0_games h0_games_0 h0_games_1 h0_games_2 h0_balances h0_code h0_inbox h0_trueState h0_scratch h0_payments h0_proof h0_assertion c0_games u) [(c0_games, (.object "StepCourt$Game"))]) (tx_Q (tx_3 h0_games_0 h0_games_1 h0_games_2) post px (fun u9 => kp_B dC dI (va_A (ww_Sc_gameWithDuty h0 h0_games h0_games_0 h0_games_1 h0_games_2 h0_balances h0_code h0_inbox h0_trueState h0_scratch h0_payments h0_proof h0_assertion c0_games u) sz) (ww_Sc_gameWithDuty h0 h0_games h0_games_0 h0_games_1 h0_games_2 h0_balances h0_code h0_inbox h0_trueState h0_scratch h0_payments h0_proof h0_assertion c0_games u9) [(c0_games, (.object "StepCourt$Game"))]) (va_A (ww_Sc_gameWithDuty h0 h0_games h0_games_0 h0_games_1 h0_games_2 h0_balances h0_code h0_inbox h0_trueState h0_scratch h0_payments h0_proof h0_assertion c0_games u) sz)) 1 6 (va_A (ww_Sc_gameWithDuty h0 h0_games h0_games_0 h0_games_1 h0_games_2 h0_balances h0_code h0_inbox h0_trueState h0_scratch h0_payments h0_proof h0_assertion c0_games u) sz) := by
  refine tx_ofW (cc := cSc_gameWithDuty) (maxL := 4) (ret := (some (.object "StepCourt$Game"))) (by decide) rfl ?_
  intro p e s m args below meth c s₁ B hml hTab hv
  obtain ⟨rfl, hsz, hP, hK, hD0, hZ, hT9⟩ := hv
  have hx := B.exec
  have hb := B.bytes
  have hr := B.returns
  have hq : ∀ w ∈ wz, w.before _ s = true := fun w h => atoms_spec (ws := wsSc_gameWithDuty) B.pre w (List.mem_cons_of_mem _ h)
  have hown : s.vm.findClass "StepCourt" = some m.cls := findClass_of_methodNamed B.named
  have hlocks := B.notSynchronized
  subst hsz
  have hD := hD0.self (sz := s.heap.size)
  generalize hAe : va_A (ww_Sc_gameWithDuty h0 h0_games h0_games_0 h0_games_1 h0_games_2 h0_balances h0_code h0_inbox h0_trueState h0_scratch h0_payments h0_proof h0_assertion c0_games u) s.heap.size = A at hD hT9 ⊢
  have hA : ∀ q : Nat, s.heap.size ≤ q → A q := fun q h => by rw [← hAe]; exact Or.inr h
  have hS : va_S A s.heap s.heap [] := va_S.rf
  have hP : va_P (dC, dI) vwCl [(h0, ce_Sc h0_balances h0_code h0_inbox h0_trueState h0_scratch h0_payments h0_proof h0_assertion h0_games u.1), (h0_games, .inl (c0_games, 3, .inr (.inr (.inr (.inr (va_up (va_up (va_up (fun _ => none) 0 (some h0_games_0)) 1 (some h0_games_1)) 2 (some h0_games_2))))))), (h0_games_0, ce_Ga u.2.1), (h0_games_1, ce_Ga u.2.2.1), (h0_games_2, ce_Ga u.2.2.2)] s.heap := hP
  have hD : va_D A [(h0, ce_Sc h0_balances h0_code h0_inbox h0_trueState h0_scratch h0_payments h0_proof h0_assertion h0_games u.1), (h0_games, .inl (c0_games, 3, .inr (.inr (.inr (.inr (va_up (va_up (va_up (fun _ => none) 0 (some h0_games_0)) 1 (some h0_games_1)) 2 (some h0_games_2))))))), (h0_games_0, ce_Ga u.2.1), (h0_games_1, ce_Ga u.2.2.1), (h0_games_2, ce_Ga u.2.2.2)] := hD
  have hl := lv_entry ([.ref h0, .int k1, .int k2]) (n := 4) (Nat.le_of_ble_eq_true rfl)
  rw [lg_entry_eq]
  generalize (lg_sl ([.ref h0, .int k1, .int k2]) ++ List.replicate (4 - (lg_sl ([.ref h0, .int k1, .int k2])).length) Slot.unset).toArray = ls at hl ⊢
  have hl : lv_has ls 4 [(0, .ref h0), (1, .int k1), (2, .int k2)] := hl
  skip
  refine lv_aload_n hx hb dSc_gameWithDuty_0 rfl (lv_at hl 0 rfl) ?_
  refine lv_iload_n hx hb dSc_gameWithDuty_1 rfl (lv_at hl 1 rfl) ?_
  have hPc := hP.sub (ws' := [(h0, ce_Sc h0_balances h0_code h0_inbox h0_trueState h0_scratch h0_payments h0_proof h0_assertion h0_games u.1)]) [0] rfl
  have hDc := hD.sub (ws' := [(h0, ce_Sc h0_balances h0_code h0_inbox h0_trueState h0_scratch h0_payments h0_proof h0_assertion h0_games u.1)]) [0] (by decide) rfl
  have hKc := hK.sub (tys' := []) [] rfl
  have hFc := va_free (wc := [(h0, ce_Sc h0_balances h0_code h0_inbox h0_trueState h0_scratch h0_payments h0_proof h0_assertion h0_games u.1)]) hD hS hA [0] rfl
  refine va_calli (va_runV (As := [.int k1]) (rest := []) ⟨hx, hb, hml, hown, hq⟩ (mt_Sc_isGame l dC dI h0 h0_balances h0_code h0_inbox h0_trueState h0_scratch h0_payments h0_proof h0_assertion h0_games s.heap.size _ u.1 k1 hw) ⟨cq_B 1 hq wt_432 wt_429 wt_1 rfl rfl hd_Sc_isGame ⟨Nat.le_of_ble_eq_true rfl, Nat.le_of_ble_eq_true rfl⟩, (hq _ wt_431), (hq _ wv_13)⟩ ⟨kp_bl, va_recv hKc hPc (ci := 7) (q0 := 0) rfl rfl, kp_at hPc hKc hDc hZ⟩ rfl rfl hl.1 rfl (lv_room (Nat.le_of_ble_eq_true rfl)) dSc_gameWithDuty_2 ⟨(by decide), (by decide)⟩) hS (fun q _ h => hFc q h) hFc (fun r1 u2 t H1 locs ht hvm hw hB hz1 hk1 hS => ?_)
  obtain ⟨hP1, hK1, hD1⟩ := hB
  rw [ht] at hP1
  have hK1 := va_K.moved hvm.symm hK1
  obtain ⟨hP, hD⟩ := va_join (wr := [(h0_games, .inl (c0_games, 3, .inr (.inr (.inr (.inr (va_up (va_up (va_up (fun _ => none) 0 (some h0_games_0)) 1 (some h0_games_1)) 2 (some h0_games_2))))))), (h0_games_0, ce_Ga u.2.1), (h0_games_1, ce_Ga u.2.2.1), (h0_games_2, ce_Ga u.2.2.2)]) (w1 := [(h0, ce_Sc h0_balances h0_code h0_inbox h0_trueState h0_scratch h0_payments h0_proof h0_assertion h0_games u2)]) hP hD [0] [1, 2, 3, 4] rfl rfl (by decide) (by decide) hk1 hFc hP1 hD1
  have hK := (hK.sub (tys' := [(c0_games, (.object "StepCourt$Game"))]) [0] rfl).app hK1
  generalize H1 = H at hP hS ⊢
  have hP : va_P (dC, dI) vwCl [(h0_games, .inl (c0_games, 3, .inr (.inr (.inr (.inr (va_up (va_up (va_up (fun _ => none) 0 (some h0_games_0)) 1 (some h0_games_1)) 2 (some h0_games_2))))))), (h0_games_0, ce_Ga u.2.1), (h0_games_1, ce_Ga u.2.2.1), (h0_games_2, ce_Ga u.2.2.2), (h0, ce_Sc h0_balances h0_code h0_inbox h0_trueState h0_scratch h0_payments h0_proof h0_assertion h0_games u2)] H := hP
  have hD : va_D A [(h0_games, .inl (c0_games, 3, .inr (.inr (.inr (.inr (va_up (va_up (va_up (fun _ => none) 0 (some h0_games_0)) 1 (some h0_games_1)) 2 (some h0_games_2))))))), (h0_games_0, ce_Ga u.2.1), (h0_games_1, ce_Ga u.2.2.1), (h0_games_2, ce_Ga u.2.2.2), (h0, ce_Sc h0_balances h0_code h0_inbox h0_trueState h0_scratch h0_payments h0_proof h0_assertion h0_games u2)] := hD
  have hK : va_K (dC, dI) vwCl [(c0_games, (.object "StepCourt$Game"))] s := hK
  refine lv_if_ne (tgt := 19) hx hb dSc_gameWithDuty_5 (by decide) (fun cc3 => ?_) (fun cc3 => ?_)
  · have hw := hw.2 cc3
    refine lv_aload_n hx hb dSc_gameWithDuty_19 rfl (lv_at hl 0 rfl) ?_
    refine va_get (D := (dC, dI)) (ci := 7) (v := .ref h0_games) (C := "StepCourt") (T := TSc) (N := 13) hx hb hq inSc hown hK hP 4 rfl rfl 8 (by decide) (hq _ wt_262) (fun _ h9 => h9) rfl dSc_gameWithDuty_20 ?_
    refine lv_iload_n hx hb dSc_gameWithDuty_23 rfl (lv_at hl 1 rfl) ?_
    obtain ⟨hh4, hw⟩ := hw
    refine va_aldq hx hb hK hP 0 0 rfl rfl hh4 dSc_gameWithDuty_24 ?_
    have cc5b : k1.toNatClampNeg < 3 := Nat.not_le.mp (fun q => hh4 (Or.inr q))
    rcases (show k1.toNatClampNeg = 0 ∨ k1.toNatClampNeg = 1 ∨ k1.toNatClampNeg = 2 by omega) with cc5 | cc5 | cc5
    · have hw := hw.1 cc5
      refine W.eq (g2 := F0 m 25 ls [.ref h0_games_0]) (by rw [cc5]; rfl) ?_
      refine lv_astore_n (lv' := [(3, .ref h0_games_0), (0, .ref h0), (1, .int k1), (2, .int k2)]) hx hb dSc_gameWithDuty_25 rfl hl (by decide) rfl (fun ls hl => ?_)
      refine lv_aload_n hx hb dSc_gameWithDuty_26 rfl (lv_at hl 0 rfl) ?_
      have hPc := hP.sub (ws' := [(h0_games_0, ce_Ga u.2.1)]) [1] rfl
      have hDc := hD.sub (ws' := [(h0_games_0, ce_Ga u.2.1)]) [1] (by decide) rfl
      have hKc := hK.sub (tys' := []) [] rfl
      have hFc := va_free (wc := [(h0_games_0, ce_Ga u.2.1)]) hD hS hA [1] rfl
      refine va_calli (va_runV (As := []) (rest := []) ⟨hx, hb, hml, hown, hq⟩ (mt_Ga_duty l dC dI h0_games_0 H.size _ u.2.1 hw) ⟨cq_B 0 hq wt_309 wt_306 wt_8 rfl rfl hd_Ga_duty ⟨Nat.le_of_ble_eq_true rfl, Nat.le_of_ble_eq_true rfl⟩, (hq _ wt_307), (hq _ wt_308)⟩ ⟨kp_bl, va_recv hKc hPc (ci := 2) (q0 := 0) rfl rfl, kp_at hPc hKc hDc hZ⟩ rfl rfl hl.1 rfl (lv_room (Nat.le_of_ble_eq_true rfl)) dSc_gameWithDuty_27 ⟨(by decide), (by decide)⟩) hS (fun q _ h => hFc q h) hFc (fun r6 u7 t H1 locs ht hvm hw hB hz1 hk1 hS => ?_)
      obtain ⟨hP1, hK1, hD1⟩ := hB
      rw [ht] at hP1
      have hK1 := va_K.moved hvm.symm hK1
      obtain ⟨hP, hD⟩ := va_join (wr := [(h0_games, .inl (c0_games, 3, .inr (.inr (.inr (.inr (va_up (va_up (va_up (fun _ => none) 0 (some h0_games_0)) 1 (some h0_games_1)) 2 (some h0_games_2))))))), (h0_games_1, ce_Ga u.2.2.1), (h0_games_2, ce_Ga u.2.2.2), (h0, ce_Sc h0_balances h0_code h0_inbox h0_trueState h0_scratch h0_payments h0_proof h0_assertion h0_games u2)]) (w1 := [(h0_games_0, ce_Ga u7)]) hP hD [1] [0, 2, 3, 4] rfl rfl (by decide) (by decide) hk1 hFc hP1 hD1
      have hK := (hK.sub (tys' := [(c0_games, (.object "StepCourt$Game"))]) [0] rfl).app hK1
      generalize H1 = H at hP hS ⊢
      have hP : va_P (dC, dI) vwCl [(h0_games, .inl (c0_games, 3, .inr (.inr (.inr (.inr (va_up (va_up (va_up (fun _ => none) 0 (some h0_games_0)) 1 (some h0_games_1)) 2 (some h0_games_2))))))), (h0_games_1, ce_Ga u.2.2.1), (h0_games_2, ce_Ga u.2.2.2), (h0, ce_Sc h0_balances h0_code h0_inbox h0_trueState h0_scratch h0_payments h0_proof h0_assertion h0_games u2), (h0_games_0, ce_Ga u7)] H := hP
      have hD : va_D A [(h0_games, .inl (c0_games, 3, .inr (.inr (.inr (.inr (va_up (va_up (va_up (fun _ => none) 0 (some h0_games_0)) 1 (some h0_games_1)) 2 (some h0_games_2))))))), (h0_games_1, ce_Ga u.2.2.1), (h0_games_2, ce_Ga u.2.2.2), (h0, ce_Sc h0_balances h0_code h0_inbox h0_trueState h0_scratch h0_payments h0_proof h0_assertion h0_games u2), (h0_games_0, ce_Ga u7)] := hD
      have hK : va_K (dC, dI) vwCl [(c0_games, (.object "StepCourt$Game"))] s := hK
      refine lv_iload_n hx hb dSc_gameWithDuty_30 rfl (lv_at hl 3 rfl) ?_
      refine lv_icmp_eq (tgt := 45) hx hb dSc_gameWithDuty_31 (by decide) (fun cc8 => ?_) (fun cc8 => ?_)
      · have hw := hw.1 cc8
        refine lv_aload_n hx hb dSc_gameWithDuty_45 rfl (lv_at hl 0 rfl) ?_
        refine tx_ret (Q1 := tx_Q (tx_3 h0_games_0 h0_games_1 h0_games_2) post px (fun u9 => kp_B dC dI A (ww_Sc_gameWithDuty h0 h0_games h0_games_0 h0_games_1 h0_games_2 h0_balances h0_code h0_inbox h0_trueState h0_scratch h0_payments h0_proof h0_assertion c0_games u9) [(c0_games, (.object "StepCourt$Game"))]) A) (fun _ _ h => h) ?_
        have hP9 := hP.sub (ws' := [(h0, ce_Sc h0_balances h0_code h0_inbox h0_trueState h0_scratch h0_payments h0_proof h0_assertion h0_games u2), (h0_games, .inl (c0_games, 3, .inr (.inr (.inr (.inr (va_up (va_up (va_up (fun _ => none) 0 (some h0_games_0)) 1 (some h0_games_1)) 2 (some h0_games_2))))))), (h0_games_0, ce_Ga u7), (h0_games_1, ce_Ga u.2.2.1), (h0_games_2, ce_Ga u.2.2.2)]) [3, 0, 4, 1, 2] rfl
        have hD9 := hD.sub (ws' := [(h0, ce_Sc h0_balances h0_code h0_inbox h0_trueState h0_scratch h0_payments h0_proof h0_assertion h0_games u2), (h0_games, .inl (c0_games, 3, .inr (.inr (.inr (.inr (va_up (va_up (va_up (fun _ => none) 0 (some h0_games_0)) 1 (some h0_games_1)) 2 (some h0_games_2))))))), (h0_games_0, ce_Ga u7), (h0_games_1, ce_Ga u.2.2.1), (h0_games_2, ce_Ga u.2.2.2)]) [3, 0, 4, 1, 2] (by decide) rfl
        have hK9 := hK.sub (tys' := [(c0_games, (.object "StepCourt$Game"))]) [0] rfl
        refine W.widen (k := 1) (n := 6) (by decide) (by decide) ?_
        exact W.aret (v := .ref h0_games_0) hx hb hr (Or.inl ⟨_, rfl⟩) (Or.inr ⟨_, rfl⟩) (fun t ht hW => ⟨Or.inl ⟨0, (u2, u7, u.2.2.1, u.2.2.2), rfl, hw, by rw [ht]; exact hP9, va_K.moved hW.alike hK9, hD9⟩, hS.F ht⟩) hS.2.2 dSc_gameWithDuty_46
      · have hw := hw.2 cc8
        have hP9 := hP.sub (ws' := [(h0, ce_Sc h0_balances h0_code h0_inbox h0_trueState h0_scratch h0_payments h0_proof h0_assertion h0_games u2), (h0_games, .inl (c0_games, 3, .inr (.inr (.inr (.inr (va_up (va_up (va_up (fun _ => none) 0 (some h0_games_0)) 1 (some h0_games_1)) 2 (some h0_games_2))))))), (h0_games_0, ce_Ga u7), (h0_games_1, ce_Ga u.2.2.1), (h0_games_2, ce_Ga u.2.2.2)]) [3, 0, 4, 1, 2] rfl
        have hD9 := hD.sub (ws' := [(h0, ce_Sc h0_balances h0_code h0_inbox h0_trueState h0_scratch h0_payments h0_proof h0_assertion h0_games u2), (h0_games, .inl (c0_games, 3, .inr (.inr (.inr (.inr (va_up (va_up (va_up (fun _ => none) 0 (some h0_games_0)) 1 (some h0_games_1)) 2 (some h0_games_2))))))), (h0_games_0, ce_Ga u7), (h0_games_1, ce_Ga u.2.2.1), (h0_games_2, ce_Ga u.2.2.2)]) [3, 0, 4, 1, 2] (by decide) rfl
        have hK9 := hK.sub (tys' := [(c0_games, (.object "StepCourt$Game"))]) [0] rfl
        obtain ⟨sa, hstr⟩ := hZ.2.2.1 _ (List.mem_of_getElem? (i := 9) rfl)
        exact tx_throwW (own := "StepCourt") (cls := "java/lang/IllegalStateException") (names := ["java/lang/RuntimeException", "java/lang/Exception"]) (A := A) hx hb hl9 hown (by decide +kernel) (by decide +kernel) oa_122 hq wt_571 wt_17 hZ hstr hT9 hS (by rw [hml]; exact hl.1) dSc_gameWithDuty_34 dSc_gameWithDuty_37 dSc_gameWithDuty_38 dSc_gameWithDuty_41 dSc_gameWithDuty_44 hTab hlocks (by decide) (by decide) (by decide) (by decide) (fun t ce q ha hz1 hk1 hce hcv hcl => ⟨Or.inr ⟨q, _, ce, (u2, u7, u.2.2.1, u.2.2.2), rfl, hw, ⟨hP9.kept (fun k q hk => hk1 q.1 (hP9 k q hk).lt), va_K.moved ha hK9, hD9⟩, hce, hcv, hcl⟩, Nat.le_trans hS.1 hz1, fun z h1 h2 => (hk1 z (Nat.lt_of_lt_of_le h1 hS.1)).trans (hS.2.1 z h1 h2)⟩) hS.2.2 (by decide) (by decide)
    · have hw := hw.2.1 cc5
      refine W.eq (g2 := F0 m 25 ls [.ref h0_games_1]) (by rw [cc5]; rfl) ?_
      refine lv_astore_n (lv' := [(3, .ref h0_games_1), (0, .ref h0), (1, .int k1), (2, .int k2)]) hx hb dSc_gameWithDuty_25 rfl hl (by decide) rfl (fun ls hl => ?_)
      refine lv_aload_n hx hb dSc_gameWithDuty_26 rfl (lv_at hl 0 rfl) ?_
      have hPc := hP.sub (ws' := [(h0_games_1, ce_Ga u.2.2.1)]) [2] rfl
      have hDc := hD.sub (ws' := [(h0_games_1, ce_Ga u.2.2.1)]) [2] (by decide) rfl
      have hKc := hK.sub (tys' := []) [] rfl
      have hFc := va_free (wc := [(h0_games_1, ce_Ga u.2.2.1)]) hD hS hA [2] rfl
      refine va_calli (va_runV (As := []) (rest := []) ⟨hx, hb, hml, hown, hq⟩ (mt_Ga_duty l dC dI h0_games_1 H.size _ u.2.2.1 hw) ⟨cq_B 0 hq wt_309 wt_306 wt_8 rfl rfl hd_Ga_duty ⟨Nat.le_of_ble_eq_true rfl, Nat.le_of_ble_eq_true rfl⟩, (hq _ wt_307), (hq _ wt_308)⟩ ⟨kp_bl, va_recv hKc hPc (ci := 2) (q0 := 0) rfl rfl, kp_at hPc hKc hDc hZ⟩ rfl rfl hl.1 rfl (lv_room (Nat.le_of_ble_eq_true rfl)) dSc_gameWithDuty_27 ⟨(by decide), (by decide)⟩) hS (fun q _ h => hFc q h) hFc (fun r9 u10 t H1 locs ht hvm hw hB hz1 hk1 hS => ?_)
      obtain ⟨hP1, hK1, hD1⟩ := hB
      rw [ht] at hP1
      have hK1 := va_K.moved hvm.symm hK1
      obtain ⟨hP, hD⟩ := va_join (wr := [(h0_games, .inl (c0_games, 3, .inr (.inr (.inr (.inr (va_up (va_up (va_up (fun _ => none) 0 (some h0_games_0)) 1 (some h0_games_1)) 2 (some h0_games_2))))))), (h0_games_0, ce_Ga u.2.1), (h0_games_2, ce_Ga u.2.2.2), (h0, ce_Sc h0_balances h0_code h0_inbox h0_trueState h0_scratch h0_payments h0_proof h0_assertion h0_games u2)]) (w1 := [(h0_games_1, ce_Ga u10)]) hP hD [2] [0, 1, 3, 4] rfl rfl (by decide) (by decide) hk1 hFc hP1 hD1
      have hK := (hK.sub (tys' := [(c0_games, (.object "StepCourt$Game"))]) [0] rfl).app hK1
      generalize H1 = H at hP hS ⊢
      have hP : va_P (dC, dI) vwCl [(h0_games, .inl (c0_games, 3, .inr (.inr (.inr (.inr (va_up (va_up (va_up (fun _ => none) 0 (some h0_games_0)) 1 (some h0_games_1)) 2 (some h0_games_2))))))), (h0_games_0, ce_Ga u.2.1), (h0_games_2, ce_Ga u.2.2.2), (h0, ce_Sc h0_balances h0_code h0_inbox h0_trueState h0_scratch h0_payments h0_proof h0_assertion h0_games u2), (h0_games_1, ce_Ga u10)] H := hP
      have hD : va_D A [(h0_games, .inl (c0_games, 3, .inr (.inr (.inr (.inr (va_up (va_up (va_up (fun _ => none) 0 (some h0_games_0)) 1 (some h0_games_1)) 2 (some h0_games_2))))))), (h0_games_0, ce_Ga u.2.1), (h0_games_2, ce_Ga u.2.2.2), (h0, ce_Sc h0_balances h0_code h0_inbox h0_trueState h0_scratch h0_payments h0_proof h0_assertion h0_games u2), (h0_games_1, ce_Ga u10)] := hD
      have hK : va_K (dC, dI) vwCl [(c0_games, (.object "StepCourt$Game"))] s := hK
      refine lv_iload_n hx hb dSc_gameWithDuty_30 rfl (lv_at hl 3 rfl) ?_
      refine lv_icmp_eq (tgt := 45) hx hb dSc_gameWithDuty_31 (by decide) (fun cc11 => ?_) (fun cc11 => ?_)
      · have hw := hw.1 cc11
        refine lv_aload_n hx hb dSc_gameWithDuty_45 rfl (lv_at hl 0 rfl) ?_
        refine tx_ret (Q1 := tx_Q (tx_3 h0_games_0 h0_games_1 h0_games_2) post px (fun u9 => kp_B dC dI A (ww_Sc_gameWithDuty h0 h0_games h0_games_0 h0_games_1 h0_games_2 h0_balances h0_code h0_inbox h0_trueState h0_scratch h0_payments h0_proof h0_assertion c0_games u9) [(c0_games, (.object "StepCourt$Game"))]) A) (fun _ _ h => h) ?_
        have hP9 := hP.sub (ws' := [(h0, ce_Sc h0_balances h0_code h0_inbox h0_trueState h0_scratch h0_payments h0_proof h0_assertion h0_games u2), (h0_games, .inl (c0_games, 3, .inr (.inr (.inr (.inr (va_up (va_up (va_up (fun _ => none) 0 (some h0_games_0)) 1 (some h0_games_1)) 2 (some h0_games_2))))))), (h0_games_0, ce_Ga u.2.1), (h0_games_1, ce_Ga u10), (h0_games_2, ce_Ga u.2.2.2)]) [3, 0, 1, 4, 2] rfl
        have hD9 := hD.sub (ws' := [(h0, ce_Sc h0_balances h0_code h0_inbox h0_trueState h0_scratch h0_payments h0_proof h0_assertion h0_games u2), (h0_games, .inl (c0_games, 3, .inr (.inr (.inr (.inr (va_up (va_up (va_up (fun _ => none) 0 (some h0_games_0)) 1 (some h0_games_1)) 2 (some h0_games_2))))))), (h0_games_0, ce_Ga u.2.1), (h0_games_1, ce_Ga u10), (h0_games_2, ce_Ga u.2.2.2)]) [3, 0, 1, 4, 2] (by decide) rfl
        have hK9 := hK.sub (tys' := [(c0_games, (.object "StepCourt$Game"))]) [0] rfl
        refine W.widen (k := 1) (n := 6) (by decide) (by decide) ?_
        exact W.aret (v := .ref h0_games_1) hx hb hr (Or.inl ⟨_, rfl⟩) (Or.inr ⟨_, rfl⟩) (fun t ht hW => ⟨Or.inl ⟨1, (u2, u.2.1, u10, u.2.2.2), rfl, hw, by rw [ht]; exact hP9, va_K.moved hW.alike hK9, hD9⟩, hS.F ht⟩) hS.2.2 dSc_gameWithDuty_46
      · have hw := hw.2 cc11
        have hP9 := hP.sub (ws' := [(h0, ce_Sc h0_balances h0_code h0_inbox h0_trueState h0_scratch h0_payments h0_proof h0_assertion h0_games u2), (h0_games, .inl (c0_games, 3, .inr (.inr (.inr (.inr (va_up (va_up (va_up (fun _ => none) 0 (some h0_games_0)) 1 (some h0_games_1)) 2 (some h0_games_2))))))), (h0_games_0, ce_Ga u.2.1), (h0_games_1, ce_Ga u10), (h0_games_2, ce_Ga u.2.2.2)]) [3, 0, 1, 4, 2] rfl
        have hD9 := hD.sub (ws' := [(h0, ce_Sc h0_balances h0_code h0_inbox h0_trueState h0_scratch h0_payments h0_proof h0_assertion h0_games u2), (h0_games, .inl (c0_games, 3, .inr (.inr (.inr (.inr (va_up (va_up (va_up (fun _ => none) 0 (some h0_games_0)) 1 (some h0_games_1)) 2 (some h0_games_2))))))), (h0_games_0, ce_Ga u.2.1), (h0_games_1, ce_Ga u10), (h0_games_2, ce_Ga u.2.2.2)]) [3, 0, 1, 4, 2] (by decide) rfl
        have hK9 := hK.sub (tys' := [(c0_games, (.object "StepCourt$Game"))]) [0] rfl
        obtain ⟨sa, hstr⟩ := hZ.2.2.1 _ (List.mem_of_getElem? (i := 9) rfl)
        exact tx_throwW (own := "StepCourt") (cls := "java/lang/IllegalStateException") (names := ["java/lang/RuntimeException", "java/lang/Exception"]) (A := A) hx hb hl9 hown (by decide +kernel) (by decide +kernel) oa_122 hq wt_571 wt_17 hZ hstr hT9 hS (by rw [hml]; exact hl.1) dSc_gameWithDuty_34 dSc_gameWithDuty_37 dSc_gameWithDuty_38 dSc_gameWithDuty_41 dSc_gameWithDuty_44 hTab hlocks (by decide) (by decide) (by decide) (by decide) (fun t ce q ha hz1 hk1 hce hcv hcl => ⟨Or.inr ⟨q, _, ce, (u2, u.2.1, u10, u.2.2.2), rfl, hw, ⟨hP9.kept (fun k q hk => hk1 q.1 (hP9 k q hk).lt), va_K.moved ha hK9, hD9⟩, hce, hcv, hcl⟩, Nat.le_trans hS.1 hz1, fun z h1 h2 => (hk1 z (Nat.lt_of_lt_of_le h1 hS.1)).trans (hS.2.1 z h1 h2)⟩) hS.2.2 (by decide) (by decide)
    · have hw := hw.2.2 cc5
      refine W.eq (g2 := F0 m 25 ls [.ref h0_games_2]) (by rw [cc5]; rfl) ?_
      refine lv_astore_n (lv' := [(3, .ref h0_games_2), (0, .ref h0), (1, .int k1), (2, .int k2)]) hx hb dSc_gameWithDuty_25 rfl hl (by decide) rfl (fun ls hl => ?_)
      refine lv_aload_n hx hb dSc_gameWithDuty_26 rfl (lv_at hl 0 rfl) ?_
      have hPc := hP.sub (ws' := [(h0_games_2, ce_Ga u.2.2.2)]) [3] rfl
      have hDc := hD.sub (ws' := [(h0_games_2, ce_Ga u.2.2.2)]) [3] (by decide) rfl
      have hKc := hK.sub (tys' := []) [] rfl
      have hFc := va_free (wc := [(h0_games_2, ce_Ga u.2.2.2)]) hD hS hA [3] rfl
      refine va_calli (va_runV (As := []) (rest := []) ⟨hx, hb, hml, hown, hq⟩ (mt_Ga_duty l dC dI h0_games_2 H.size _ u.2.2.2 hw) ⟨cq_B 0 hq wt_309 wt_306 wt_8 rfl rfl hd_Ga_duty ⟨Nat.le_of_ble_eq_true rfl, Nat.le_of_ble_eq_true rfl⟩, (hq _ wt_307), (hq _ wt_308)⟩ ⟨kp_bl, va_recv hKc hPc (ci := 2) (q0 := 0) rfl rfl, kp_at hPc hKc hDc hZ⟩ rfl rfl hl.1 rfl (lv_room (Nat.le_of_ble_eq_true rfl)) dSc_gameWithDuty_27 ⟨(by decide), (by decide)⟩) hS (fun q _ h => hFc q h) hFc (fun r12 u13 t H1 locs ht hvm hw hB hz1 hk1 hS => ?_)
      obtain ⟨hP1, hK1, hD1⟩ := hB
      rw [ht] at hP1
      have hK1 := va_K.moved hvm.symm hK1
      obtain ⟨hP, hD⟩ := va_join (wr := [(h0_games, .inl (c0_games, 3, .inr (.inr (.inr (.inr (va_up (va_up (va_up (fun _ => none) 0 (some h0_games_0)) 1 (some h0_games_1)) 2 (some h0_games_2))))))), (h0_games_0, ce_Ga u.2.1), (h0_games_1, ce_Ga u.2.2.1), (h0, ce_Sc h0_balances h0_code h0_inbox h0_trueState h0_scratch h0_payments h0_proof h0_assertion h0_games u2)]) (w1 := [(h0_games_2, ce_Ga u13)]) hP hD [3] [0, 1, 2, 4] rfl rfl (by decide) (by decide) hk1 hFc hP1 hD1
      have hK := (hK.sub (tys' := [(c0_games, (.object "StepCourt$Game"))]) [0] rfl).app hK1
      generalize H1 = H at hP hS ⊢
      have hP : va_P (dC, dI) vwCl [(h0_games, .inl (c0_games, 3, .inr (.inr (.inr (.inr (va_up (va_up (va_up (fun _ => none) 0 (some h0_games_0)) 1 (some h0_games_1)) 2 (some h0_games_2))))))), (h0_games_0, ce_Ga u.2.1), (h0_games_1, ce_Ga u.2.2.1), (h0, ce_Sc h0_balances h0_code h0_inbox h0_trueState h0_scratch h0_payments h0_proof h0_assertion h0_games u2), (h0_games_2, ce_Ga u13)] H := hP
      have hD : va_D A [(h0_games, .inl (c0_games, 3, .inr (.inr (.inr (.inr (va_up (va_up (va_up (fun _ => none) 0 (some h0_games_0)) 1 (some h0_games_1)) 2 (some h0_games_2))))))), (h0_games_0, ce_Ga u.2.1), (h0_games_1, ce_Ga u.2.2.1), (h0, ce_Sc h0_balances h0_code h0_inbox h0_trueState h0_scratch h0_payments h0_proof h0_assertion h0_games u2), (h0_games_2, ce_Ga u13)] := hD
      have hK : va_K (dC, dI) vwCl [(c0_games, (.object "StepCourt$Game"))] s := hK
      refine lv_iload_n hx hb dSc_gameWithDuty_30 rfl (lv_at hl 3 rfl) ?_
      refine lv_icmp_eq (tgt := 45) hx hb dSc_gameWithDuty_31 (by decide) (fun cc14 => ?_) (fun cc14 => ?_)
      · have hw := hw.1 cc14
        refine lv_aload_n hx hb dSc_gameWithDuty_45 rfl (lv_at hl 0 rfl) ?_
        refine tx_ret (Q1 := tx_Q (tx_3 h0_games_0 h0_games_1 h0_games_2) post px (fun u9 => kp_B dC dI A (ww_Sc_gameWithDuty h0 h0_games h0_games_0 h0_games_1 h0_games_2 h0_balances h0_code h0_inbox h0_trueState h0_scratch h0_payments h0_proof h0_assertion c0_games u9) [(c0_games, (.object "StepCourt$Game"))]) A) (fun _ _ h => h) ?_
        have hP9 := hP.sub (ws' := [(h0, ce_Sc h0_balances h0_code h0_inbox h0_trueState h0_scratch h0_payments h0_proof h0_assertion h0_games u2), (h0_games, .inl (c0_games, 3, .inr (.inr (.inr (.inr (va_up (va_up (va_up (fun _ => none) 0 (some h0_games_0)) 1 (some h0_games_1)) 2 (some h0_games_2))))))), (h0_games_0, ce_Ga u.2.1), (h0_games_1, ce_Ga u.2.2.1), (h0_games_2, ce_Ga u13)]) [3, 0, 1, 2, 4] rfl
        have hD9 := hD.sub (ws' := [(h0, ce_Sc h0_balances h0_code h0_inbox h0_trueState h0_scratch h0_payments h0_proof h0_assertion h0_games u2), (h0_games, .inl (c0_games, 3, .inr (.inr (.inr (.inr (va_up (va_up (va_up (fun _ => none) 0 (some h0_games_0)) 1 (some h0_games_1)) 2 (some h0_games_2))))))), (h0_games_0, ce_Ga u.2.1), (h0_games_1, ce_Ga u.2.2.1), (h0_games_2, ce_Ga u13)]) [3, 0, 1, 2, 4] (by decide) rfl
        have hK9 := hK.sub (tys' := [(c0_games, (.object "StepCourt$Game"))]) [0] rfl
        refine W.widen (k := 1) (n := 6) (by decide) (by decide) ?_
        exact W.aret (v := .ref h0_games_2) hx hb hr (Or.inl ⟨_, rfl⟩) (Or.inr ⟨_, rfl⟩) (fun t ht hW => ⟨Or.inl ⟨2, (u2, u.2.1, u.2.2.1, u13), rfl, hw, by rw [ht]; exact hP9, va_K.moved hW.alike hK9, hD9⟩, hS.F ht⟩) hS.2.2 dSc_gameWithDuty_46
      · have hw := hw.2 cc14
        have hP9 := hP.sub (ws' := [(h0, ce_Sc h0_balances h0_code h0_inbox h0_trueState h0_scratch h0_payments h0_proof h0_assertion h0_games u2), (h0_games, .inl (c0_games, 3, .inr (.inr (.inr (.inr (va_up (va_up (va_up (fun _ => none) 0 (some h0_games_0)) 1 (some h0_games_1)) 2 (some h0_games_2))))))), (h0_games_0, ce_Ga u.2.1), (h0_games_1, ce_Ga u.2.2.1), (h0_games_2, ce_Ga u13)]) [3, 0, 1, 2, 4] rfl
        have hD9 := hD.sub (ws' := [(h0, ce_Sc h0_balances h0_code h0_inbox h0_trueState h0_scratch h0_payments h0_proof h0_assertion h0_games u2), (h0_games, .inl (c0_games, 3, .inr (.inr (.inr (.inr (va_up (va_up (va_up (fun _ => none) 0 (some h0_games_0)) 1 (some h0_games_1)) 2 (some h0_games_2))))))), (h0_games_0, ce_Ga u.2.1), (h0_games_1, ce_Ga u.2.2.1), (h0_games_2, ce_Ga u13)]) [3, 0, 1, 2, 4] (by decide) rfl
        have hK9 := hK.sub (tys' := [(c0_games, (.object "StepCourt$Game"))]) [0] rfl
        obtain ⟨sa, hstr⟩ := hZ.2.2.1 _ (List.mem_of_getElem? (i := 9) rfl)
        exact tx_throwW (own := "StepCourt") (cls := "java/lang/IllegalStateException") (names := ["java/lang/RuntimeException", "java/lang/Exception"]) (A := A) hx hb hl9 hown (by decide +kernel) (by decide +kernel) oa_122 hq wt_571 wt_17 hZ hstr hT9 hS (by rw [hml]; exact hl.1) dSc_gameWithDuty_34 dSc_gameWithDuty_37 dSc_gameWithDuty_38 dSc_gameWithDuty_41 dSc_gameWithDuty_44 hTab hlocks (by decide) (by decide) (by decide) (by decide) (fun t ce q ha hz1 hk1 hce hcv hcl => ⟨Or.inr ⟨q, _, ce, (u2, u.2.1, u.2.2.1, u13), rfl, hw, ⟨hP9.kept (fun k q hk => hk1 q.1 (hP9 k q hk).lt), va_K.moved ha hK9, hD9⟩, hce, hcv, hcl⟩, Nat.le_trans hS.1 hz1, fun z h1 h2 => (hk1 z (Nat.lt_of_lt_of_le h1 hS.1)).trans (hS.2.1 z h1 h2)⟩) hS.2.2 (by decide) (by decide)
  · have hw := hw.1 cc3
    have hP9 := hP.sub (ws' := [(h0, ce_Sc h0_balances h0_code h0_inbox h0_trueState h0_scratch h0_payments h0_proof h0_assertion h0_games u2), (h0_games, .inl (c0_games, 3, .inr (.inr (.inr (.inr (va_up (va_up (va_up (fun _ => none) 0 (some h0_games_0)) 1 (some h0_games_1)) 2 (some h0_games_2))))))), (h0_games_0, ce_Ga u.2.1), (h0_games_1, ce_Ga u.2.2.1), (h0_games_2, ce_Ga u.2.2.2)]) [4, 0, 1, 2, 3] rfl
    have hD9 := hD.sub (ws' := [(h0, ce_Sc h0_balances h0_code h0_inbox h0_trueState h0_scratch h0_payments h0_proof h0_assertion h0_games u2), (h0_games, .inl (c0_games, 3, .inr (.inr (.inr (.inr (va_up (va_up (va_up (fun _ => none) 0 (some h0_games_0)) 1 (some h0_games_1)) 2 (some h0_games_2))))))), (h0_games_0, ce_Ga u.2.1), (h0_games_1, ce_Ga u.2.2.1), (h0_games_2, ce_Ga u.2.2.2)]) [4, 0, 1, 2, 3] (by decide) rfl
    have hK9 := hK.sub (tys' := [(c0_games, (.object "StepCourt$Game"))]) [0] rfl
    obtain ⟨sa, hstr⟩ := hZ.2.2.1 _ (List.mem_of_getElem? (i := 8) rfl)
    exact tx_throwW (own := "StepCourt") (cls := "java/lang/IndexOutOfBoundsException") (names := ["java/lang/RuntimeException", "java/lang/Exception"]) (A := A) hx hb hl9 hown (by decide +kernel) (by decide +kernel) oa_231 hq wt_446 wt_14 hZ hstr hT9 hS (by rw [hml]; exact hl.1) dSc_gameWithDuty_8 dSc_gameWithDuty_11 dSc_gameWithDuty_12 dSc_gameWithDuty_15 dSc_gameWithDuty_18 hTab hlocks (by decide) (by decide) (by decide) (by decide) (fun t ce q ha hz1 hk1 hce hcv hcl => ⟨Or.inr ⟨q, _, ce, (u2, u.2.1, u.2.2.1, u.2.2.2), rfl, hw, ⟨hP9.kept (fun k q hk => hk1 q.1 (hP9 k q hk).lt), va_K.moved ha hK9, hD9⟩, hce, hcv, hcl⟩, Nat.le_trans hS.1 hz1, fun z h1 h2 => (hk1 z (Nat.lt_of_lt_of_le h1 hS.1)).trans (hS.2.1 z h1 h2)⟩) hS.2.2 (by decide) (by decide)
abbrev ww_Sc_deposit (h0 h0_balances h0_inbox h0_inbox_words h0_code h0_trueState h0_scratch h0_payments h0_proof h0_assertion h0_games : Nat) (c0_balances c0_inbox_words : ClassId) (u : ct_Sc × (Nat → Int32) × ct_In × (Nat → Int32)) : va_W := [(h0, ce_Sc h0_balances h0_code h0_inbox h0_trueState h0_scratch h0_payments h0_proof h0_assertion h0_games u.1), (h0_balances, .inl (c0_balances, 4, .inl u.2.1)), (h0_inbox, ce_In h0_inbox_words u.2.2.1), (h0_inbox_words, .inl (c0_inbox_words, 60, .inl u.2.2.2))]
def wp_Sc_deposit (post : Int32 → (ct_Sc × (Nat → Int32) × ct_In × (Nat → Int32)) → Prop) (px : String → (ct_Sc × (Nat → Int32) × ct_In × (Nat → Int32)) → Prop) (u : ct_Sc × (Nat → Int32) × ct_In × (Nat → Int32)) (k1 : Int32) (k2 : Int32) : Prop := wp_Sc_requireParty (fun _ u2 => (((1 ≤ k2 → (vp_in k1 4 ∧ ((((u.2.1 k1.toNatClampNeg) < k2 → (px "java/lang/UnsupportedOperationException" (u.1, u.2.1, u.2.2.1, u.2.2.2))) ∧ (¬ (u.2.1 k1.toNatClampNeg) < k2 → (wp_In_room (fun r7 u8 => (((3 ≤ r7 → (vp_in k1 4 ∧ (∀ f11 : Int32, f11 = ((u.2.1 k1.toNatClampNeg) - k2) → (vp_in k1 4 ∧ (∀ f13 : Int32, f13 = (u.1.2.1 + k2) → (wp_In_add (fun u15 => (wp_In_add (fun u17 => (wp_In_add (fun u19 => (post u19.1 ((u.1.1, f13, u.1.2.2.1, u.1.2.2.2), (upd u.2.1 k1.toNatClampNeg f11), u19.1, u19.2))) (u17.1, u17.2) k2 )) (u15.1, u15.2) k1 )) (u8, u.2.2.2) 1 )))))) ∧ (¬ 3 ≤ r7 → (px "java/lang/UnsupportedOperationException" (u.1, u.2.1, u8, u.2.2.2)))))) u.2.2.1 )))))) ∧ (¬ 1 ≤ k2 → (px "java/lang/IllegalArgumentException" (u.1, u.2.1, u.2.2.1, u.2.2.2)))))) (fun E9 u3 => (px E9 (u.1, u.2.1, u.2.2.1, u.2.2.2))) () k1 
set_option maxHeartbeats 4000000 in
set_option maxRecDepth 100000 in
theorem mt_Sc_deposit (l : Launch) (hl9 : l.stackTraces = false) (dC : Nat → ClassId) (dI : Nat → Nat → Nat) (h0 h0_balances h0_inbox h0_inbox_words h0_code h0_trueState h0_scratch h0_payments h0_proof h0_assertion h0_games : Nat) (c0_balances c0_inbox_words : ClassId) (sz : Nat) (post : Int32 → (ct_Sc × (Nat → Int32) × ct_In × (Nat → Int32)) → Prop) (px : String → (ct_Sc × (Nat → Int32) × ct_In × (Nat → Int32)) → Prop) (u : ct_Sc × (Nat → Int32) × ct_In × (Nat → Int32)) (k1 : Int32) (k2 : Int32) (hw : wp_Sc_deposit post px u k1 k2) : tx_Met l ySc_deposit wsSc_deposit ({ frames := 7, cells := 2, slots := 12, locals := 102 }) (kx_P dC dI [.ref h0, .int k1, .int k2] sz (ww_Sc_deposit h0 h0_balances h0_inbox h0_inbox_words h0_code h0_trueState h0_scratch h0_payments h0_proof h0_assertion h0_games c0_balances c0_inbox_words u) [(c0_balances, .int), (c0_inbox_words, .int)]) (tx_Q tx_i post px (fun u9 => kp_B dC dI (va_A (ww_Sc_deposit h0 h0_balances h0_inbox h0_inbox_words h0_code h0_trueState h0_scratch h0_payments h0_proof h0_assertion h0_games c0_balances c0_inbox_words u) sz) (ww_Sc_deposit h0 h0_balances h0_inbox h0_inbox_words h0_code h0_trueState h0_scratch h0_payments h0_proof h0_assertion h0_games c0_balances c0_inbox_words u9) [(c0_balances, .int), (c0_inbox_words, .int)]) (va_A (ww_Sc_deposit h0 h0_balances h0_inbox h0_inbox_words h0_code h0_trueState h0_scratch h0_payments h0_proof h0_assertion h0_games c0_balances c0_inbox_words u) sz)) 2 12 (va_A (ww_Sc_deposit h0 h0_balances h0_inbox h0_inbox_words h0_code h0_trueState h0_scratch h0_payments h0_proof h0_assertion h0_games c0_balances c0_inbox_words u) sz) := by
  refine tx_ofW (cc := cSc_deposit) (maxL := 3) (ret := (some .int)) (by decide) rfl ?_
  intro p e s m args below meth c s₁ B hml hTab hv
  obtain ⟨rfl, hsz, hP, hK, hD0, hZ, hT9⟩ := hv
  have hx := B.exec
  have hb := B.bytes
  have hr := B.returns
  have hq : ∀ w ∈ wz, w.before _ s = true := fun w h => atoms_spec (ws := wsSc_deposit) B.pre w (List.mem_cons_of_mem _ h)
  have hown : s.vm.findClass "StepCourt" = some m.cls := findClass_of_methodNamed B.named
  have hlocks := B.notSynchronized
  subst hsz
  have hD := hD0.self (sz := s.heap.size)
  generalize hAe : va_A (ww_Sc_deposit h0 h0_balances h0_inbox h0_inbox_words h0_code h0_trueState h0_scratch h0_payments h0_proof h0_assertion h0_games c0_balances c0_inbox_words u) s.heap.size = A at hD hT9 ⊢
  have hA : ∀ q : Nat, s.heap.size ≤ q → A q := fun q h => by rw [← hAe]; exact Or.inr h
  have hS : va_S A s.heap s.heap [] := va_S.rf
  have hP : va_P (dC, dI) vwCl [(h0, ce_Sc h0_balances h0_code h0_inbox h0_trueState h0_scratch h0_payments h0_proof h0_assertion h0_games u.1), (h0_balances, .inl (c0_balances, 4, .inl u.2.1)), (h0_inbox, ce_In h0_inbox_words u.2.2.1), (h0_inbox_words, .inl (c0_inbox_words, 60, .inl u.2.2.2))] s.heap := hP
  have hD : va_D A [(h0, ce_Sc h0_balances h0_code h0_inbox h0_trueState h0_scratch h0_payments h0_proof h0_assertion h0_games u.1), (h0_balances, .inl (c0_balances, 4, .inl u.2.1)), (h0_inbox, ce_In h0_inbox_words u.2.2.1), (h0_inbox_words, .inl (c0_inbox_words, 60, .inl u.2.2.2))] := hD
  have hl := lv_entry ([.ref h0, .int k1, .int k2]) (n := 3) (Nat.le_of_ble_eq_true rfl)
  rw [lg_entry_eq]
  generalize (lg_sl ([.ref h0, .int k1, .int k2]) ++ List.replicate (3 - (lg_sl ([.ref h0, .int k1, .int k2])).length) Slot.unset).toArray = ls at hl ⊢
  have hl : lv_has ls 3 [(0, .ref h0), (1, .int k1), (2, .int k2)] := hl
  skip
  refine lv_iload_n hx hb dSc_deposit_0 rfl (lv_at hl 1 rfl) ?_
  have hPc := hP.sub (ws' := []) [] rfl
  have hDc := hD.sub (ws' := []) [] (by decide) rfl
  have hKc := hK.sub (tys' := []) [] rfl
  have hFc := va_free (wc := []) hD hS hA [] rfl
  refine tx_call (tx_runS (As := [.int k1]) (rest := []) ⟨hx, hb, hml, hown, hq⟩ (mt_Sc_requireParty l hl9 dC dI s.heap.size _ _ () k1 hw) ⟨cq_B 1 hq wt_445 wt_443 wt_1 rfl rfl hd_Sc_requireParty ⟨Nat.le_of_ble_eq_true rfl, Nat.le_of_ble_eq_true rfl⟩, (hq _ wt_444)⟩ ⟨kx_bl, kx_at hPc hKc hDc hZ hFc hS hT9⟩ 8 (Nat.le_of_ble_eq_true rfl) rfl rfl hl.1 rfl (tx_rm (Nat.le_of_ble_eq_true rfl)) dSc_deposit_1 ⟨(by decide), (by decide)⟩) hS (fun q _ h => hFc q h) hFc ?_ ?_
  · intro E9 ce q9 u3 t H1 locs ht hvm hw hB hz1 hk1 hS hce hcv hcl
    obtain ⟨hP1, hK1, hD1⟩ := hB
    rw [ht] at hP1
    have hK1 := va_K.moved hvm.symm hK1
    obtain ⟨hP, hD⟩ := va_join (wr := [(h0, ce_Sc h0_balances h0_code h0_inbox h0_trueState h0_scratch h0_payments h0_proof h0_assertion h0_games u.1), (h0_balances, .inl (c0_balances, 4, .inl u.2.1)), (h0_inbox, ce_In h0_inbox_words u.2.2.1), (h0_inbox_words, .inl (c0_inbox_words, 60, .inl u.2.2.2))]) (w1 := []) hP hD [] [0, 1, 2, 3] rfl rfl (by decide) (by decide) hk1 hFc hP1 hD1
    have hK := (hK.sub (tys' := [(c0_balances, .int), (c0_inbox_words, .int)]) [0, 1] rfl).app hK1
    generalize H1 = H at hP hS hce ⊢
    have hP : va_P (dC, dI) vwCl [(h0, ce_Sc h0_balances h0_code h0_inbox h0_trueState h0_scratch h0_payments h0_proof h0_assertion h0_games u.1), (h0_balances, .inl (c0_balances, 4, .inl u.2.1)), (h0_inbox, ce_In h0_inbox_words u.2.2.1), (h0_inbox_words, .inl (c0_inbox_words, 60, .inl u.2.2.2))] H := hP
    have hD : va_D A [(h0, ce_Sc h0_balances h0_code h0_inbox h0_trueState h0_scratch h0_payments h0_proof h0_assertion h0_games u.1), (h0_balances, .inl (c0_balances, 4, .inl u.2.1)), (h0_inbox, ce_In h0_inbox_words u.2.2.1), (h0_inbox_words, .inl (c0_inbox_words, 60, .inl u.2.2.2))] := hD
    have hK : va_K (dC, dI) vwCl [(c0_balances, .int), (c0_inbox_words, .int)] s := hK
    refine tx_widen (k := 1) (n := 6) (by decide) (by decide) ?_
    have hP9 := hP.sub (ws' := [(h0, ce_Sc h0_balances h0_code h0_inbox h0_trueState h0_scratch h0_payments h0_proof h0_assertion h0_games u.1), (h0_balances, .inl (c0_balances, 4, .inl u.2.1)), (h0_inbox, ce_In h0_inbox_words u.2.2.1), (h0_inbox_words, .inl (c0_inbox_words, 60, .inl u.2.2.2))]) [0, 1, 2, 3] rfl
    have hD9 := hD.sub (ws' := [(h0, ce_Sc h0_balances h0_code h0_inbox h0_trueState h0_scratch h0_payments h0_proof h0_assertion h0_games u.1), (h0_balances, .inl (c0_balances, 4, .inl u.2.1)), (h0_inbox, ce_In h0_inbox_words u.2.2.1), (h0_inbox_words, .inl (c0_inbox_words, 60, .inl u.2.2.2))]) [0, 1, 2, 3] (by decide) rfl
    have hK9 := hK.sub (tys' := [(c0_balances, .int), (c0_inbox_words, .int)]) [0, 1] rfl
    exact tx_out (fun x hx => (hTab x hx).elim) hlocks (fun t ht ha => ⟨Or.inr ⟨q9, E9, ce, (u.1, u.2.1, u.2.2.1, u.2.2.2), rfl, hw, ⟨by rw [ht]; exact hP9, va_K.moved ha hK9, hD9⟩, by rw [ht]; exact hce, hcv, hcl⟩, hS.F ht⟩) hS.2.2 (by decide) (by decide)
  · intro _ u2 t H1 locs ht hvm hw hB hz1 hk1 hS
    obtain ⟨hP1, hK1, hD1⟩ := hB
    rw [ht] at hP1
    have hK1 := va_K.moved hvm.symm hK1
    obtain ⟨hP, hD⟩ := va_join (wr := [(h0, ce_Sc h0_balances h0_code h0_inbox h0_trueState h0_scratch h0_payments h0_proof h0_assertion h0_games u.1), (h0_balances, .inl (c0_balances, 4, .inl u.2.1)), (h0_inbox, ce_In h0_inbox_words u.2.2.1), (h0_inbox_words, .inl (c0_inbox_words, 60, .inl u.2.2.2))]) (w1 := []) hP hD [] [0, 1, 2, 3] rfl rfl (by decide) (by decide) hk1 hFc hP1 hD1
    have hK := (hK.sub (tys' := [(c0_balances, .int), (c0_inbox_words, .int)]) [0, 1] rfl).app hK1
    generalize H1 = H at hP hS ⊢
    have hP : va_P (dC, dI) vwCl [(h0, ce_Sc h0_balances h0_code h0_inbox h0_trueState h0_scratch h0_payments h0_proof h0_assertion h0_games u.1), (h0_balances, .inl (c0_balances, 4, .inl u.2.1)), (h0_inbox, ce_In h0_inbox_words u.2.2.1), (h0_inbox_words, .inl (c0_inbox_words, 60, .inl u.2.2.2))] H := hP
    have hD : va_D A [(h0, ce_Sc h0_balances h0_code h0_inbox h0_trueState h0_scratch h0_payments h0_proof h0_assertion h0_games u.1), (h0_balances, .inl (c0_balances, 4, .inl u.2.1)), (h0_inbox, ce_In h0_inbox_words u.2.2.1), (h0_inbox_words, .inl (c0_inbox_words, 60, .inl u.2.2.2))] := hD
    have hK : va_K (dC, dI) vwCl [(c0_balances, .int), (c0_inbox_words, .int)] s := hK
    refine W.widen (k := 1) (n := 6) (by decide) (by decide) ?_
    refine W.eq (g2 := F0 m 4 ls []) rfl ?_
    refine lv_iload_n hx hb dSc_deposit_4 rfl (lv_at hl 2 rfl) ?_
    refine lv_iconst (v := 1) hx hb dSc_deposit_5 (by decide) ?_
    refine lv_icmp_ge (tgt := 19) hx hb dSc_deposit_6 (by decide) (fun cc4 => ?_) (fun cc4 => ?_)
    · have hw := hw.1 cc4
      refine lv_aload_n hx hb dSc_deposit_19 rfl (lv_at hl 0 rfl) ?_
      refine va_get (D := (dC, dI)) (ci := 7) (v := .ref h0_balances) (C := "StepCourt") (T := TSc) (N := 13) hx hb hq inSc hown hK hP 0 rfl rfl 0 (by decide) (hq _ wt_254) (fun _ h9 => h9) rfl dSc_deposit_20 ?_
      refine lv_iload_n hx hb dSc_deposit_23 rfl (lv_at hl 1 rfl) ?_
      obtain ⟨hh5, hw⟩ := hw
      refine va_iald hx hb hK hP 1 0 rfl rfl hh5 dSc_deposit_24 ?_
      refine lv_iload_n hx hb dSc_deposit_25 rfl (lv_at hl 2 rfl) ?_
      refine lv_icmp_lt (tgt := 40) hx hb dSc_deposit_26 (by decide) (fun cc6 => ?_) (fun cc6 => ?_)
      · have hw := hw.1 cc6
        have hP9 := hP.sub (ws' := [(h0, ce_Sc h0_balances h0_code h0_inbox h0_trueState h0_scratch h0_payments h0_proof h0_assertion h0_games u.1), (h0_balances, .inl (c0_balances, 4, .inl u.2.1)), (h0_inbox, ce_In h0_inbox_words u.2.2.1), (h0_inbox_words, .inl (c0_inbox_words, 60, .inl u.2.2.2))]) [0, 1, 2, 3] rfl
        have hD9 := hD.sub (ws' := [(h0, ce_Sc h0_balances h0_code h0_inbox h0_trueState h0_scratch h0_payments h0_proof h0_assertion h0_games u.1), (h0_balances, .inl (c0_balances, 4, .inl u.2.1)), (h0_inbox, ce_In h0_inbox_words u.2.2.1), (h0_inbox_words, .inl (c0_inbox_words, 60, .inl u.2.2.2))]) [0, 1, 2, 3] (by decide) rfl
        have hK9 := hK.sub (tys' := [(c0_balances, .int), (c0_inbox_words, .int)]) [0, 1] rfl
        obtain ⟨sa, hstr⟩ := hZ.2.2.1 _ (List.mem_of_getElem? (i := 2) rfl)
        exact tx_throw (own := "StepCourt") (cls := "java/lang/UnsupportedOperationException") (names := ["java/lang/RuntimeException", "java/lang/Exception"]) (A := A) hx hb hl9 hown (by decide +kernel) (by decide +kernel) oa_102 hq wt_535 wt_16 hZ hstr hT9 hS (by rw [hml]; exact hl.1) dSc_deposit_40 dSc_deposit_43 dSc_deposit_44 dSc_deposit_46 dSc_deposit_49 hTab hlocks (by decide) (by decide) (by decide) (by decide) (fun t ce q ha hz1 hk1 hce hcv hcl => ⟨Or.inr ⟨q, _, ce, (u.1, u.2.1, u.2.2.1, u.2.2.2), rfl, hw, ⟨hP9.kept (fun k q hk => hk1 q.1 (hP9 k q hk).lt), va_K.moved ha hK9, hD9⟩, hce, hcv, hcl⟩, Nat.le_trans hS.1 hz1, fun z h1 h2 => (hk1 z (Nat.lt_of_lt_of_le h1 hS.1)).trans (hS.2.1 z h1 h2)⟩) hS.2.2 (by decide) (by decide)
      · have hw := hw.2 cc6
        refine lv_aload_n hx hb dSc_deposit_29 rfl (lv_at hl 0 rfl) ?_
        refine va_get (D := (dC, dI)) (ci := 7) (v := .ref h0_inbox) (C := "StepCourt") (T := TSc) (N := 13) hx hb hq inSc hown hK hP 0 rfl rfl 2 (by decide) (hq _ wt_256) (fun _ h9 => h9) rfl dSc_deposit_30 ?_
        have hPc := hP.sub (ws' := [(h0_inbox, ce_In h0_inbox_words u.2.2.1)]) [2] rfl
        have hDc := hD.sub (ws' := [(h0_inbox, ce_In h0_inbox_words u.2.2.1)]) [2] (by decide) rfl
        have hKc := hK.sub (tys' := []) [] rfl
        have hFc := va_free (wc := [(h0_inbox, ce_In h0_inbox_words u.2.2.1)]) hD hS hA [2] rfl
        refine va_calli (va_runV (As := []) (rest := []) ⟨hx, hb, hml, hown, hq⟩ (mt_In_room l dC dI h0_inbox h0_inbox_words H.size _ u.2.2.1 hw) ⟨cq_B 0 hq wt_534 wt_531 wt_3 rfl rfl hd_In_room ⟨Nat.le_of_ble_eq_true rfl, Nat.le_of_ble_eq_true rfl⟩, (hq _ wt_532), (hq _ wt_533)⟩ ⟨kp_bl, va_recv hKc hPc (ci := 3) (q0 := 0) rfl rfl, kp_at hPc hKc hDc hZ⟩ rfl rfl hl.1 rfl (lv_room (Nat.le_of_ble_eq_true rfl)) dSc_deposit_33 ⟨(by decide), (by decide)⟩) hS (fun q _ h => hFc q h) hFc (fun r7 u8 t H1 locs ht hvm hw hB hz1 hk1 hS => ?_)
        obtain ⟨hP1, hK1, hD1⟩ := hB
        rw [ht] at hP1
        have hK1 := va_K.moved hvm.symm hK1
        obtain ⟨hP, hD⟩ := va_join (wr := [(h0, ce_Sc h0_balances h0_code h0_inbox h0_trueState h0_scratch h0_payments h0_proof h0_assertion h0_games u.1), (h0_balances, .inl (c0_balances, 4, .inl u.2.1)), (h0_inbox_words, .inl (c0_inbox_words, 60, .inl u.2.2.2))]) (w1 := [(h0_inbox, ce_In h0_inbox_words u8)]) hP hD [2] [0, 1, 3] rfl rfl (by decide) (by decide) hk1 hFc hP1 hD1
        have hK := (hK.sub (tys' := [(c0_balances, .int), (c0_inbox_words, .int)]) [0, 1] rfl).app hK1
        generalize H1 = H at hP hS ⊢
        have hP : va_P (dC, dI) vwCl [(h0, ce_Sc h0_balances h0_code h0_inbox h0_trueState h0_scratch h0_payments h0_proof h0_assertion h0_games u.1), (h0_balances, .inl (c0_balances, 4, .inl u.2.1)), (h0_inbox_words, .inl (c0_inbox_words, 60, .inl u.2.2.2)), (h0_inbox, ce_In h0_inbox_words u8)] H := hP
        have hD : va_D A [(h0, ce_Sc h0_balances h0_code h0_inbox h0_trueState h0_scratch h0_payments h0_proof h0_assertion h0_games u.1), (h0_balances, .inl (c0_balances, 4, .inl u.2.1)), (h0_inbox_words, .inl (c0_inbox_words, 60, .inl u.2.2.2)), (h0_inbox, ce_In h0_inbox_words u8)] := hD
        have hK : va_K (dC, dI) vwCl [(c0_balances, .int), (c0_inbox_words, .int)] s := hK
        refine lv_iconst (v := 3) hx hb dSc_deposit_36 (by decide) ?_
        refine lv_icmp_ge (tgt := 50) hx hb dSc_deposit_37 (by decide) (fun cc9 => ?_) (fun cc9 => ?_)
        · have hw := hw.1 cc9
          refine lv_aload_n hx hb dSc_deposit_50 rfl (lv_at hl 0 rfl) ?_
          refine va_get (D := (dC, dI)) (ci := 7) (v := .ref h0_balances) (C := "StepCourt") (T := TSc) (N := 13) hx hb hq inSc hown hK hP 0 rfl rfl 0 (by decide) (hq _ wt_254) (fun _ h9 => h9) rfl dSc_deposit_51 ?_
          refine lv_iload_n hx hb dSc_deposit_54 rfl (lv_at hl 1 rfl) ?_
          refine lv_dup2_11 hx hb dSc_deposit_55 rfl rfl ?_
          obtain ⟨hh10, hw⟩ := hw
          refine va_iald hx hb hK hP 1 0 rfl rfl hh10 dSc_deposit_56 ?_
          refine lv_iload_n hx hb dSc_deposit_57 rfl (lv_at hl 2 rfl) ?_
          refine lv_isub hx hb dSc_deposit_58 ?_
          refine lv_topi (fun f11 ef11 => ?_)
          have hw := hw f11 ef11
          obtain ⟨hh12, hw⟩ := hw
          refine va_iast hx hb hK hP hD hS 1 0 rfl rfl hh12 dSc_deposit_59 (fun H locs hP hD hS => ?_)
          have hP : va_P (dC, dI) vwCl [(h0, ce_Sc h0_balances h0_code h0_inbox h0_trueState h0_scratch h0_payments h0_proof h0_assertion h0_games u.1), (h0_balances, .inl (c0_balances, 4, .inl (upd u.2.1 k1.toNatClampNeg f11))), (h0_inbox_words, .inl (c0_inbox_words, 60, .inl u.2.2.2)), (h0_inbox, ce_In h0_inbox_words u8)] H := hP
          have hD : va_D A [(h0, ce_Sc h0_balances h0_code h0_inbox h0_trueState h0_scratch h0_payments h0_proof h0_assertion h0_games u.1), (h0_balances, .inl (c0_balances, 4, .inl (upd u.2.1 k1.toNatClampNeg f11))), (h0_inbox_words, .inl (c0_inbox_words, 60, .inl u.2.2.2)), (h0_inbox, ce_In h0_inbox_words u8)] := hD
          refine lv_aload_n hx hb dSc_deposit_60 rfl (lv_at hl 0 rfl) ?_
          refine lv_dup hx hb dSc_deposit_61 rfl ?_
          refine va_get (D := (dC, dI)) (ci := 7) (v := .int u.1.2.1) (C := "StepCourt") (T := TSc) (N := 13) hx hb hq inSc hown hK hP 0 rfl rfl 10 (by decide) (hq _ wt_264) (fun _ h9 => h9) rfl dSc_deposit_62 ?_
          refine lv_iload_n hx hb dSc_deposit_65 rfl (lv_at hl 2 rfl) ?_
          refine lv_iadd hx hb dSc_deposit_66 ?_
          refine lv_topi (fun f13 ef13 => ?_)
          have hw := hw f13 ef13
          refine va_put (D := (dC, dI)) (ci := 7) (v := .int f13) (ty := .int) (C := "StepCourt") (T := TSc) (N := 13) hx hb hq inSc tySc tySc_ok nmSc hown hK hP hD hS 0 rfl rfl 10 (by decide) (hq _ wt_264) (fun _ h9 => h9) rfl (by decide +kernel) rfl rfl (Nat.le_of_ble_eq_true rfl) dSc_deposit_67 (fun H locs hP hD hS => ?_)
          have hP : va_P (dC, dI) vwCl [(h0, ce_Sc h0_balances h0_code h0_inbox h0_trueState h0_scratch h0_payments h0_proof h0_assertion h0_games (u.1.1, f13, u.1.2.2.1, u.1.2.2.2)), (h0_balances, .inl (c0_balances, 4, .inl (upd u.2.1 k1.toNatClampNeg f11))), (h0_inbox_words, .inl (c0_inbox_words, 60, .inl u.2.2.2)), (h0_inbox, ce_In h0_inbox_words u8)] H := hP
          have hD : va_D A [(h0, ce_Sc h0_balances h0_code h0_inbox h0_trueState h0_scratch h0_payments h0_proof h0_assertion h0_games (u.1.1, f13, u.1.2.2.1, u.1.2.2.2)), (h0_balances, .inl (c0_balances, 4, .inl (upd u.2.1 k1.toNatClampNeg f11))), (h0_inbox_words, .inl (c0_inbox_words, 60, .inl u.2.2.2)), (h0_inbox, ce_In h0_inbox_words u8)] := hD
          refine lv_aload_n hx hb dSc_deposit_70 rfl (lv_at hl 0 rfl) ?_
          refine va_get (D := (dC, dI)) (ci := 7) (v := .ref h0_inbox) (C := "StepCourt") (T := TSc) (N := 13) hx hb hq inSc hown hK hP 0 rfl rfl 2 (by decide) (hq _ wt_256) (fun _ h9 => h9) rfl dSc_deposit_71 ?_
          refine lv_iconst (v := 1) hx hb dSc_deposit_74 (by decide) ?_
          have hPc := hP.sub (ws' := [(h0_inbox, ce_In h0_inbox_words u8), (h0_inbox_words, .inl (c0_inbox_words, 60, .inl u.2.2.2))]) [3, 2] rfl
          have hDc := hD.sub (ws' := [(h0_inbox, ce_In h0_inbox_words u8), (h0_inbox_words, .inl (c0_inbox_words, 60, .inl u.2.2.2))]) [3, 2] (by decide) rfl
          have hKc := hK.sub (tys' := [(c0_inbox_words, .int)]) [1] rfl
          have hFc := va_free (wc := [(h0_inbox, ce_In h0_inbox_words u8), (h0_inbox_words, .inl (c0_inbox_words, 60, .inl u.2.2.2))]) hD hS hA [3, 2] rfl
          refine va_callv (va_runV (As := [.int 1]) (rest := []) ⟨hx, hb, hml, hown, hq⟩ (mt_In_add l dC dI h0_inbox h0_inbox_words c0_inbox_words H.size _ (u8, u.2.2.2) 1 hw) ⟨cq_B 1 hq wt_554 wt_551 wt_3 rfl rfl hd_In_add ⟨Nat.le_of_ble_eq_true rfl, Nat.le_of_ble_eq_true rfl⟩, (hq _ wt_552), (hq _ wt_553)⟩ ⟨kp_bl, va_recv hKc hPc (ci := 3) (q0 := 0) rfl rfl, kp_at hPc hKc hDc hZ⟩ rfl rfl hl.1 rfl (lv_room (Nat.le_of_ble_eq_true rfl)) dSc_deposit_75 ⟨(by decide), (by decide)⟩) hS (fun q _ h => hFc q h) hFc (fun u15 t H1 locs ht hvm hw hB hz1 hk1 hS => ?_)
          obtain ⟨hP1, hK1, hD1⟩ := hB
          rw [ht] at hP1
          have hK1 := va_K.moved hvm.symm hK1
          obtain ⟨hP, hD⟩ := va_join (wr := [(h0, ce_Sc h0_balances h0_code h0_inbox h0_trueState h0_scratch h0_payments h0_proof h0_assertion h0_games (u.1.1, f13, u.1.2.2.1, u.1.2.2.2)), (h0_balances, .inl (c0_balances, 4, .inl (upd u.2.1 k1.toNatClampNeg f11)))]) (w1 := [(h0_inbox, ce_In h0_inbox_words u15.1), (h0_inbox_words, .inl (c0_inbox_words, 60, .inl u15.2))]) hP hD [3, 2] [0, 1] rfl rfl (by decide) (by decide) hk1 hFc hP1 hD1
          have hK := (hK.sub (tys' := [(c0_balances, .int)]) [0] rfl).app hK1
          generalize H1 = H at hP hS ⊢
          have hP : va_P (dC, dI) vwCl [(h0, ce_Sc h0_balances h0_code h0_inbox h0_trueState h0_scratch h0_payments h0_proof h0_assertion h0_games (u.1.1, f13, u.1.2.2.1, u.1.2.2.2)), (h0_balances, .inl (c0_balances, 4, .inl (upd u.2.1 k1.toNatClampNeg f11))), (h0_inbox, ce_In h0_inbox_words u15.1), (h0_inbox_words, .inl (c0_inbox_words, 60, .inl u15.2))] H := hP
          have hD : va_D A [(h0, ce_Sc h0_balances h0_code h0_inbox h0_trueState h0_scratch h0_payments h0_proof h0_assertion h0_games (u.1.1, f13, u.1.2.2.1, u.1.2.2.2)), (h0_balances, .inl (c0_balances, 4, .inl (upd u.2.1 k1.toNatClampNeg f11))), (h0_inbox, ce_In h0_inbox_words u15.1), (h0_inbox_words, .inl (c0_inbox_words, 60, .inl u15.2))] := hD
          have hK : va_K (dC, dI) vwCl [(c0_balances, .int), (c0_inbox_words, .int)] s := hK
          refine lv_aload_n hx hb dSc_deposit_78 rfl (lv_at hl 0 rfl) ?_
          refine va_get (D := (dC, dI)) (ci := 7) (v := .ref h0_inbox) (C := "StepCourt") (T := TSc) (N := 13) hx hb hq inSc hown hK hP 0 rfl rfl 2 (by decide) (hq _ wt_256) (fun _ h9 => h9) rfl dSc_deposit_79 ?_
          refine lv_iload_n hx hb dSc_deposit_82 rfl (lv_at hl 1 rfl) ?_
          have hPc := hP.sub (ws' := [(h0_inbox, ce_In h0_inbox_words u15.1), (h0_inbox_words, .inl (c0_inbox_words, 60, .inl u15.2))]) [2, 3] rfl
          have hDc := hD.sub (ws' := [(h0_inbox, ce_In h0_inbox_words u15.1), (h0_inbox_words, .inl (c0_inbox_words, 60, .inl u15.2))]) [2, 3] (by decide) rfl
          have hKc := hK.sub (tys' := [(c0_inbox_words, .int)]) [1] rfl
          have hFc := va_free (wc := [(h0_inbox, ce_In h0_inbox_words u15.1), (h0_inbox_words, .inl (c0_inbox_words, 60, .inl u15.2))]) hD hS hA [2, 3] rfl
          refine va_callv (va_runV (As := [.int k1]) (rest := []) ⟨hx, hb, hml, hown, hq⟩ (mt_In_add l dC dI h0_inbox h0_inbox_words c0_inbox_words H.size _ (u15.1, u15.2) k1 hw) ⟨cq_B 1 hq wt_554 wt_551 wt_3 rfl rfl hd_In_add ⟨Nat.le_of_ble_eq_true rfl, Nat.le_of_ble_eq_true rfl⟩, (hq _ wt_552), (hq _ wt_553)⟩ ⟨kp_bl, va_recv hKc hPc (ci := 3) (q0 := 0) rfl rfl, kp_at hPc hKc hDc hZ⟩ rfl rfl hl.1 rfl (lv_room (Nat.le_of_ble_eq_true rfl)) dSc_deposit_83 ⟨(by decide), (by decide)⟩) hS (fun q _ h => hFc q h) hFc (fun u17 t H1 locs ht hvm hw hB hz1 hk1 hS => ?_)
          obtain ⟨hP1, hK1, hD1⟩ := hB
          rw [ht] at hP1
          have hK1 := va_K.moved hvm.symm hK1
          obtain ⟨hP, hD⟩ := va_join (wr := [(h0, ce_Sc h0_balances h0_code h0_inbox h0_trueState h0_scratch h0_payments h0_proof h0_assertion h0_games (u.1.1, f13, u.1.2.2.1, u.1.2.2.2)), (h0_balances, .inl (c0_balances, 4, .inl (upd u.2.1 k1.toNatClampNeg f11)))]) (w1 := [(h0_inbox, ce_In h0_inbox_words u17.1), (h0_inbox_words, .inl (c0_inbox_words, 60, .inl u17.2))]) hP hD [2, 3] [0, 1] rfl rfl (by decide) (by decide) hk1 hFc hP1 hD1
          have hK := (hK.sub (tys' := [(c0_balances, .int)]) [0] rfl).app hK1
          generalize H1 = H at hP hS ⊢
          have hP : va_P (dC, dI) vwCl [(h0, ce_Sc h0_balances h0_code h0_inbox h0_trueState h0_scratch h0_payments h0_proof h0_assertion h0_games (u.1.1, f13, u.1.2.2.1, u.1.2.2.2)), (h0_balances, .inl (c0_balances, 4, .inl (upd u.2.1 k1.toNatClampNeg f11))), (h0_inbox, ce_In h0_inbox_words u17.1), (h0_inbox_words, .inl (c0_inbox_words, 60, .inl u17.2))] H := hP
          have hD : va_D A [(h0, ce_Sc h0_balances h0_code h0_inbox h0_trueState h0_scratch h0_payments h0_proof h0_assertion h0_games (u.1.1, f13, u.1.2.2.1, u.1.2.2.2)), (h0_balances, .inl (c0_balances, 4, .inl (upd u.2.1 k1.toNatClampNeg f11))), (h0_inbox, ce_In h0_inbox_words u17.1), (h0_inbox_words, .inl (c0_inbox_words, 60, .inl u17.2))] := hD
          have hK : va_K (dC, dI) vwCl [(c0_balances, .int), (c0_inbox_words, .int)] s := hK
          refine lv_aload_n hx hb dSc_deposit_86 rfl (lv_at hl 0 rfl) ?_
          refine va_get (D := (dC, dI)) (ci := 7) (v := .ref h0_inbox) (C := "StepCourt") (T := TSc) (N := 13) hx hb hq inSc hown hK hP 0 rfl rfl 2 (by decide) (hq _ wt_256) (fun _ h9 => h9) rfl dSc_deposit_87 ?_
          refine lv_iload_n hx hb dSc_deposit_90 rfl (lv_at hl 2 rfl) ?_
          have hPc := hP.sub (ws' := [(h0_inbox, ce_In h0_inbox_words u17.1), (h0_inbox_words, .inl (c0_inbox_words, 60, .inl u17.2))]) [2, 3] rfl
          have hDc := hD.sub (ws' := [(h0_inbox, ce_In h0_inbox_words u17.1), (h0_inbox_words, .inl (c0_inbox_words, 60, .inl u17.2))]) [2, 3] (by decide) rfl
          have hKc := hK.sub (tys' := [(c0_inbox_words, .int)]) [1] rfl
          have hFc := va_free (wc := [(h0_inbox, ce_In h0_inbox_words u17.1), (h0_inbox_words, .inl (c0_inbox_words, 60, .inl u17.2))]) hD hS hA [2, 3] rfl
          refine va_callv (va_runV (As := [.int k2]) (rest := []) ⟨hx, hb, hml, hown, hq⟩ (mt_In_add l dC dI h0_inbox h0_inbox_words c0_inbox_words H.size _ (u17.1, u17.2) k2 hw) ⟨cq_B 1 hq wt_554 wt_551 wt_3 rfl rfl hd_In_add ⟨Nat.le_of_ble_eq_true rfl, Nat.le_of_ble_eq_true rfl⟩, (hq _ wt_552), (hq _ wt_553)⟩ ⟨kp_bl, va_recv hKc hPc (ci := 3) (q0 := 0) rfl rfl, kp_at hPc hKc hDc hZ⟩ rfl rfl hl.1 rfl (lv_room (Nat.le_of_ble_eq_true rfl)) dSc_deposit_91 ⟨(by decide), (by decide)⟩) hS (fun q _ h => hFc q h) hFc (fun u19 t H1 locs ht hvm hw hB hz1 hk1 hS => ?_)
          obtain ⟨hP1, hK1, hD1⟩ := hB
          rw [ht] at hP1
          have hK1 := va_K.moved hvm.symm hK1
          obtain ⟨hP, hD⟩ := va_join (wr := [(h0, ce_Sc h0_balances h0_code h0_inbox h0_trueState h0_scratch h0_payments h0_proof h0_assertion h0_games (u.1.1, f13, u.1.2.2.1, u.1.2.2.2)), (h0_balances, .inl (c0_balances, 4, .inl (upd u.2.1 k1.toNatClampNeg f11)))]) (w1 := [(h0_inbox, ce_In h0_inbox_words u19.1), (h0_inbox_words, .inl (c0_inbox_words, 60, .inl u19.2))]) hP hD [2, 3] [0, 1] rfl rfl (by decide) (by decide) hk1 hFc hP1 hD1
          have hK := (hK.sub (tys' := [(c0_balances, .int)]) [0] rfl).app hK1
          generalize H1 = H at hP hS ⊢
          have hP : va_P (dC, dI) vwCl [(h0, ce_Sc h0_balances h0_code h0_inbox h0_trueState h0_scratch h0_payments h0_proof h0_assertion h0_games (u.1.1, f13, u.1.2.2.1, u.1.2.2.2)), (h0_balances, .inl (c0_balances, 4, .inl (upd u.2.1 k1.toNatClampNeg f11))), (h0_inbox, ce_In h0_inbox_words u19.1), (h0_inbox_words, .inl (c0_inbox_words, 60, .inl u19.2))] H := hP
          have hD : va_D A [(h0, ce_Sc h0_balances h0_code h0_inbox h0_trueState h0_scratch h0_payments h0_proof h0_assertion h0_games (u.1.1, f13, u.1.2.2.1, u.1.2.2.2)), (h0_balances, .inl (c0_balances, 4, .inl (upd u.2.1 k1.toNatClampNeg f11))), (h0_inbox, ce_In h0_inbox_words u19.1), (h0_inbox_words, .inl (c0_inbox_words, 60, .inl u19.2))] := hD
          have hK : va_K (dC, dI) vwCl [(c0_balances, .int), (c0_inbox_words, .int)] s := hK
          refine lv_aload_n hx hb dSc_deposit_94 rfl (lv_at hl 0 rfl) ?_
          refine va_get (D := (dC, dI)) (ci := 7) (v := .ref h0_inbox) (C := "StepCourt") (T := TSc) (N := 13) hx hb hq inSc hown hK hP 0 rfl rfl 2 (by decide) (hq _ wt_256) (fun _ h9 => h9) rfl dSc_deposit_95 ?_
          refine va_getN (D := (dC, dI)) (ci := 3) (v := .int u19.1) (C := "StepCourt$Inbox") (T := TIn) (N := 2) hx hb hq inIn hown hK hP 2 rfl rfl 1 (by decide) (va_Nw.use rfl (hZ.1 _ zt_53)) (fun _ h9 => h9) rfl dSc_deposit_98 ?_
          refine tx_ret (Q1 := tx_Q tx_i post px (fun u9 => kp_B dC dI A (ww_Sc_deposit h0 h0_balances h0_inbox h0_inbox_words h0_code h0_trueState h0_scratch h0_payments h0_proof h0_assertion h0_games c0_balances c0_inbox_words u9) [(c0_balances, .int), (c0_inbox_words, .int)]) A) (fun _ _ h => h) ?_
          have hP9 := hP.sub (ws' := [(h0, ce_Sc h0_balances h0_code h0_inbox h0_trueState h0_scratch h0_payments h0_proof h0_assertion h0_games (u.1.1, f13, u.1.2.2.1, u.1.2.2.2)), (h0_balances, .inl (c0_balances, 4, .inl (upd u.2.1 k1.toNatClampNeg f11))), (h0_inbox, ce_In h0_inbox_words u19.1), (h0_inbox_words, .inl (c0_inbox_words, 60, .inl u19.2))]) [0, 1, 2, 3] rfl
          have hD9 := hD.sub (ws' := [(h0, ce_Sc h0_balances h0_code h0_inbox h0_trueState h0_scratch h0_payments h0_proof h0_assertion h0_games (u.1.1, f13, u.1.2.2.1, u.1.2.2.2)), (h0_balances, .inl (c0_balances, 4, .inl (upd u.2.1 k1.toNatClampNeg f11))), (h0_inbox, ce_In h0_inbox_words u19.1), (h0_inbox_words, .inl (c0_inbox_words, 60, .inl u19.2))]) [0, 1, 2, 3] (by decide) rfl
          have hK9 := hK.sub (tys' := [(c0_balances, .int), (c0_inbox_words, .int)]) [0, 1] rfl
          refine W.widen (k := 2) (n := 12) (by decide) (by decide) ?_
          exact W.iret (v := u19.1) hx hb hr (fun t ht hW => ⟨Or.inl ⟨u19.1, ((u.1.1, f13, u.1.2.2.1, u.1.2.2.2), (upd u.2.1 k1.toNatClampNeg f11), u19.1, u19.2), rfl, hw, by rw [ht]; exact hP9, va_K.moved hW.alike hK9, hD9⟩, hS.F ht⟩) hS.2.2 dSc_deposit_101
        · have hw := hw.2 cc9
          have hP9 := hP.sub (ws' := [(h0, ce_Sc h0_balances h0_code h0_inbox h0_trueState h0_scratch h0_payments h0_proof h0_assertion h0_games u.1), (h0_balances, .inl (c0_balances, 4, .inl u.2.1)), (h0_inbox, ce_In h0_inbox_words u8), (h0_inbox_words, .inl (c0_inbox_words, 60, .inl u.2.2.2))]) [0, 1, 3, 2] rfl
          have hD9 := hD.sub (ws' := [(h0, ce_Sc h0_balances h0_code h0_inbox h0_trueState h0_scratch h0_payments h0_proof h0_assertion h0_games u.1), (h0_balances, .inl (c0_balances, 4, .inl u.2.1)), (h0_inbox, ce_In h0_inbox_words u8), (h0_inbox_words, .inl (c0_inbox_words, 60, .inl u.2.2.2))]) [0, 1, 3, 2] (by decide) rfl
          have hK9 := hK.sub (tys' := [(c0_balances, .int), (c0_inbox_words, .int)]) [0, 1] rfl
          obtain ⟨sa, hstr⟩ := hZ.2.2.1 _ (List.mem_of_getElem? (i := 2) rfl)
          exact tx_throw (own := "StepCourt") (cls := "java/lang/UnsupportedOperationException") (names := ["java/lang/RuntimeException", "java/lang/Exception"]) (A := A) hx hb hl9 hown (by decide +kernel) (by decide +kernel) oa_102 hq wt_535 wt_16 hZ hstr hT9 hS (by rw [hml]; exact hl.1) dSc_deposit_40 dSc_deposit_43 dSc_deposit_44 dSc_deposit_46 dSc_deposit_49 hTab hlocks (by decide) (by decide) (by decide) (by decide) (fun t ce q ha hz1 hk1 hce hcv hcl => ⟨Or.inr ⟨q, _, ce, (u.1, u.2.1, u8, u.2.2.2), rfl, hw, ⟨hP9.kept (fun k q hk => hk1 q.1 (hP9 k q hk).lt), va_K.moved ha hK9, hD9⟩, hce, hcv, hcl⟩, Nat.le_trans hS.1 hz1, fun z h1 h2 => (hk1 z (Nat.lt_of_lt_of_le h1 hS.1)).trans (hS.2.1 z h1 h2)⟩) hS.2.2 (by decide) (by decide)
    · have hw := hw.2 cc4
      have hP9 := hP.sub (ws' := [(h0, ce_Sc h0_balances h0_code h0_inbox h0_trueState h0_scratch h0_payments h0_proof h0_assertion h0_games u.1), (h0_balances, .inl (c0_balances, 4, .inl u.2.1)), (h0_inbox, ce_In h0_inbox_words u.2.2.1), (h0_inbox_words, .inl (c0_inbox_words, 60, .inl u.2.2.2))]) [0, 1, 2, 3] rfl
      have hD9 := hD.sub (ws' := [(h0, ce_Sc h0_balances h0_code h0_inbox h0_trueState h0_scratch h0_payments h0_proof h0_assertion h0_games u.1), (h0_balances, .inl (c0_balances, 4, .inl u.2.1)), (h0_inbox, ce_In h0_inbox_words u.2.2.1), (h0_inbox_words, .inl (c0_inbox_words, 60, .inl u.2.2.2))]) [0, 1, 2, 3] (by decide) rfl
      have hK9 := hK.sub (tys' := [(c0_balances, .int), (c0_inbox_words, .int)]) [0, 1] rfl
      obtain ⟨sa, hstr⟩ := hZ.2.2.1 _ (List.mem_of_getElem? (i := 1) rfl)
      exact tx_throw (own := "StepCourt") (cls := "java/lang/IllegalArgumentException") (names := ["java/lang/RuntimeException", "java/lang/Exception"]) (A := A) hx hb hl9 hown (by decide +kernel) (by decide +kernel) oa_91 hq wt_515 wt_15 hZ hstr hT9 hS (by rw [hml]; exact hl.1) dSc_deposit_9 dSc_deposit_12 dSc_deposit_13 dSc_deposit_15 dSc_deposit_18 hTab hlocks (by decide) (by decide) (by decide) (by decide) (fun t ce q ha hz1 hk1 hce hcv hcl => ⟨Or.inr ⟨q, _, ce, (u.1, u.2.1, u.2.2.1, u.2.2.2), rfl, hw, ⟨hP9.kept (fun k q hk => hk1 q.1 (hP9 k q hk).lt), va_K.moved ha hK9, hD9⟩, hce, hcv, hcl⟩, Nat.le_trans hS.1 hz1, fun z h1 h2 => (hk1 z (Nat.lt_of_lt_of_le h1 hS.1)).trans (hS.2.1 z h1 h2)⟩) hS.2.2 (by decide) (by decide)
abbrev ww_Sc_send (h0 h0_inbox h0_inbox_words h0_balances h0_code h0_trueState h0_scratch h0_payments h0_proof h0_assertion h0_games : Nat) (c0_inbox_words : ClassId) (u : ct_Sc × ct_In × (Nat → Int32)) : va_W := [(h0, ce_Sc h0_balances h0_code h0_inbox h0_trueState h0_scratch h0_payments h0_proof h0_assertion h0_games u.1), (h0_inbox, ce_In h0_inbox_words u.2.1), (h0_inbox_words, .inl (c0_inbox_words, 60, .inl u.2.2))]
def wp_Sc_send (post : Int32 → (ct_Sc × ct_In × (Nat → Int32)) → Prop) (px : String → (ct_Sc × ct_In × (Nat → Int32)) → Prop) (u : ct_Sc × ct_In × (Nat → Int32)) (k1 : Int32) : Prop := wp_In_room (fun r1 u2 => (((1 ≤ r1 → (wp_In_add (fun u5 => (post u5.1 (u.1, u5.1, u5.2))) (u2, u.2.2) k1 )) ∧ (¬ 1 ≤ r1 → (px "java/lang/UnsupportedOperationException" (u.1, u2, u.2.2)))))) u.2.1 
set_option maxHeartbeats 4000000 in
set_option maxRecDepth 100000 in
theorem mt_Sc_send (l : Launch) (hl9 : l.stackTraces = false) (dC : Nat → ClassId) (dI : Nat → Nat → Nat) (h0 h0_inbox h0_inbox_words h0_balances h0_code h0_trueState h0_scratch h0_payments h0_proof h0_assertion h0_games : Nat) (c0_inbox_words : ClassId) (sz : Nat) (post : Int32 → (ct_Sc × ct_In × (Nat → Int32)) → Prop) (px : String → (ct_Sc × ct_In × (Nat → Int32)) → Prop) (u : ct_Sc × ct_In × (Nat → Int32)) (k1 : Int32) (hw : wp_Sc_send post px u k1) : tx_Met l ySc_send wsSc_send ({ frames := 6, cells := 1, slots := 6, locals := 82 }) (kx_P dC dI [.ref h0, .int k1] sz (ww_Sc_send h0 h0_inbox h0_inbox_words h0_balances h0_code h0_trueState h0_scratch h0_payments h0_proof h0_assertion h0_games c0_inbox_words u) [(c0_inbox_words, .int)]) (tx_Q tx_i post px (fun u9 => kp_B dC dI (va_A (ww_Sc_send h0 h0_inbox h0_inbox_words h0_balances h0_code h0_trueState h0_scratch h0_payments h0_proof h0_assertion h0_games c0_inbox_words u) sz) (ww_Sc_send h0 h0_inbox h0_inbox_words h0_balances h0_code h0_trueState h0_scratch h0_payments h0_proof h0_assertion h0_games c0_inbox_words u9) [(c0_inbox_words, .int)]) (va_A (ww_Sc_send h0 h0_inbox h0_inbox_words h0_balances h0_code h0_trueState h0_scratch h0_payments h0_proof h0_assertion h0_games c0_inbox_words u) sz)) 1 6 (va_A (ww_Sc_send h0 h0_inbox h0_inbox_words h0_balances h0_code h0_trueState h0_scratch h0_payments h0_proof h0_assertion h0_games c0_inbox_words u) sz) := by
  refine tx_ofW (cc := cSc_send) (maxL := 2) (ret := (some .int)) (by decide) rfl ?_
  intro p e s m args below meth c s₁ B hml hTab hv
  obtain ⟨rfl, hsz, hP, hK, hD0, hZ, hT9⟩ := hv
  have hx := B.exec
  have hb := B.bytes
  have hr := B.returns
  have hq : ∀ w ∈ wz, w.before _ s = true := fun w h => atoms_spec (ws := wsSc_send) B.pre w (List.mem_cons_of_mem _ h)
  have hown : s.vm.findClass "StepCourt" = some m.cls := findClass_of_methodNamed B.named
  have hlocks := B.notSynchronized
  subst hsz
  have hD := hD0.self (sz := s.heap.size)
  generalize hAe : va_A (ww_Sc_send h0 h0_inbox h0_inbox_words h0_balances h0_code h0_trueState h0_scratch h0_payments h0_proof h0_assertion h0_games c0_inbox_words u) s.heap.size = A at hD hT9 ⊢
  have hA : ∀ q : Nat, s.heap.size ≤ q → A q := fun q h => by rw [← hAe]; exact Or.inr h
  have hS : va_S A s.heap s.heap [] := va_S.rf
  have hP : va_P (dC, dI) vwCl [(h0, ce_Sc h0_balances h0_code h0_inbox h0_trueState h0_scratch h0_payments h0_proof h0_assertion h0_games u.1), (h0_inbox, ce_In h0_inbox_words u.2.1), (h0_inbox_words, .inl (c0_inbox_words, 60, .inl u.2.2))] s.heap := hP
  have hD : va_D A [(h0, ce_Sc h0_balances h0_code h0_inbox h0_trueState h0_scratch h0_payments h0_proof h0_assertion h0_games u.1), (h0_inbox, ce_In h0_inbox_words u.2.1), (h0_inbox_words, .inl (c0_inbox_words, 60, .inl u.2.2))] := hD
  have hl := lv_entry ([.ref h0, .int k1]) (n := 2) (Nat.le_of_ble_eq_true rfl)
  rw [lg_entry_eq]
  generalize (lg_sl ([.ref h0, .int k1]) ++ List.replicate (2 - (lg_sl ([.ref h0, .int k1])).length) Slot.unset).toArray = ls at hl ⊢
  have hl : lv_has ls 2 [(0, .ref h0), (1, .int k1)] := hl
  skip
  refine lv_aload_n hx hb dSc_send_0 rfl (lv_at hl 0 rfl) ?_
  refine va_get (D := (dC, dI)) (ci := 7) (v := .ref h0_inbox) (C := "StepCourt") (T := TSc) (N := 13) hx hb hq inSc hown hK hP 0 rfl rfl 2 (by decide) (hq _ wt_256) (fun _ h9 => h9) rfl dSc_send_1 ?_
  have hPc := hP.sub (ws' := [(h0_inbox, ce_In h0_inbox_words u.2.1)]) [1] rfl
  have hDc := hD.sub (ws' := [(h0_inbox, ce_In h0_inbox_words u.2.1)]) [1] (by decide) rfl
  have hKc := hK.sub (tys' := []) [] rfl
  have hFc := va_free (wc := [(h0_inbox, ce_In h0_inbox_words u.2.1)]) hD hS hA [1] rfl
  refine va_calli (va_runV (As := []) (rest := []) ⟨hx, hb, hml, hown, hq⟩ (mt_In_room l dC dI h0_inbox h0_inbox_words s.heap.size _ u.2.1 hw) ⟨cq_B 0 hq wt_534 wt_531 wt_3 rfl rfl hd_In_room ⟨Nat.le_of_ble_eq_true rfl, Nat.le_of_ble_eq_true rfl⟩, (hq _ wt_532), (hq _ wt_533)⟩ ⟨kp_bl, va_recv hKc hPc (ci := 3) (q0 := 0) rfl rfl, kp_at hPc hKc hDc hZ⟩ rfl rfl hl.1 rfl (lv_room (Nat.le_of_ble_eq_true rfl)) dSc_send_4 ⟨(by decide), (by decide)⟩) hS (fun q _ h => hFc q h) hFc (fun r1 u2 t H1 locs ht hvm hw hB hz1 hk1 hS => ?_)
  obtain ⟨hP1, hK1, hD1⟩ := hB
  rw [ht] at hP1
  have hK1 := va_K.moved hvm.symm hK1
  obtain ⟨hP, hD⟩ := va_join (wr := [(h0, ce_Sc h0_balances h0_code h0_inbox h0_trueState h0_scratch h0_payments h0_proof h0_assertion h0_games u.1), (h0_inbox_words, .inl (c0_inbox_words, 60, .inl u.2.2))]) (w1 := [(h0_inbox, ce_In h0_inbox_words u2)]) hP hD [1] [0, 2] rfl rfl (by decide) (by decide) hk1 hFc hP1 hD1
  have hK := (hK.sub (tys' := [(c0_inbox_words, .int)]) [0] rfl).app hK1
  generalize H1 = H at hP hS ⊢
  have hP : va_P (dC, dI) vwCl [(h0, ce_Sc h0_balances h0_code h0_inbox h0_trueState h0_scratch h0_payments h0_proof h0_assertion h0_games u.1), (h0_inbox_words, .inl (c0_inbox_words, 60, .inl u.2.2)), (h0_inbox, ce_In h0_inbox_words u2)] H := hP
  have hD : va_D A [(h0, ce_Sc h0_balances h0_code h0_inbox h0_trueState h0_scratch h0_payments h0_proof h0_assertion h0_games u.1), (h0_inbox_words, .inl (c0_inbox_words, 60, .inl u.2.2)), (h0_inbox, ce_In h0_inbox_words u2)] := hD
  have hK : va_K (dC, dI) vwCl [(c0_inbox_words, .int)] s := hK
  refine lv_iconst (v := 1) hx hb dSc_send_7 (by decide) ?_
  refine lv_icmp_ge (tgt := 21) hx hb dSc_send_8 (by decide) (fun cc3 => ?_) (fun cc3 => ?_)
  · have hw := hw.1 cc3
    refine lv_aload_n hx hb dSc_send_21 rfl (lv_at hl 0 rfl) ?_
    refine va_get (D := (dC, dI)) (ci := 7) (v := .ref h0_inbox) (C := "StepCourt") (T := TSc) (N := 13) hx hb hq inSc hown hK hP 0 rfl rfl 2 (by decide) (hq _ wt_256) (fun _ h9 => h9) rfl dSc_send_22 ?_
    refine lv_iload_n hx hb dSc_send_25 rfl (lv_at hl 1 rfl) ?_
    have hPc := hP.sub (ws' := [(h0_inbox, ce_In h0_inbox_words u2), (h0_inbox_words, .inl (c0_inbox_words, 60, .inl u.2.2))]) [2, 1] rfl
    have hDc := hD.sub (ws' := [(h0_inbox, ce_In h0_inbox_words u2), (h0_inbox_words, .inl (c0_inbox_words, 60, .inl u.2.2))]) [2, 1] (by decide) rfl
    have hKc := hK.sub (tys' := [(c0_inbox_words, .int)]) [0] rfl
    have hFc := va_free (wc := [(h0_inbox, ce_In h0_inbox_words u2), (h0_inbox_words, .inl (c0_inbox_words, 60, .inl u.2.2))]) hD hS hA [2, 1] rfl
    refine va_callv (va_runV (As := [.int k1]) (rest := []) ⟨hx, hb, hml, hown, hq⟩ (mt_In_add l dC dI h0_inbox h0_inbox_words c0_inbox_words H.size _ (u2, u.2.2) k1 hw) ⟨cq_B 1 hq wt_554 wt_551 wt_3 rfl rfl hd_In_add ⟨Nat.le_of_ble_eq_true rfl, Nat.le_of_ble_eq_true rfl⟩, (hq _ wt_552), (hq _ wt_553)⟩ ⟨kp_bl, va_recv hKc hPc (ci := 3) (q0 := 0) rfl rfl, kp_at hPc hKc hDc hZ⟩ rfl rfl hl.1 rfl (lv_room (Nat.le_of_ble_eq_true rfl)) dSc_send_26 ⟨(by decide), (by decide)⟩) hS (fun q _ h => hFc q h) hFc (fun u5 t H1 locs ht hvm hw hB hz1 hk1 hS => ?_)
    obtain ⟨hP1, hK1, hD1⟩ := hB
    rw [ht] at hP1
    have hK1 := va_K.moved hvm.symm hK1
    obtain ⟨hP, hD⟩ := va_join (wr := [(h0, ce_Sc h0_balances h0_code h0_inbox h0_trueState h0_scratch h0_payments h0_proof h0_assertion h0_games u.1)]) (w1 := [(h0_inbox, ce_In h0_inbox_words u5.1), (h0_inbox_words, .inl (c0_inbox_words, 60, .inl u5.2))]) hP hD [2, 1] [0] rfl rfl (by decide) (by decide) hk1 hFc hP1 hD1
    have hK := (hK.sub (tys' := []) [] rfl).app hK1
    generalize H1 = H at hP hS ⊢
    have hP : va_P (dC, dI) vwCl [(h0, ce_Sc h0_balances h0_code h0_inbox h0_trueState h0_scratch h0_payments h0_proof h0_assertion h0_games u.1), (h0_inbox, ce_In h0_inbox_words u5.1), (h0_inbox_words, .inl (c0_inbox_words, 60, .inl u5.2))] H := hP
    have hD : va_D A [(h0, ce_Sc h0_balances h0_code h0_inbox h0_trueState h0_scratch h0_payments h0_proof h0_assertion h0_games u.1), (h0_inbox, ce_In h0_inbox_words u5.1), (h0_inbox_words, .inl (c0_inbox_words, 60, .inl u5.2))] := hD
    have hK : va_K (dC, dI) vwCl [(c0_inbox_words, .int)] s := hK
    refine lv_aload_n hx hb dSc_send_29 rfl (lv_at hl 0 rfl) ?_
    refine va_get (D := (dC, dI)) (ci := 7) (v := .ref h0_inbox) (C := "StepCourt") (T := TSc) (N := 13) hx hb hq inSc hown hK hP 0 rfl rfl 2 (by decide) (hq _ wt_256) (fun _ h9 => h9) rfl dSc_send_30 ?_
    refine va_getN (D := (dC, dI)) (ci := 3) (v := .int u5.1) (C := "StepCourt$Inbox") (T := TIn) (N := 2) hx hb hq inIn hown hK hP 1 rfl rfl 1 (by decide) (va_Nw.use rfl (hZ.1 _ zt_53)) (fun _ h9 => h9) rfl dSc_send_33 ?_
    refine tx_ret (Q1 := tx_Q tx_i post px (fun u9 => kp_B dC dI A (ww_Sc_send h0 h0_inbox h0_inbox_words h0_balances h0_code h0_trueState h0_scratch h0_payments h0_proof h0_assertion h0_games c0_inbox_words u9) [(c0_inbox_words, .int)]) A) (fun _ _ h => h) ?_
    have hP9 := hP.sub (ws' := [(h0, ce_Sc h0_balances h0_code h0_inbox h0_trueState h0_scratch h0_payments h0_proof h0_assertion h0_games u.1), (h0_inbox, ce_In h0_inbox_words u5.1), (h0_inbox_words, .inl (c0_inbox_words, 60, .inl u5.2))]) [0, 1, 2] rfl
    have hD9 := hD.sub (ws' := [(h0, ce_Sc h0_balances h0_code h0_inbox h0_trueState h0_scratch h0_payments h0_proof h0_assertion h0_games u.1), (h0_inbox, ce_In h0_inbox_words u5.1), (h0_inbox_words, .inl (c0_inbox_words, 60, .inl u5.2))]) [0, 1, 2] (by decide) rfl
    have hK9 := hK.sub (tys' := [(c0_inbox_words, .int)]) [0] rfl
    refine W.widen (k := 1) (n := 6) (by decide) (by decide) ?_
    exact W.iret (v := u5.1) hx hb hr (fun t ht hW => ⟨Or.inl ⟨u5.1, (u.1, u5.1, u5.2), rfl, hw, by rw [ht]; exact hP9, va_K.moved hW.alike hK9, hD9⟩, hS.F ht⟩) hS.2.2 dSc_send_36
  · have hw := hw.2 cc3
    have hP9 := hP.sub (ws' := [(h0, ce_Sc h0_balances h0_code h0_inbox h0_trueState h0_scratch h0_payments h0_proof h0_assertion h0_games u.1), (h0_inbox, ce_In h0_inbox_words u2), (h0_inbox_words, .inl (c0_inbox_words, 60, .inl u.2.2))]) [0, 2, 1] rfl
    have hD9 := hD.sub (ws' := [(h0, ce_Sc h0_balances h0_code h0_inbox h0_trueState h0_scratch h0_payments h0_proof h0_assertion h0_games u.1), (h0_inbox, ce_In h0_inbox_words u2), (h0_inbox_words, .inl (c0_inbox_words, 60, .inl u.2.2))]) [0, 2, 1] (by decide) rfl
    have hK9 := hK.sub (tys' := [(c0_inbox_words, .int)]) [0] rfl
    obtain ⟨sa, hstr⟩ := hZ.2.2.1 _ (List.mem_of_getElem? (i := 3) rfl)
    exact tx_throw (own := "StepCourt") (cls := "java/lang/UnsupportedOperationException") (names := ["java/lang/RuntimeException", "java/lang/Exception"]) (A := A) hx hb hl9 hown (by decide +kernel) (by decide +kernel) oa_102 hq wt_535 wt_16 hZ hstr hT9 hS (by rw [hml]; exact hl.1) dSc_send_11 dSc_send_14 dSc_send_15 dSc_send_17 dSc_send_20 hTab hlocks (by decide) (by decide) (by decide) (by decide) (fun t ce q ha hz1 hk1 hce hcv hcl => ⟨Or.inr ⟨q, _, ce, (u.1, u2, u.2.2), rfl, hw, ⟨hP9.kept (fun k q hk => hk1 q.1 (hP9 k q hk).lt), va_K.moved ha hK9, hD9⟩, hce, hcv, hcl⟩, Nat.le_trans hS.1 hz1, fun z h1 h2 => (hk1 z (Nat.lt_of_lt_of_le h1 hS.1)).trans (hS.2.1 z h1 h2)⟩) hS.2.2 (by decide) (by decide)
abbrev ww_Sc_claim (h0 h0_balances h0_code h0_code_ops h0_code_arguments h0_inbox h0_inbox_words h0_trueState h0_trueState_cells h0_scratch h0_scratch_cells h0_scratch_tree h0_assertion h0_payments h0_proof h0_games h0_trueState_tree : Nat) (c0_balances c0_code_ops c0_code_arguments c0_inbox_words c0_trueState_cells c0_scratch_cells c0_scratch_tree : ClassId) (u : ct_Sc × (Nat → Int32) × (Nat → Int32) × (Nat → Int32) × ct_In × (Nat → Int32) × ct_Ma × (Nat → Int32) × ct_Ma × (Nat → Int32) × (Nat → Int64) × ct_As) : va_W := [(h0, ce_Sc h0_balances h0_code h0_inbox h0_trueState h0_scratch h0_payments h0_proof h0_assertion h0_games u.1), (h0_balances, .inl (c0_balances, 4, .inl u.2.1)), (h0_code, ce_Co h0_code_ops h0_code_arguments), (h0_code_ops, .inl (c0_code_ops, 16, .inl u.2.2.1)), (h0_code_arguments, .inl (c0_code_arguments, 16, .inl u.2.2.2.1)), (h0_inbox, ce_In h0_inbox_words u.2.2.2.2.1), (h0_inbox_words, .inl (c0_inbox_words, 60, .inl u.2.2.2.2.2.1)), (h0_trueState, ce_Ma h0_trueState_cells h0_trueState_tree u.2.2.2.2.2.2.1), (h0_trueState_cells, .inl (c0_trueState_cells, 8, .inl u.2.2.2.2.2.2.2.1)), (h0_scratch, ce_Ma h0_scratch_cells h0_scratch_tree u.2.2.2.2.2.2.2.2.1), (h0_scratch_cells, .inl (c0_scratch_cells, 8, .inl u.2.2.2.2.2.2.2.2.2.1)), (h0_scratch_tree, .inl (c0_scratch_tree, 16, .inr (.inl u.2.2.2.2.2.2.2.2.2.2.1))), (h0_assertion, ce_As u.2.2.2.2.2.2.2.2.2.2.2)]
def wp_Sc_claim (post : Int64 → (ct_Sc × (Nat → Int32) × (Nat → Int32) × (Nat → Int32) × ct_In × (Nat → Int32) × ct_Ma × (Nat → Int32) × ct_Ma × (Nat → Int32) × (Nat → Int64) × ct_As) → Prop) (px : String → (ct_Sc × (Nat → Int32) × (Nat → Int32) × (Nat → Int32) × ct_In × (Nat → Int32) × ct_Ma × (Nat → Int32) × ct_Ma × (Nat → Int32) × (Nat → Int64) × ct_As) → Prop) (u : ct_Sc × (Nat → Int32) × (Nat → Int32) × (Nat → Int32) × ct_In × (Nat → Int32) × ct_Ma × (Nat → Int32) × ct_Ma × (Nat → Int32) × (Nat → Int64) × ct_As) (k1 : Int32) (k2 : Int32) (k3 : Int64) : Prop := wp_Sc_requireParty (fun _ u2 => (((u.2.2.2.2.2.2.2.2.2.2.2.1 = 0 → (((k2 < 1 → (px "java/lang/IllegalArgumentException" (u.1, u.2.1, u.2.2.1, u.2.2.2.1, u.2.2.2.2.1, u.2.2.2.2.2.1, u.2.2.2.2.2.2.1, u.2.2.2.2.2.2.2.1, u.2.2.2.2.2.2.2.2.1, u.2.2.2.2.2.2.2.2.2.1, u.2.2.2.2.2.2.2.2.2.2.1, u.2.2.2.2.2.2.2.2.2.2.2))) ∧ (¬ k2 < 1 → (((k2 ≤ 64 → (wp_Sc_takeStake (fun _ u8 => (wp_As_open (fun u11 => (wp_Sc_trueCommitment (fun r12 u13 => (∀ f14 : Int64, f14 = (r12 ^^^ k3) → (post f14 (u13.1, u8.2, u13.2.1, u13.2.2.1, u13.2.2.2.1, u13.2.2.2.2.1, u13.2.2.2.2.2.1, u13.2.2.2.2.2.2.1, u13.2.2.2.2.2.2.2.1, u13.2.2.2.2.2.2.2.2.1, u13.2.2.2.2.2.2.2.2.2.1, (u13.2.2.2.2.2.2.2.2.2.2.1, u13.2.2.2.2.2.2.2.2.2.2.2.1, u13.2.2.2.2.2.2.2.2.2.2.2.2.1, u13.2.2.2.2.2.2.2.2.2.2.2.2.2.1, u13.2.2.2.2.2.2.2.2.2.2.2.2.2.2.1, u13.2.2.2.2.2.2.2.2.2.2.2.2.2.2.2.1, f14))))) (u8.1, u.2.2.1, u.2.2.2.1, u.2.2.2.2.1, u.2.2.2.2.2.1, u.2.2.2.2.2.2.1, u.2.2.2.2.2.2.2.1, u.2.2.2.2.2.2.2.2.1, u.2.2.2.2.2.2.2.2.2.1, u.2.2.2.2.2.2.2.2.2.2.1, u11) k2 )) u.2.2.2.2.2.2.2.2.2.2.2 k1 k2 u.2.2.2.2.1 u8.1.2.2.1 )) (fun E9 u9 => (px E9 (u9.1, u9.2, u.2.2.1, u.2.2.2.1, u.2.2.2.2.1, u.2.2.2.2.2.1, u.2.2.2.2.2.2.1, u.2.2.2.2.2.2.2.1, u.2.2.2.2.2.2.2.2.1, u.2.2.2.2.2.2.2.2.2.1, u.2.2.2.2.2.2.2.2.2.2.1, u.2.2.2.2.2.2.2.2.2.2.2))) (u.1, u.2.1) k1 )) ∧ (¬ k2 ≤ 64 → (px "java/lang/IllegalArgumentException" (u.1, u.2.1, u.2.2.1, u.2.2.2.1, u.2.2.2.2.1, u.2.2.2.2.2.1, u.2.2.2.2.2.2.1, u.2.2.2.2.2.2.2.1, u.2.2.2.2.2.2.2.2.1, u.2.2.2.2.2.2.2.2.2.1, u.2.2.2.2.2.2.2.2.2.2.1, u.2.2.2.2.2.2.2.2.2.2.2))))))))) ∧ (¬ u.2.2.2.2.2.2.2.2.2.2.2.1 = 0 → (px "java/lang/IllegalStateException" (u.1, u.2.1, u.2.2.1, u.2.2.2.1, u.2.2.2.2.1, u.2.2.2.2.2.1, u.2.2.2.2.2.2.1, u.2.2.2.2.2.2.2.1, u.2.2.2.2.2.2.2.2.1, u.2.2.2.2.2.2.2.2.2.1, u.2.2.2.2.2.2.2.2.2.2.1, u.2.2.2.2.2.2.2.2.2.2.2)))))) (fun E9 u3 => (px E9 (u.1, u.2.1, u.2.2.1, u.2.2.2.1, u.2.2.2.2.1, u.2.2.2.2.2.1, u.2.2.2.2.2.2.1, u.2.2.2.2.2.2.2.1, u.2.2.2.2.2.2.2.2.1, u.2.2.2.2.2.2.2.2.2.1, u.2.2.2.2.2.2.2.2.2.2.1, u.2.2.2.2.2.2.2.2.2.2.2))) () k1 
set_option maxHeartbeats 4000000 in
set_option maxRecDepth 100000 in
theorem mt_Sc_claim (l : Launch) (hl9 : l.stackTraces = false) (dC : Nat → ClassId) (dI : Nat → Nat → Nat) (h0 h0_balances h0_code h0_code_ops h0_code_arguments h0_inbox h0_inbox_words h0_trueState h0_trueState_cells h0_scratch h0_scratch_cells h0_scratch_tree h0_assertion h0_payments h0_proof h0_games h0_trueState_tree : Nat) (c0_balances c0_code_ops c0_code_arguments c0_inbox_words c0_trueState_cells c0_scratch_cells c0_scratch_tree : ClassId) (sz : Nat) (post : Int64 → (ct_Sc × (Nat → Int32) × (Nat → Int32) × (Nat → Int32) × ct_In × (Nat → Int32) × ct_Ma × (Nat → Int32) × ct_Ma × (Nat → Int32) × (Nat → Int64) × ct_As) → Prop) (px : String → (ct_Sc × (Nat → Int32) × (Nat → Int32) × (Nat → Int32) × ct_In × (Nat → Int32) × ct_Ma × (Nat → Int32) × ct_Ma × (Nat → Int32) × (Nat → Int64) × ct_As) → Prop) (u : ct_Sc × (Nat → Int32) × (Nat → Int32) × (Nat → Int32) × ct_In × (Nat → Int32) × ct_Ma × (Nat → Int32) × ct_Ma × (Nat → Int32) × (Nat → Int64) × ct_As) (k1 : Int32) (k2 : Int32) (k3 : Int64) (hw : wp_Sc_claim post px u k1 k2 k3) : tx_Met l ySc_claim wsSc_claim ({ frames := 7, cells := 2, slots := 12, locals := 116 }) (kx_P dC dI [.ref h0, .int k1, .int k2, .long k3] sz (ww_Sc_claim h0 h0_balances h0_code h0_code_ops h0_code_arguments h0_inbox h0_inbox_words h0_trueState h0_trueState_cells h0_scratch h0_scratch_cells h0_scratch_tree h0_assertion h0_payments h0_proof h0_games h0_trueState_tree c0_balances c0_code_ops c0_code_arguments c0_inbox_words c0_trueState_cells c0_scratch_cells c0_scratch_tree u) [(c0_balances, .int), (c0_code_ops, .int), (c0_code_arguments, .int), (c0_inbox_words, .int), (c0_trueState_cells, .int), (c0_scratch_cells, .int), (c0_scratch_tree, .long)]) (tx_Q tx_l post px (fun u9 => kp_B dC dI (va_A (ww_Sc_claim h0 h0_balances h0_code h0_code_ops h0_code_arguments h0_inbox h0_inbox_words h0_trueState h0_trueState_cells h0_scratch h0_scratch_cells h0_scratch_tree h0_assertion h0_payments h0_proof h0_games h0_trueState_tree c0_balances c0_code_ops c0_code_arguments c0_inbox_words c0_trueState_cells c0_scratch_cells c0_scratch_tree u) sz) (ww_Sc_claim h0 h0_balances h0_code h0_code_ops h0_code_arguments h0_inbox h0_inbox_words h0_trueState h0_trueState_cells h0_scratch h0_scratch_cells h0_scratch_tree h0_assertion h0_payments h0_proof h0_games h0_trueState_tree c0_balances c0_code_ops c0_code_arguments c0_inbox_words c0_trueState_cells c0_scratch_cells c0_scratch_tree u9) [(c0_balances, .int), (c0_code_ops, .int), (c0_code_arguments, .int), (c0_inbox_words, .int), (c0_trueState_cells, .int), (c0_scratch_cells, .int), (c0_scratch_tree, .long)]) (va_A (ww_Sc_claim h0 h0_balances h0_code h0_code_ops h0_code_arguments h0_inbox h0_inbox_words h0_trueState h0_trueState_cells h0_scratch h0_scratch_cells h0_scratch_tree h0_assertion h0_payments h0_proof h0_games h0_trueState_tree c0_balances c0_code_ops c0_code_arguments c0_inbox_words c0_trueState_cells c0_scratch_cells c0_scratch_tree u) sz)) 2 12 (va_A (ww_Sc_claim h0 h0_balances h0_code h0_code_ops h0_code_arguments h0_inbox h0_inbox_words h0_trueState h0_trueState_cells h0_scratch h0_scratch_cells h0_scratch_tree h0_assertion h0_payments h0_proof h0_games h0_trueState_tree c0_balances c0_code_ops c0_code_arguments c0_inbox_words c0_trueState_cells c0_scratch_cells c0_scratch_tree u) sz) := by
  refine tx_ofW (cc := cSc_claim) (maxL := 5) (ret := (some .long)) (by decide) rfl ?_
  intro p e s m args below meth c s₁ B hml hTab hv
  obtain ⟨rfl, hsz, hP, hK, hD0, hZ, hT9⟩ := hv
  have hx := B.exec
  have hb := B.bytes
  have hr := B.returns
  have hq : ∀ w ∈ wz, w.before _ s = true := fun w h => atoms_spec (ws := wsSc_claim) B.pre w (List.mem_cons_of_mem _ h)
  have hown : s.vm.findClass "StepCourt" = some m.cls := findClass_of_methodNamed B.named
  have hlocks := B.notSynchronized
  subst hsz
  have hD := hD0.self (sz := s.heap.size)
  generalize hAe : va_A (ww_Sc_claim h0 h0_balances h0_code h0_code_ops h0_code_arguments h0_inbox h0_inbox_words h0_trueState h0_trueState_cells h0_scratch h0_scratch_cells h0_scratch_tree h0_assertion h0_payments h0_proof h0_games h0_trueState_tree c0_balances c0_code_ops c0_code_arguments c0_inbox_words c0_trueState_cells c0_scratch_cells c0_scratch_tree u) s.heap.size = A at hD hT9 ⊢
  have hA : ∀ q : Nat, s.heap.size ≤ q → A q := fun q h => by rw [← hAe]; exact Or.inr h
  have hS : va_S A s.heap s.heap [] := va_S.rf
  have hP : va_P (dC, dI) vwCl [(h0, ce_Sc h0_balances h0_code h0_inbox h0_trueState h0_scratch h0_payments h0_proof h0_assertion h0_games u.1), (h0_balances, .inl (c0_balances, 4, .inl u.2.1)), (h0_code, ce_Co h0_code_ops h0_code_arguments), (h0_code_ops, .inl (c0_code_ops, 16, .inl u.2.2.1)), (h0_code_arguments, .inl (c0_code_arguments, 16, .inl u.2.2.2.1)), (h0_inbox, ce_In h0_inbox_words u.2.2.2.2.1), (h0_inbox_words, .inl (c0_inbox_words, 60, .inl u.2.2.2.2.2.1)), (h0_trueState, ce_Ma h0_trueState_cells h0_trueState_tree u.2.2.2.2.2.2.1), (h0_trueState_cells, .inl (c0_trueState_cells, 8, .inl u.2.2.2.2.2.2.2.1)), (h0_scratch, ce_Ma h0_scratch_cells h0_scratch_tree u.2.2.2.2.2.2.2.2.1), (h0_scratch_cells, .inl (c0_scratch_cells, 8, .inl u.2.2.2.2.2.2.2.2.2.1)), (h0_scratch_tree, .inl (c0_scratch_tree, 16, .inr (.inl u.2.2.2.2.2.2.2.2.2.2.1))), (h0_assertion, ce_As u.2.2.2.2.2.2.2.2.2.2.2)] s.heap := hP
  have hD : va_D A [(h0, ce_Sc h0_balances h0_code h0_inbox h0_trueState h0_scratch h0_payments h0_proof h0_assertion h0_games u.1), (h0_balances, .inl (c0_balances, 4, .inl u.2.1)), (h0_code, ce_Co h0_code_ops h0_code_arguments), (h0_code_ops, .inl (c0_code_ops, 16, .inl u.2.2.1)), (h0_code_arguments, .inl (c0_code_arguments, 16, .inl u.2.2.2.1)), (h0_inbox, ce_In h0_inbox_words u.2.2.2.2.1), (h0_inbox_words, .inl (c0_inbox_words, 60, .inl u.2.2.2.2.2.1)), (h0_trueState, ce_Ma h0_trueState_cells h0_trueState_tree u.2.2.2.2.2.2.1), (h0_trueState_cells, .inl (c0_trueState_cells, 8, .inl u.2.2.2.2.2.2.2.1)), (h0_scratch, ce_Ma h0_scratch_cells h0_scratch_tree u.2.2.2.2.2.2.2.2.1), (h0_scratch_cells, .inl (c0_scratch_cells, 8, .inl u.2.2.2.2.2.2.2.2.2.1)), (h0_scratch_tree, .inl (c0_scratch_tree, 16, .inr (.inl u.2.2.2.2.2.2.2.2.2.2.1))), (h0_assertion, ce_As u.2.2.2.2.2.2.2.2.2.2.2)] := hD
  have hl := lv_entry ([.ref h0, .int k1, .int k2, .long k3]) (n := 5) (Nat.le_of_ble_eq_true rfl)
  rw [lg_entry_eq]
  generalize (lg_sl ([.ref h0, .int k1, .int k2, .long k3]) ++ List.replicate (5 - (lg_sl ([.ref h0, .int k1, .int k2, .long k3])).length) Slot.unset).toArray = ls at hl ⊢
  have hl : lv_has ls 5 [(0, .ref h0), (1, .int k1), (2, .int k2), (3, .long k3)] := hl
  skip
  refine lv_iload_n hx hb dSc_claim_0 rfl (lv_at hl 1 rfl) ?_
  have hPc := hP.sub (ws' := []) [] rfl
  have hDc := hD.sub (ws' := []) [] (by decide) rfl
  have hKc := hK.sub (tys' := []) [] rfl
  have hFc := va_free (wc := []) hD hS hA [] rfl
  refine tx_call (tx_runS (As := [.int k1]) (rest := []) ⟨hx, hb, hml, hown, hq⟩ (mt_Sc_requireParty l hl9 dC dI s.heap.size _ _ () k1 hw) ⟨cq_B 1 hq wt_445 wt_443 wt_1 rfl rfl hd_Sc_requireParty ⟨Nat.le_of_ble_eq_true rfl, Nat.le_of_ble_eq_true rfl⟩, (hq _ wt_444)⟩ ⟨kx_bl, kx_at hPc hKc hDc hZ hFc hS hT9⟩ 8 (Nat.le_of_ble_eq_true rfl) rfl rfl hl.1 rfl (tx_rm (Nat.le_of_ble_eq_true rfl)) dSc_claim_1 ⟨(by decide), (by decide)⟩) hS (fun q _ h => hFc q h) hFc ?_ ?_
  · intro E9 ce q9 u3 t H1 locs ht hvm hw hB hz1 hk1 hS hce hcv hcl
    obtain ⟨hP1, hK1, hD1⟩ := hB
    rw [ht] at hP1
    have hK1 := va_K.moved hvm.symm hK1
    obtain ⟨hP, hD⟩ := va_join (wr := [(h0, ce_Sc h0_balances h0_code h0_inbox h0_trueState h0_scratch h0_payments h0_proof h0_assertion h0_games u.1), (h0_balances, .inl (c0_balances, 4, .inl u.2.1)), (h0_code, ce_Co h0_code_ops h0_code_arguments), (h0_code_ops, .inl (c0_code_ops, 16, .inl u.2.2.1)), (h0_code_arguments, .inl (c0_code_arguments, 16, .inl u.2.2.2.1)), (h0_inbox, ce_In h0_inbox_words u.2.2.2.2.1), (h0_inbox_words, .inl (c0_inbox_words, 60, .inl u.2.2.2.2.2.1)), (h0_trueState, ce_Ma h0_trueState_cells h0_trueState_tree u.2.2.2.2.2.2.1), (h0_trueState_cells, .inl (c0_trueState_cells, 8, .inl u.2.2.2.2.2.2.2.1)), (h0_scratch, ce_Ma h0_scratch_cells h0_scratch_tree u.2.2.2.2.2.2.2.2.1), (h0_scratch_cells, .inl (c0_scratch_cells, 8, .inl u.2.2.2.2.2.2.2.2.2.1)), (h0_scratch_tree, .inl (c0_scratch_tree, 16, .inr (.inl u.2.2.2.2.2.2.2.2.2.2.1))), (h0_assertion, ce_As u.2.2.2.2.2.2.2.2.2.2.2)]) (w1 := []) hP hD [] [0, 1, 2, 3, 4, 5, 6, 7, 8, 9, 10, 11, 12] rfl rfl (by decide) (by decide) hk1 hFc hP1 hD1
    have hK := (hK.sub (tys' := [(c0_balances, .int), (c0_code_ops, .int), (c0_code_arguments, .int), (c0_inbox_words, .int), (c0_trueState_cells, .int), (c0_scratch_cells, .int), (c0_scratch_tree, .long)]) [0, 1, 2, 3, 4, 5, 6] rfl).app hK1
    generalize H1 = H at hP hS hce ⊢
    have hP : va_P (dC, dI) vwCl [(h0, ce_Sc h0_balances h0_code h0_inbox h0_trueState h0_scratch h0_payments h0_proof h0_assertion h0_games u.1), (h0_balances, .inl (c0_balances, 4, .inl u.2.1)), (h0_code, ce_Co h0_code_ops h0_code_arguments), (h0_code_ops, .inl (c0_code_ops, 16, .inl u.2.2.1)), (h0_code_arguments, .inl (c0_code_arguments, 16, .inl u.2.2.2.1)), (h0_inbox, ce_In h0_inbox_words u.2.2.2.2.1), (h0_inbox_words, .inl (c0_inbox_words, 60, .inl u.2.2.2.2.2.1)), (h0_trueState, ce_Ma h0_trueState_cells h0_trueState_tree u.2.2.2.2.2.2.1), (h0_trueState_cells, .inl (c0_trueState_cells, 8, .inl u.2.2.2.2.2.2.2.1)), (h0_scratch, ce_Ma h0_scratch_cells h0_scratch_tree u.2.2.2.2.2.2.2.2.1), (h0_scratch_cells, .inl (c0_scratch_cells, 8, .inl u.2.2.2.2.2.2.2.2.2.1)), (h0_scratch_tree, .inl (c0_scratch_tree, 16, .inr (.inl u.2.2.2.2.2.2.2.2.2.2.1))), (h0_assertion, ce_As u.2.2.2.2.2.2.2.2.2.2.2)] H := hP
    have hD : va_D A [(h0, ce_Sc h0_balances h0_code h0_inbox h0_trueState h0_scratch h0_payments h0_proof h0_assertion h0_games u.1), (h0_balances, .inl (c0_balances, 4, .inl u.2.1)), (h0_code, ce_Co h0_code_ops h0_code_arguments), (h0_code_ops, .inl (c0_code_ops, 16, .inl u.2.2.1)), (h0_code_arguments, .inl (c0_code_arguments, 16, .inl u.2.2.2.1)), (h0_inbox, ce_In h0_inbox_words u.2.2.2.2.1), (h0_inbox_words, .inl (c0_inbox_words, 60, .inl u.2.2.2.2.2.1)), (h0_trueState, ce_Ma h0_trueState_cells h0_trueState_tree u.2.2.2.2.2.2.1), (h0_trueState_cells, .inl (c0_trueState_cells, 8, .inl u.2.2.2.2.2.2.2.1)), (h0_scratch, ce_Ma h0_scratch_cells h0_scratch_tree u.2.2.2.2.2.2.2.2.1), (h0_scratch_cells, .inl (c0_scratch_cells, 8, .inl u.2.2.2.2.2.2.2.2.2.1)), (h0_scratch_tree, .inl (c0_scratch_tree, 16, .inr (.inl u.2.2.2.2.2.2.2.2.2.2.1))), (h0_assertion, ce_As u.2.2.2.2.2.2.2.2.2.2.2)] := hD
    have hK : va_K (dC, dI) vwCl [(c0_balances, .int), (c0_code_ops, .int), (c0_code_arguments, .int), (c0_inbox_words, .int), (c0_trueState_cells, .int), (c0_scratch_cells, .int), (c0_scratch_tree, .long)] s := hK
    refine tx_widen (k := 1) (n := 6) (by decide) (by decide) ?_
    have hP9 := hP.sub (ws' := [(h0, ce_Sc h0_balances h0_code h0_inbox h0_trueState h0_scratch h0_payments h0_proof h0_assertion h0_games u.1), (h0_balances, .inl (c0_balances, 4, .inl u.2.1)), (h0_code, ce_Co h0_code_ops h0_code_arguments), (h0_code_ops, .inl (c0_code_ops, 16, .inl u.2.2.1)), (h0_code_arguments, .inl (c0_code_arguments, 16, .inl u.2.2.2.1)), (h0_inbox, ce_In h0_inbox_words u.2.2.2.2.1), (h0_inbox_words, .inl (c0_inbox_words, 60, .inl u.2.2.2.2.2.1)), (h0_trueState, ce_Ma h0_trueState_cells h0_trueState_tree u.2.2.2.2.2.2.1), (h0_trueState_cells, .inl (c0_trueState_cells, 8, .inl u.2.2.2.2.2.2.2.1)), (h0_scratch, ce_Ma h0_scratch_cells h0_scratch_tree u.2.2.2.2.2.2.2.2.1), (h0_scratch_cells, .inl (c0_scratch_cells, 8, .inl u.2.2.2.2.2.2.2.2.2.1)), (h0_scratch_tree, .inl (c0_scratch_tree, 16, .inr (.inl u.2.2.2.2.2.2.2.2.2.2.1))), (h0_assertion, ce_As u.2.2.2.2.2.2.2.2.2.2.2)]) [0, 1, 2, 3, 4, 5, 6, 7, 8, 9, 10, 11, 12] rfl
    have hD9 := hD.sub (ws' := [(h0, ce_Sc h0_balances h0_code h0_inbox h0_trueState h0_scratch h0_payments h0_proof h0_assertion h0_games u.1), (h0_balances, .inl (c0_balances, 4, .inl u.2.1)), (h0_code, ce_Co h0_code_ops h0_code_arguments), (h0_code_ops, .inl (c0_code_ops, 16, .inl u.2.2.1)), (h0_code_arguments, .inl (c0_code_arguments, 16, .inl u.2.2.2.1)), (h0_inbox, ce_In h0_inbox_words u.2.2.2.2.1), (h0_inbox_words, .inl (c0_inbox_words, 60, .inl u.2.2.2.2.2.1)), (h0_trueState, ce_Ma h0_trueState_cells h0_trueState_tree u.2.2.2.2.2.2.1), (h0_trueState_cells, .inl (c0_trueState_cells, 8, .inl u.2.2.2.2.2.2.2.1)), (h0_scratch, ce_Ma h0_scratch_cells h0_scratch_tree u.2.2.2.2.2.2.2.2.1), (h0_scratch_cells, .inl (c0_scratch_cells, 8, .inl u.2.2.2.2.2.2.2.2.2.1)), (h0_scratch_tree, .inl (c0_scratch_tree, 16, .inr (.inl u.2.2.2.2.2.2.2.2.2.2.1))), (h0_assertion, ce_As u.2.2.2.2.2.2.2.2.2.2.2)]) [0, 1, 2, 3, 4, 5, 6, 7, 8, 9, 10, 11, 12] (by decide) rfl
    have hK9 := hK.sub (tys' := [(c0_balances, .int), (c0_code_ops, .int), (c0_code_arguments, .int), (c0_inbox_words, .int), (c0_trueState_cells, .int), (c0_scratch_cells, .int), (c0_scratch_tree, .long)]) [0, 1, 2, 3, 4, 5, 6] rfl
    exact tx_out (fun x hx => (hTab x hx).elim) hlocks (fun t ht ha => ⟨Or.inr ⟨q9, E9, ce, (u.1, u.2.1, u.2.2.1, u.2.2.2.1, u.2.2.2.2.1, u.2.2.2.2.2.1, u.2.2.2.2.2.2.1, u.2.2.2.2.2.2.2.1, u.2.2.2.2.2.2.2.2.1, u.2.2.2.2.2.2.2.2.2.1, u.2.2.2.2.2.2.2.2.2.2.1, u.2.2.2.2.2.2.2.2.2.2.2), rfl, hw, ⟨by rw [ht]; exact hP9, va_K.moved ha hK9, hD9⟩, by rw [ht]; exact hce, hcv, hcl⟩, hS.F ht⟩) hS.2.2 (by decide) (by decide)
  · intro _ u2 t H1 locs ht hvm hw hB hz1 hk1 hS
    obtain ⟨hP1, hK1, hD1⟩ := hB
    rw [ht] at hP1
    have hK1 := va_K.moved hvm.symm hK1
    obtain ⟨hP, hD⟩ := va_join (wr := [(h0, ce_Sc h0_balances h0_code h0_inbox h0_trueState h0_scratch h0_payments h0_proof h0_assertion h0_games u.1), (h0_balances, .inl (c0_balances, 4, .inl u.2.1)), (h0_code, ce_Co h0_code_ops h0_code_arguments), (h0_code_ops, .inl (c0_code_ops, 16, .inl u.2.2.1)), (h0_code_arguments, .inl (c0_code_arguments, 16, .inl u.2.2.2.1)), (h0_inbox, ce_In h0_inbox_words u.2.2.2.2.1), (h0_inbox_words, .inl (c0_inbox_words, 60, .inl u.2.2.2.2.2.1)), (h0_trueState, ce_Ma h0_trueState_cells h0_trueState_tree u.2.2.2.2.2.2.1), (h0_trueState_cells, .inl (c0_trueState_cells, 8, .inl u.2.2.2.2.2.2.2.1)), (h0_scratch, ce_Ma h0_scratch_cells h0_scratch_tree u.2.2.2.2.2.2.2.2.1), (h0_scratch_cells, .inl (c0_scratch_cells, 8, .inl u.2.2.2.2.2.2.2.2.2.1)), (h0_scratch_tree, .inl (c0_scratch_tree, 16, .inr (.inl u.2.2.2.2.2.2.2.2.2.2.1))), (h0_assertion, ce_As u.2.2.2.2.2.2.2.2.2.2.2)]) (w1 := []) hP hD [] [0, 1, 2, 3, 4, 5, 6, 7, 8, 9, 10, 11, 12] rfl rfl (by decide) (by decide) hk1 hFc hP1 hD1
    have hK := (hK.sub (tys' := [(c0_balances, .int), (c0_code_ops, .int), (c0_code_arguments, .int), (c0_inbox_words, .int), (c0_trueState_cells, .int), (c0_scratch_cells, .int), (c0_scratch_tree, .long)]) [0, 1, 2, 3, 4, 5, 6] rfl).app hK1
    generalize H1 = H at hP hS ⊢
    have hP : va_P (dC, dI) vwCl [(h0, ce_Sc h0_balances h0_code h0_inbox h0_trueState h0_scratch h0_payments h0_proof h0_assertion h0_games u.1), (h0_balances, .inl (c0_balances, 4, .inl u.2.1)), (h0_code, ce_Co h0_code_ops h0_code_arguments), (h0_code_ops, .inl (c0_code_ops, 16, .inl u.2.2.1)), (h0_code_arguments, .inl (c0_code_arguments, 16, .inl u.2.2.2.1)), (h0_inbox, ce_In h0_inbox_words u.2.2.2.2.1), (h0_inbox_words, .inl (c0_inbox_words, 60, .inl u.2.2.2.2.2.1)), (h0_trueState, ce_Ma h0_trueState_cells h0_trueState_tree u.2.2.2.2.2.2.1), (h0_trueState_cells, .inl (c0_trueState_cells, 8, .inl u.2.2.2.2.2.2.2.1)), (h0_scratch, ce_Ma h0_scratch_cells h0_scratch_tree u.2.2.2.2.2.2.2.2.1), (h0_scratch_cells, .inl (c0_scratch_cells, 8, .inl u.2.2.2.2.2.2.2.2.2.1)), (h0_scratch_tree, .inl (c0_scratch_tree, 16, .inr (.inl u.2.2.2.2.2.2.2.2.2.2.1))), (h0_assertion, ce_As u.2.2.2.2.2.2.2.2.2.2.2)] H := hP
    have hD : va_D A [(h0, ce_Sc h0_balances h0_code h0_inbox h0_trueState h0_scratch h0_payments h0_proof h0_assertion h0_games u.1), (h0_balances, .inl (c0_balances, 4, .inl u.2.1)), (h0_code, ce_Co h0_code_ops h0_code_arguments), (h0_code_ops, .inl (c0_code_ops, 16, .inl u.2.2.1)), (h0_code_arguments, .inl (c0_code_arguments, 16, .inl u.2.2.2.1)), (h0_inbox, ce_In h0_inbox_words u.2.2.2.2.1), (h0_inbox_words, .inl (c0_inbox_words, 60, .inl u.2.2.2.2.2.1)), (h0_trueState, ce_Ma h0_trueState_cells h0_trueState_tree u.2.2.2.2.2.2.1), (h0_trueState_cells, .inl (c0_trueState_cells, 8, .inl u.2.2.2.2.2.2.2.1)), (h0_scratch, ce_Ma h0_scratch_cells h0_scratch_tree u.2.2.2.2.2.2.2.2.1), (h0_scratch_cells, .inl (c0_scratch_cells, 8, .inl u.2.2.2.2.2.2.2.2.2.1)), (h0_scratch_tree, .inl (c0_scratch_tree, 16, .inr (.inl u.2.2.2.2.2.2.2.2.2.2.1))), (h0_assertion, ce_As u.2.2.2.2.2.2.2.2.2.2.2)] := hD
    have hK : va_K (dC, dI) vwCl [(c0_balances, .int), (c0_code_ops, .int), (c0_code_arguments, .int), (c0_inbox_words, .int), (c0_trueState_cells, .int), (c0_scratch_cells, .int), (c0_scratch_tree, .long)] s := hK
    refine W.widen (k := 1) (n := 6) (by decide) (by decide) ?_
    refine W.eq (g2 := F0 m 4 ls []) rfl ?_
    refine lv_aload_n hx hb dSc_claim_4 rfl (lv_at hl 0 rfl) ?_
    refine va_get (D := (dC, dI)) (ci := 7) (v := .ref h0_assertion) (C := "StepCourt") (T := TSc) (N := 13) hx hb hq inSc hown hK hP 0 rfl rfl 7 (by decide) (hq _ wt_261) (fun _ h9 => h9) rfl dSc_claim_5 ?_
    refine va_getN (D := (dC, dI)) (ci := 0) (v := .int u.2.2.2.2.2.2.2.2.2.2.2.1) (C := "StepCourt$Assertion") (T := TAs) (N := 7) hx hb hq inAs hown hK hP 12 rfl rfl 0 (by decide) (va_Nw.use rfl (hZ.1 _ zt_158)) (fun _ h9 => h9) rfl dSc_claim_8 ?_
    refine lv_if_eq (tgt := 24) hx hb dSc_claim_11 (by decide) (fun cc4 => ?_) (fun cc4 => ?_)
    · have hw := hw.1 cc4
      refine lv_iload_n hx hb dSc_claim_24 rfl (lv_at hl 2 rfl) ?_
      refine lv_iconst (v := 1) hx hb dSc_claim_25 (by decide) ?_
      refine lv_icmp_lt (tgt := 35) hx hb dSc_claim_26 (by decide) (fun cc5 => ?_) (fun cc5 => ?_)
      · have hw := hw.1 cc5
        have hP9 := hP.sub (ws' := [(h0, ce_Sc h0_balances h0_code h0_inbox h0_trueState h0_scratch h0_payments h0_proof h0_assertion h0_games u.1), (h0_balances, .inl (c0_balances, 4, .inl u.2.1)), (h0_code, ce_Co h0_code_ops h0_code_arguments), (h0_code_ops, .inl (c0_code_ops, 16, .inl u.2.2.1)), (h0_code_arguments, .inl (c0_code_arguments, 16, .inl u.2.2.2.1)), (h0_inbox, ce_In h0_inbox_words u.2.2.2.2.1), (h0_inbox_words, .inl (c0_inbox_words, 60, .inl u.2.2.2.2.2.1)), (h0_trueState, ce_Ma h0_trueState_cells h0_trueState_tree u.2.2.2.2.2.2.1), (h0_trueState_cells, .inl (c0_trueState_cells, 8, .inl u.2.2.2.2.2.2.2.1)), (h0_scratch, ce_Ma h0_scratch_cells h0_scratch_tree u.2.2.2.2.2.2.2.2.1), (h0_scratch_cells, .inl (c0_scratch_cells, 8, .inl u.2.2.2.2.2.2.2.2.2.1)), (h0_scratch_tree, .inl (c0_scratch_tree, 16, .inr (.inl u.2.2.2.2.2.2.2.2.2.2.1))), (h0_assertion, ce_As u.2.2.2.2.2.2.2.2.2.2.2)]) [0, 1, 2, 3, 4, 5, 6, 7, 8, 9, 10, 11, 12] rfl
        have hD9 := hD.sub (ws' := [(h0, ce_Sc h0_balances h0_code h0_inbox h0_trueState h0_scratch h0_payments h0_proof h0_assertion h0_games u.1), (h0_balances, .inl (c0_balances, 4, .inl u.2.1)), (h0_code, ce_Co h0_code_ops h0_code_arguments), (h0_code_ops, .inl (c0_code_ops, 16, .inl u.2.2.1)), (h0_code_arguments, .inl (c0_code_arguments, 16, .inl u.2.2.2.1)), (h0_inbox, ce_In h0_inbox_words u.2.2.2.2.1), (h0_inbox_words, .inl (c0_inbox_words, 60, .inl u.2.2.2.2.2.1)), (h0_trueState, ce_Ma h0_trueState_cells h0_trueState_tree u.2.2.2.2.2.2.1), (h0_trueState_cells, .inl (c0_trueState_cells, 8, .inl u.2.2.2.2.2.2.2.1)), (h0_scratch, ce_Ma h0_scratch_cells h0_scratch_tree u.2.2.2.2.2.2.2.2.1), (h0_scratch_cells, .inl (c0_scratch_cells, 8, .inl u.2.2.2.2.2.2.2.2.2.1)), (h0_scratch_tree, .inl (c0_scratch_tree, 16, .inr (.inl u.2.2.2.2.2.2.2.2.2.2.1))), (h0_assertion, ce_As u.2.2.2.2.2.2.2.2.2.2.2)]) [0, 1, 2, 3, 4, 5, 6, 7, 8, 9, 10, 11, 12] (by decide) rfl
        have hK9 := hK.sub (tys' := [(c0_balances, .int), (c0_code_ops, .int), (c0_code_arguments, .int), (c0_inbox_words, .int), (c0_trueState_cells, .int), (c0_scratch_cells, .int), (c0_scratch_tree, .long)]) [0, 1, 2, 3, 4, 5, 6] rfl
        obtain ⟨sa, hstr⟩ := hZ.2.2.1 _ (List.mem_of_getElem? (i := 5) rfl)
        exact tx_throw (own := "StepCourt") (cls := "java/lang/IllegalArgumentException") (names := ["java/lang/RuntimeException", "java/lang/Exception"]) (A := A) hx hb hl9 hown (by decide +kernel) (by decide +kernel) oa_91 hq wt_515 wt_15 hZ hstr hT9 hS (by rw [hml]; exact hl.1) dSc_claim_35 dSc_claim_38 dSc_claim_39 dSc_claim_41 dSc_claim_44 hTab hlocks (by decide) (by decide) (by decide) (by decide) (fun t ce q ha hz1 hk1 hce hcv hcl => ⟨Or.inr ⟨q, _, ce, (u.1, u.2.1, u.2.2.1, u.2.2.2.1, u.2.2.2.2.1, u.2.2.2.2.2.1, u.2.2.2.2.2.2.1, u.2.2.2.2.2.2.2.1, u.2.2.2.2.2.2.2.2.1, u.2.2.2.2.2.2.2.2.2.1, u.2.2.2.2.2.2.2.2.2.2.1, u.2.2.2.2.2.2.2.2.2.2.2), rfl, hw, ⟨hP9.kept (fun k q hk => hk1 q.1 (hP9 k q hk).lt), va_K.moved ha hK9, hD9⟩, hce, hcv, hcl⟩, Nat.le_trans hS.1 hz1, fun z h1 h2 => (hk1 z (Nat.lt_of_lt_of_le h1 hS.1)).trans (hS.2.1 z h1 h2)⟩) hS.2.2 (by decide) (by decide)
      · have hw := hw.2 cc5
        refine lv_iload_n hx hb dSc_claim_29 rfl (lv_at hl 2 rfl) ?_
        refine lv_bipush (v := 64) hx hb dSc_claim_30 (by decide) ?_
        refine lv_icmp_le (tgt := 45) hx hb dSc_claim_32 (by decide) (fun cc6 => ?_) (fun cc6 => ?_)
        · have hw := hw.1 cc6
          refine lv_aload_n hx hb dSc_claim_45 rfl (lv_at hl 0 rfl) ?_
          refine lv_iload_n hx hb dSc_claim_46 rfl (lv_at hl 1 rfl) ?_
          have hPc := hP.sub (ws' := [(h0, ce_Sc h0_balances h0_code h0_inbox h0_trueState h0_scratch h0_payments h0_proof h0_assertion h0_games u.1), (h0_balances, .inl (c0_balances, 4, .inl u.2.1))]) [0, 1] rfl
          have hDc := hD.sub (ws' := [(h0, ce_Sc h0_balances h0_code h0_inbox h0_trueState h0_scratch h0_payments h0_proof h0_assertion h0_games u.1), (h0_balances, .inl (c0_balances, 4, .inl u.2.1))]) [0, 1] (by decide) rfl
          have hKc := hK.sub (tys' := [(c0_balances, .int)]) [0] rfl
          have hFc := va_free (wc := [(h0, ce_Sc h0_balances h0_code h0_inbox h0_trueState h0_scratch h0_payments h0_proof h0_assertion h0_games u.1), (h0_balances, .inl (c0_balances, 4, .inl u.2.1))]) hD hS hA [0, 1] rfl
          refine tx_call (tx_runV (As := [.int k1]) (rest := []) ⟨hx, hb, hml, hown, hq⟩ (mt_Sc_takeStake l hl9 dC dI h0 h0_balances h0_code h0_inbox h0_trueState h0_scratch h0_payments h0_proof h0_assertion h0_games c0_balances H.size _ _ (u.1, u.2.1) k1 hw) ⟨cq_B 1 hq wt_591 wt_588 wt_1 rfl rfl hd_Sc_takeStake ⟨Nat.le_of_ble_eq_true rfl, Nat.le_of_ble_eq_true rfl⟩, (hq _ wt_590), (hq _ wv_15)⟩ ⟨kx_bl, va_recv hKc hPc (ci := 7) (q0 := 0) rfl rfl, kx_at hPc hKc hDc hZ hFc hS hT9⟩ 8 (Nat.le_of_ble_eq_true rfl) rfl rfl hl.1 rfl (tx_rm (Nat.le_of_ble_eq_true rfl)) dSc_claim_47 ⟨(by decide), (by decide)⟩) hS (fun q _ h => hFc q h) hFc ?_ ?_
          · intro E9 ce q9 u9 t H1 locs ht hvm hw hB hz1 hk1 hS hce hcv hcl
            obtain ⟨hP1, hK1, hD1⟩ := hB
            rw [ht] at hP1
            have hK1 := va_K.moved hvm.symm hK1
            obtain ⟨hP, hD⟩ := va_join (wr := [(h0_code, ce_Co h0_code_ops h0_code_arguments), (h0_code_ops, .inl (c0_code_ops, 16, .inl u.2.2.1)), (h0_code_arguments, .inl (c0_code_arguments, 16, .inl u.2.2.2.1)), (h0_inbox, ce_In h0_inbox_words u.2.2.2.2.1), (h0_inbox_words, .inl (c0_inbox_words, 60, .inl u.2.2.2.2.2.1)), (h0_trueState, ce_Ma h0_trueState_cells h0_trueState_tree u.2.2.2.2.2.2.1), (h0_trueState_cells, .inl (c0_trueState_cells, 8, .inl u.2.2.2.2.2.2.2.1)), (h0_scratch, ce_Ma h0_scratch_cells h0_scratch_tree u.2.2.2.2.2.2.2.2.1), (h0_scratch_cells, .inl (c0_scratch_cells, 8, .inl u.2.2.2.2.2.2.2.2.2.1)), (h0_scratch_tree, .inl (c0_scratch_tree, 16, .inr (.inl u.2.2.2.2.2.2.2.2.2.2.1))), (h0_assertion, ce_As u.2.2.2.2.2.2.2.2.2.2.2)]) (w1 := [(h0, ce_Sc h0_balances h0_code h0_inbox h0_trueState h0_scratch h0_payments h0_proof h0_assertion h0_games u9.1), (h0_balances, .inl (c0_balances, 4, .inl u9.2))]) hP hD [0, 1] [2, 3, 4, 5, 6, 7, 8, 9, 10, 11, 12] rfl rfl (by decide) (by decide) hk1 hFc hP1 hD1
            have hK := (hK.sub (tys' := [(c0_code_ops, .int), (c0_code_arguments, .int), (c0_inbox_words, .int), (c0_trueState_cells, .int), (c0_scratch_cells, .int), (c0_scratch_tree, .long)]) [1, 2, 3, 4, 5, 6] rfl).app hK1
            generalize H1 = H at hP hS hce ⊢
            have hP : va_P (dC, dI) vwCl [(h0_code, ce_Co h0_code_ops h0_code_arguments), (h0_code_ops, .inl (c0_code_ops, 16, .inl u.2.2.1)), (h0_code_arguments, .inl (c0_code_arguments, 16, .inl u.2.2.2.1)), (h0_inbox, ce_In h0_inbox_words u.2.2.2.2.1), (h0_inbox_words, .inl (c0_inbox_words, 60, .inl u.2.2.2.2.2.1)), (h0_trueState, ce_Ma h0_trueState_cells h0_trueState_tree u.2.2.2.2.2.2.1), (h0_trueState_cells, .inl (c0_trueState_cells, 8, .inl u.2.2.2.2.2.2.2.1)), (h0_scratch, ce_Ma h0_scratch_cells h0_scratch_tree u.2.2.2.2.2.2.2.2.1), (h0_scratch_cells, .inl (c0_scratch_cells, 8, .inl u.2.2.2.2.2.2.2.2.2.1)), (h0_scratch_tree, .inl (c0_scratch_tree, 16, .inr (.inl u.2.2.2.2.2.2.2.2.2.2.1))), (h0_assertion, ce_As u.2.2.2.2.2.2.2.2.2.2.2), (h0, ce_Sc h0_balances h0_code h0_inbox h0_trueState h0_scratch h0_payments h0_proof h0_assertion h0_games u9.1), (h0_balances, .inl (c0_balances, 4, .inl u9.2))] H := hP
            have hD : va_D A [(h0_code, ce_Co h0_code_ops h0_code_arguments), (h0_code_ops, .inl (c0_code_ops, 16, .inl u.2.2.1)), (h0_code_arguments, .inl (c0_code_arguments, 16, .inl u.2.2.2.1)), (h0_inbox, ce_In h0_inbox_words u.2.2.2.2.1), (h0_inbox_words, .inl (c0_inbox_words, 60, .inl u.2.2.2.2.2.1)), (h0_trueState, ce_Ma h0_trueState_cells h0_trueState_tree u.2.2.2.2.2.2.1), (h0_trueState_cells, .inl (c0_trueState_cells, 8, .inl u.2.2.2.2.2.2.2.1)), (h0_scratch, ce_Ma h0_scratch_cells h0_scratch_tree u.2.2.2.2.2.2.2.2.1), (h0_scratch_cells, .inl (c0_scratch_cells, 8, .inl u.2.2.2.2.2.2.2.2.2.1)), (h0_scratch_tree, .inl (c0_scratch_tree, 16, .inr (.inl u.2.2.2.2.2.2.2.2.2.2.1))), (h0_assertion, ce_As u.2.2.2.2.2.2.2.2.2.2.2), (h0, ce_Sc h0_balances h0_code h0_inbox h0_trueState h0_scratch h0_payments h0_proof h0_assertion h0_games u9.1), (h0_balances, .inl (c0_balances, 4, .inl u9.2))] := hD
            have hK : va_K (dC, dI) vwCl [(c0_code_ops, .int), (c0_code_arguments, .int), (c0_inbox_words, .int), (c0_trueState_cells, .int), (c0_scratch_cells, .int), (c0_scratch_tree, .long), (c0_balances, .int)] s := hK
            refine tx_widen (k := 2) (n := 12) (by decide) (by decide) ?_
            have hP9 := hP.sub (ws' := [(h0, ce_Sc h0_balances h0_code h0_inbox h0_trueState h0_scratch h0_payments h0_proof h0_assertion h0_games u9.1), (h0_balances, .inl (c0_balances, 4, .inl u9.2)), (h0_code, ce_Co h0_code_ops h0_code_arguments), (h0_code_ops, .inl (c0_code_ops, 16, .inl u.2.2.1)), (h0_code_arguments, .inl (c0_code_arguments, 16, .inl u.2.2.2.1)), (h0_inbox, ce_In h0_inbox_words u.2.2.2.2.1), (h0_inbox_words, .inl (c0_inbox_words, 60, .inl u.2.2.2.2.2.1)), (h0_trueState, ce_Ma h0_trueState_cells h0_trueState_tree u.2.2.2.2.2.2.1), (h0_trueState_cells, .inl (c0_trueState_cells, 8, .inl u.2.2.2.2.2.2.2.1)), (h0_scratch, ce_Ma h0_scratch_cells h0_scratch_tree u.2.2.2.2.2.2.2.2.1), (h0_scratch_cells, .inl (c0_scratch_cells, 8, .inl u.2.2.2.2.2.2.2.2.2.1)), (h0_scratch_tree, .inl (c0_scratch_tree, 16, .inr (.inl u.2.2.2.2.2.2.2.2.2.2.1))), (h0_assertion, ce_As u.2.2.2.2.2.2.2.2.2.2.2)]) [11, 12, 0, 1, 2, 3, 4, 5, 6, 7, 8, 9, 10] rfl
            have hD9 := hD.sub (ws' := [(h0, ce_Sc h0_balances h0_code h0_inbox h0_trueState h0_scratch h0_payments h0_proof h0_assertion h0_games u9.1), (h0_balances, .inl (c0_balances, 4, .inl u9.2)), (h0_code, ce_Co h0_code_ops h0_code_arguments), (h0_code_ops, .inl (c0_code_ops, 16, .inl u.2.2.1)), (h0_code_arguments, .inl (c0_code_arguments, 16, .inl u.2.2.2.1)), (h0_inbox, ce_In h0_inbox_words u.2.2.2.2.1), (h0_inbox_words, .inl (c0_inbox_words, 60, .inl u.2.2.2.2.2.1)), (h0_trueState, ce_Ma h0_trueState_cells h0_trueState_tree u.2.2.2.2.2.2.1), (h0_trueState_cells, .inl (c0_trueState_cells, 8, .inl u.2.2.2.2.2.2.2.1)), (h0_scratch, ce_Ma h0_scratch_cells h0_scratch_tree u.2.2.2.2.2.2.2.2.1), (h0_scratch_cells, .inl (c0_scratch_cells, 8, .inl u.2.2.2.2.2.2.2.2.2.1)), (h0_scratch_tree, .inl (c0_scratch_tree, 16, .inr (.inl u.2.2.2.2.2.2.2.2.2.2.1))), (h0_assertion, ce_As u.2.2.2.2.2.2.2.2.2.2.2)]) [11, 12, 0, 1, 2, 3, 4, 5, 6, 7, 8, 9, 10] (by decide) rfl
            have hK9 := hK.sub (tys' := [(c0_balances, .int), (c0_code_ops, .int), (c0_code_arguments, .int), (c0_inbox_words, .int), (c0_trueState_cells, .int), (c0_scratch_cells, .int), (c0_scratch_tree, .long)]) [6, 0, 1, 2, 3, 4, 5] rfl
            exact tx_out (fun x hx => (hTab x hx).elim) hlocks (fun t ht ha => ⟨Or.inr ⟨q9, E9, ce, (u9.1, u9.2, u.2.2.1, u.2.2.2.1, u.2.2.2.2.1, u.2.2.2.2.2.1, u.2.2.2.2.2.2.1, u.2.2.2.2.2.2.2.1, u.2.2.2.2.2.2.2.2.1, u.2.2.2.2.2.2.2.2.2.1, u.2.2.2.2.2.2.2.2.2.2.1, u.2.2.2.2.2.2.2.2.2.2.2), rfl, hw, ⟨by rw [ht]; exact hP9, va_K.moved ha hK9, hD9⟩, by rw [ht]; exact hce, hcv, hcl⟩, hS.F ht⟩) hS.2.2 (by decide) (by decide)
          · intro _ u8 t H1 locs ht hvm hw hB hz1 hk1 hS
            obtain ⟨hP1, hK1, hD1⟩ := hB
            rw [ht] at hP1
            have hK1 := va_K.moved hvm.symm hK1
            obtain ⟨hP, hD⟩ := va_join (wr := [(h0_code, ce_Co h0_code_ops h0_code_arguments), (h0_code_ops, .inl (c0_code_ops, 16, .inl u.2.2.1)), (h0_code_arguments, .inl (c0_code_arguments, 16, .inl u.2.2.2.1)), (h0_inbox, ce_In h0_inbox_words u.2.2.2.2.1), (h0_inbox_words, .inl (c0_inbox_words, 60, .inl u.2.2.2.2.2.1)), (h0_trueState, ce_Ma h0_trueState_cells h0_trueState_tree u.2.2.2.2.2.2.1), (h0_trueState_cells, .inl (c0_trueState_cells, 8, .inl u.2.2.2.2.2.2.2.1)), (h0_scratch, ce_Ma h0_scratch_cells h0_scratch_tree u.2.2.2.2.2.2.2.2.1), (h0_scratch_cells, .inl (c0_scratch_cells, 8, .inl u.2.2.2.2.2.2.2.2.2.1)), (h0_scratch_tree, .inl (c0_scratch_tree, 16, .inr (.inl u.2.2.2.2.2.2.2.2.2.2.1))), (h0_assertion, ce_As u.2.2.2.2.2.2.2.2.2.2.2)]) (w1 := [(h0, ce_Sc h0_balances h0_code h0_inbox h0_trueState h0_scratch h0_payments h0_proof h0_assertion h0_games u8.1), (h0_balances, .inl (c0_balances, 4, .inl u8.2))]) hP hD [0, 1] [2, 3, 4, 5, 6, 7, 8, 9, 10, 11, 12] rfl rfl (by decide) (by decide) hk1 hFc hP1 hD1
            have hK := (hK.sub (tys' := [(c0_code_ops, .int), (c0_code_arguments, .int), (c0_inbox_words, .int), (c0_trueState_cells, .int), (c0_scratch_cells, .int), (c0_scratch_tree, .long)]) [1, 2, 3, 4, 5, 6] rfl).app hK1
            generalize H1 = H at hP hS ⊢
            have hP : va_P (dC, dI) vwCl [(h0_code, ce_Co h0_code_ops h0_code_arguments), (h0_code_ops, .inl (c0_code_ops, 16, .inl u.2.2.1)), (h0_code_arguments, .inl (c0_code_arguments, 16, .inl u.2.2.2.1)), (h0_inbox, ce_In h0_inbox_words u.2.2.2.2.1), (h0_inbox_words, .inl (c0_inbox_words, 60, .inl u.2.2.2.2.2.1)), (h0_trueState, ce_Ma h0_trueState_cells h0_trueState_tree u.2.2.2.2.2.2.1), (h0_trueState_cells, .inl (c0_trueState_cells, 8, .inl u.2.2.2.2.2.2.2.1)), (h0_scratch, ce_Ma h0_scratch_cells h0_scratch_tree u.2.2.2.2.2.2.2.2.1), (h0_scratch_cells, .inl (c0_scratch_cells, 8, .inl u.2.2.2.2.2.2.2.2.2.1)), (h0_scratch_tree, .inl (c0_scratch_tree, 16, .inr (.inl u.2.2.2.2.2.2.2.2.2.2.1))), (h0_assertion, ce_As u.2.2.2.2.2.2.2.2.2.2.2), (h0, ce_Sc h0_balances h0_code h0_inbox h0_trueState h0_scratch h0_payments h0_proof h0_assertion h0_games u8.1), (h0_balances, .inl (c0_balances, 4, .inl u8.2))] H := hP
            have hD : va_D A [(h0_code, ce_Co h0_code_ops h0_code_arguments), (h0_code_ops, .inl (c0_code_ops, 16, .inl u.2.2.1)), (h0_code_arguments, .inl (c0_code_arguments, 16, .inl u.2.2.2.1)), (h0_inbox, ce_In h0_inbox_words u.2.2.2.2.1), (h0_inbox_words, .inl (c0_inbox_words, 60, .inl u.2.2.2.2.2.1)), (h0_trueState, ce_Ma h0_trueState_cells h0_trueState_tree u.2.2.2.2.2.2.1), (h0_trueState_cells, .inl (c0_trueState_cells, 8, .inl u.2.2.2.2.2.2.2.1)), (h0_scratch, ce_Ma h0_scratch_cells h0_scratch_tree u.2.2.2.2.2.2.2.2.1), (h0_scratch_cells, .inl (c0_scratch_cells, 8, .inl u.2.2.2.2.2.2.2.2.2.1)), (h0_scratch_tree, .inl (c0_scratch_tree, 16, .inr (.inl u.2.2.2.2.2.2.2.2.2.2.1))), (h0_assertion, ce_As u.2.2.2.2.2.2.2.2.2.2.2), (h0, ce_Sc h0_balances h0_code h0_inbox h0_trueState h0_scratch h0_payments h0_proof h0_assertion h0_games u8.1), (h0_balances, .inl (c0_balances, 4, .inl u8.2))] := hD
            have hK : va_K (dC, dI) vwCl [(c0_code_ops, .int), (c0_code_arguments, .int), (c0_inbox_words, .int), (c0_trueState_cells, .int), (c0_scratch_cells, .int), (c0_scratch_tree, .long), (c0_balances, .int)] s := hK
            refine W.widen (k := 2) (n := 12) (by decide) (by decide) ?_
            refine W.eq (g2 := F0 m 50 ls []) rfl ?_
            refine lv_aload_n hx hb dSc_claim_50 rfl (lv_at hl 0 rfl) ?_
            refine va_get (D := (dC, dI)) (ci := 7) (v := .ref h0_assertion) (C := "StepCourt") (T := TSc) (N := 13) hx hb hq inSc hown hK hP 11 rfl rfl 7 (by decide) (hq _ wt_261) (fun _ h9 => h9) rfl dSc_claim_51 ?_
            refine lv_iload_n hx hb dSc_claim_54 rfl (lv_at hl 1 rfl) ?_
            refine lv_iload_n hx hb dSc_claim_55 rfl (lv_at hl 2 rfl) ?_
            refine lv_aload_n hx hb dSc_claim_56 rfl (lv_at hl 0 rfl) ?_
            refine va_get (D := (dC, dI)) (ci := 7) (v := .ref h0_inbox) (C := "StepCourt") (T := TSc) (N := 13) hx hb hq inSc hown hK hP 11 rfl rfl 2 (by decide) (hq _ wt_256) (fun _ h9 => h9) rfl dSc_claim_57 ?_
            refine va_getN (D := (dC, dI)) (ci := 3) (v := .int u.2.2.2.2.1) (C := "StepCourt$Inbox") (T := TIn) (N := 2) hx hb hq inIn hown hK hP 3 rfl rfl 1 (by decide) (va_Nw.use rfl (hZ.1 _ zt_53)) (fun _ h9 => h9) rfl dSc_claim_60 ?_
            refine lv_aload_n hx hb dSc_claim_63 rfl (lv_at hl 0 rfl) ?_
            refine va_get (D := (dC, dI)) (ci := 7) (v := .int u8.1.2.2.1) (C := "StepCourt") (T := TSc) (N := 13) hx hb hq inSc hown hK hP 11 rfl rfl 11 (by decide) (hq _ wt_265) (fun _ h9 => h9) rfl dSc_claim_64 ?_
            have hPc := hP.sub (ws' := [(h0_assertion, ce_As u.2.2.2.2.2.2.2.2.2.2.2)]) [10] rfl
            have hDc := hD.sub (ws' := [(h0_assertion, ce_As u.2.2.2.2.2.2.2.2.2.2.2)]) [10] (by decide) rfl
            have hKc := hK.sub (tys' := []) [] rfl
            have hFc := va_free (wc := [(h0_assertion, ce_As u.2.2.2.2.2.2.2.2.2.2.2)]) hD hS hA [10] rfl
            refine va_callv (va_runV (As := [.int k1, .int k2, .int u.2.2.2.2.1, .int u8.1.2.2.1]) (rest := []) ⟨hx, hb, hml, hown, hq⟩ (mt_As_open l dC dI h0_assertion H.size _ u.2.2.2.2.2.2.2.2.2.2.2 k1 k2 u.2.2.2.2.1 u8.1.2.2.1 hw) ⟨cq_B 4 hq wt_596 wt_593 wt_7 rfl rfl hd_As_open ⟨Nat.le_of_ble_eq_true rfl, Nat.le_of_ble_eq_true rfl⟩, (hq _ wt_594), (hq _ wt_595)⟩ ⟨kp_bl, va_recv hKc hPc (ci := 0) (q0 := 0) rfl rfl, kp_at hPc hKc hDc hZ⟩ rfl rfl hl.1 rfl (lv_room (Nat.le_of_ble_eq_true rfl)) dSc_claim_67 ⟨(by decide), (by decide)⟩) hS (fun q _ h => hFc q h) hFc (fun u11 t H1 locs ht hvm hw hB hz1 hk1 hS => ?_)
            obtain ⟨hP1, hK1, hD1⟩ := hB
            rw [ht] at hP1
            have hK1 := va_K.moved hvm.symm hK1
            obtain ⟨hP, hD⟩ := va_join (wr := [(h0_code, ce_Co h0_code_ops h0_code_arguments), (h0_code_ops, .inl (c0_code_ops, 16, .inl u.2.2.1)), (h0_code_arguments, .inl (c0_code_arguments, 16, .inl u.2.2.2.1)), (h0_inbox, ce_In h0_inbox_words u.2.2.2.2.1), (h0_inbox_words, .inl (c0_inbox_words, 60, .inl u.2.2.2.2.2.1)), (h0_trueState, ce_Ma h0_trueState_cells h0_trueState_tree u.2.2.2.2.2.2.1), (h0_trueState_cells, .inl (c0_trueState_cells, 8, .inl u.2.2.2.2.2.2.2.1)), (h0_scratch, ce_Ma h0_scratch_cells h0_scratch_tree u.2.2.2.2.2.2.2.2.1), (h0_scratch_cells, .inl (c0_scratch_cells, 8, .inl u.2.2.2.2.2.2.2.2.2.1)), (h0_scratch_tree, .inl (c0_scratch_tree, 16, .inr (.inl u.2.2.2.2.2.2.2.2.2.2.1))), (h0, ce_Sc h0_balances h0_code h0_inbox h0_trueState h0_scratch h0_payments h0_proof h0_assertion h0_games u8.1), (h0_balances, .inl (c0_balances, 4, .inl u8.2))]) (w1 := [(h0_assertion, ce_As u11)]) hP hD [10] [0, 1, 2, 3, 4, 5, 6, 7, 8, 9, 11, 12] rfl rfl (by decide) (by decide) hk1 hFc hP1 hD1
            have hK := (hK.sub (tys' := [(c0_code_ops, .int), (c0_code_arguments, .int), (c0_inbox_words, .int), (c0_trueState_cells, .int), (c0_scratch_cells, .int), (c0_scratch_tree, .long), (c0_balances, .int)]) [0, 1, 2, 3, 4, 5, 6] rfl).app hK1
            generalize H1 = H at hP hS ⊢
            have hP : va_P (dC, dI) vwCl [(h0_code, ce_Co h0_code_ops h0_code_arguments), (h0_code_ops, .inl (c0_code_ops, 16, .inl u.2.2.1)), (h0_code_arguments, .inl (c0_code_arguments, 16, .inl u.2.2.2.1)), (h0_inbox, ce_In h0_inbox_words u.2.2.2.2.1), (h0_inbox_words, .inl (c0_inbox_words, 60, .inl u.2.2.2.2.2.1)), (h0_trueState, ce_Ma h0_trueState_cells h0_trueState_tree u.2.2.2.2.2.2.1), (h0_trueState_cells, .inl (c0_trueState_cells, 8, .inl u.2.2.2.2.2.2.2.1)), (h0_scratch, ce_Ma h0_scratch_cells h0_scratch_tree u.2.2.2.2.2.2.2.2.1), (h0_scratch_cells, .inl (c0_scratch_cells, 8, .inl u.2.2.2.2.2.2.2.2.2.1)), (h0_scratch_tree, .inl (c0_scratch_tree, 16, .inr (.inl u.2.2.2.2.2.2.2.2.2.2.1))), (h0, ce_Sc h0_balances h0_code h0_inbox h0_trueState h0_scratch h0_payments h0_proof h0_assertion h0_games u8.1), (h0_balances, .inl (c0_balances, 4, .inl u8.2)), (h0_assertion, ce_As u11)] H := hP
            have hD : va_D A [(h0_code, ce_Co h0_code_ops h0_code_arguments), (h0_code_ops, .inl (c0_code_ops, 16, .inl u.2.2.1)), (h0_code_arguments, .inl (c0_code_arguments, 16, .inl u.2.2.2.1)), (h0_inbox, ce_In h0_inbox_words u.2.2.2.2.1), (h0_inbox_words, .inl (c0_inbox_words, 60, .inl u.2.2.2.2.2.1)), (h0_trueState, ce_Ma h0_trueState_cells h0_trueState_tree u.2.2.2.2.2.2.1), (h0_trueState_cells, .inl (c0_trueState_cells, 8, .inl u.2.2.2.2.2.2.2.1)), (h0_scratch, ce_Ma h0_scratch_cells h0_scratch_tree u.2.2.2.2.2.2.2.2.1), (h0_scratch_cells, .inl (c0_scratch_cells, 8, .inl u.2.2.2.2.2.2.2.2.2.1)), (h0_scratch_tree, .inl (c0_scratch_tree, 16, .inr (.inl u.2.2.2.2.2.2.2.2.2.2.1))), (h0, ce_Sc h0_balances h0_code h0_inbox h0_trueState h0_scratch h0_payments h0_proof h0_assertion h0_games u8.1), (h0_balances, .inl (c0_balances, 4, .inl u8.2)), (h0_assertion, ce_As u11)] := hD
            have hK : va_K (dC, dI) vwCl [(c0_code_ops, .int), (c0_code_arguments, .int), (c0_inbox_words, .int), (c0_trueState_cells, .int), (c0_scratch_cells, .int), (c0_scratch_tree, .long), (c0_balances, .int)] s := hK
            refine lv_aload_n hx hb dSc_claim_70 rfl (lv_at hl 0 rfl) ?_
            refine va_get (D := (dC, dI)) (ci := 7) (v := .ref h0_assertion) (C := "StepCourt") (T := TSc) (N := 13) hx hb hq inSc hown hK hP 10 rfl rfl 7 (by decide) (hq _ wt_261) (fun _ h9 => h9) rfl dSc_claim_71 ?_
            refine lv_aload_n hx hb dSc_claim_74 rfl (lv_at hl 0 rfl) ?_
            refine lv_iload_n hx hb dSc_claim_75 rfl (lv_at hl 2 rfl) ?_
            have hPc := hP.sub (ws' := [(h0, ce_Sc h0_balances h0_code h0_inbox h0_trueState h0_scratch h0_payments h0_proof h0_assertion h0_games u8.1), (h0_code, ce_Co h0_code_ops h0_code_arguments), (h0_code_ops, .inl (c0_code_ops, 16, .inl u.2.2.1)), (h0_code_arguments, .inl (c0_code_arguments, 16, .inl u.2.2.2.1)), (h0_inbox, ce_In h0_inbox_words u.2.2.2.2.1), (h0_inbox_words, .inl (c0_inbox_words, 60, .inl u.2.2.2.2.2.1)), (h0_trueState, ce_Ma h0_trueState_cells h0_trueState_tree u.2.2.2.2.2.2.1), (h0_trueState_cells, .inl (c0_trueState_cells, 8, .inl u.2.2.2.2.2.2.2.1)), (h0_scratch, ce_Ma h0_scratch_cells h0_scratch_tree u.2.2.2.2.2.2.2.2.1), (h0_scratch_cells, .inl (c0_scratch_cells, 8, .inl u.2.2.2.2.2.2.2.2.2.1)), (h0_scratch_tree, .inl (c0_scratch_tree, 16, .inr (.inl u.2.2.2.2.2.2.2.2.2.2.1))), (h0_assertion, ce_As u11)]) [10, 0, 1, 2, 3, 4, 5, 6, 7, 8, 9, 12] rfl
            have hDc := hD.sub (ws' := [(h0, ce_Sc h0_balances h0_code h0_inbox h0_trueState h0_scratch h0_payments h0_proof h0_assertion h0_games u8.1), (h0_code, ce_Co h0_code_ops h0_code_arguments), (h0_code_ops, .inl (c0_code_ops, 16, .inl u.2.2.1)), (h0_code_arguments, .inl (c0_code_arguments, 16, .inl u.2.2.2.1)), (h0_inbox, ce_In h0_inbox_words u.2.2.2.2.1), (h0_inbox_words, .inl (c0_inbox_words, 60, .inl u.2.2.2.2.2.1)), (h0_trueState, ce_Ma h0_trueState_cells h0_trueState_tree u.2.2.2.2.2.2.1), (h0_trueState_cells, .inl (c0_trueState_cells, 8, .inl u.2.2.2.2.2.2.2.1)), (h0_scratch, ce_Ma h0_scratch_cells h0_scratch_tree u.2.2.2.2.2.2.2.2.1), (h0_scratch_cells, .inl (c0_scratch_cells, 8, .inl u.2.2.2.2.2.2.2.2.2.1)), (h0_scratch_tree, .inl (c0_scratch_tree, 16, .inr (.inl u.2.2.2.2.2.2.2.2.2.2.1))), (h0_assertion, ce_As u11)]) [10, 0, 1, 2, 3, 4, 5, 6, 7, 8, 9, 12] (by decide) rfl
            have hKc := hK.sub (tys' := [(c0_code_ops, .int), (c0_code_arguments, .int), (c0_inbox_words, .int), (c0_trueState_cells, .int), (c0_scratch_cells, .int), (c0_scratch_tree, .long)]) [0, 1, 2, 3, 4, 5] rfl
            have hFc := va_free (wc := [(h0, ce_Sc h0_balances h0_code h0_inbox h0_trueState h0_scratch h0_payments h0_proof h0_assertion h0_games u8.1), (h0_code, ce_Co h0_code_ops h0_code_arguments), (h0_code_ops, .inl (c0_code_ops, 16, .inl u.2.2.1)), (h0_code_arguments, .inl (c0_code_arguments, 16, .inl u.2.2.2.1)), (h0_inbox, ce_In h0_inbox_words u.2.2.2.2.1), (h0_inbox_words, .inl (c0_inbox_words, 60, .inl u.2.2.2.2.2.1)), (h0_trueState, ce_Ma h0_trueState_cells h0_trueState_tree u.2.2.2.2.2.2.1), (h0_trueState_cells, .inl (c0_trueState_cells, 8, .inl u.2.2.2.2.2.2.2.1)), (h0_scratch, ce_Ma h0_scratch_cells h0_scratch_tree u.2.2.2.2.2.2.2.2.1), (h0_scratch_cells, .inl (c0_scratch_cells, 8, .inl u.2.2.2.2.2.2.2.2.2.1)), (h0_scratch_tree, .inl (c0_scratch_tree, 16, .inr (.inl u.2.2.2.2.2.2.2.2.2.2.1))), (h0_assertion, ce_As u11)]) hD hS hA [10, 0, 1, 2, 3, 4, 5, 6, 7, 8, 9, 12] rfl
            refine va_calll (va_runV (As := [.int k2]) (rest := [.ref h0_assertion]) ⟨hx, hb, hml, hown, hq⟩ (mt_Sc_trueCommitment l dC dI h0 h0_code h0_code_ops h0_code_arguments h0_inbox h0_inbox_words h0_trueState h0_trueState_cells h0_scratch h0_scratch_cells h0_scratch_tree h0_assertion h0_balances h0_payments h0_proof h0_games h0_trueState_tree c0_code_ops c0_code_arguments c0_inbox_words c0_trueState_cells c0_scratch_cells c0_scratch_tree H.size _ (u8.1, u.2.2.1, u.2.2.2.1, u.2.2.2.2.1, u.2.2.2.2.2.1, u.2.2.2.2.2.2.1, u.2.2.2.2.2.2.2.1, u.2.2.2.2.2.2.2.2.1, u.2.2.2.2.2.2.2.2.2.1, u.2.2.2.2.2.2.2.2.2.2.1, u11) k2 hw) ⟨cq_B 1 hq wt_394 wt_391 wt_1 rfl rfl hd_Sc_trueCommitment ⟨Nat.le_of_ble_eq_true rfl, Nat.le_of_ble_eq_true rfl⟩, (hq _ wt_393), (hq _ wv_11)⟩ ⟨kp_bl, va_recv hKc hPc (ci := 7) (q0 := 0) rfl rfl, kp_at hPc hKc hDc hZ⟩ rfl rfl hl.1 rfl (lv_room (Nat.le_of_ble_eq_true rfl)) dSc_claim_76 ⟨(by decide), (by decide)⟩) hS (fun q _ h => hFc q h) hFc (fun r12 u13 t H1 locs ht hvm hw hB hz1 hk1 hS => ?_)
            obtain ⟨hP1, hK1, hD1⟩ := hB
            rw [ht] at hP1
            have hK1 := va_K.moved hvm.symm hK1
            obtain ⟨hP, hD⟩ := va_join (wr := [(h0_balances, .inl (c0_balances, 4, .inl u8.2))]) (w1 := [(h0, ce_Sc h0_balances h0_code h0_inbox h0_trueState h0_scratch h0_payments h0_proof h0_assertion h0_games u13.1), (h0_code, ce_Co h0_code_ops h0_code_arguments), (h0_code_ops, .inl (c0_code_ops, 16, .inl u13.2.1)), (h0_code_arguments, .inl (c0_code_arguments, 16, .inl u13.2.2.1)), (h0_inbox, ce_In h0_inbox_words u13.2.2.2.1), (h0_inbox_words, .inl (c0_inbox_words, 60, .inl u13.2.2.2.2.1)), (h0_trueState, ce_Ma h0_trueState_cells h0_trueState_tree u13.2.2.2.2.2.1), (h0_trueState_cells, .inl (c0_trueState_cells, 8, .inl u13.2.2.2.2.2.2.1)), (h0_scratch, ce_Ma h0_scratch_cells h0_scratch_tree u13.2.2.2.2.2.2.2.1), (h0_scratch_cells, .inl (c0_scratch_cells, 8, .inl u13.2.2.2.2.2.2.2.2.1)), (h0_scratch_tree, .inl (c0_scratch_tree, 16, .inr (.inl u13.2.2.2.2.2.2.2.2.2.1))), (h0_assertion, ce_As u13.2.2.2.2.2.2.2.2.2.2)]) hP hD [10, 0, 1, 2, 3, 4, 5, 6, 7, 8, 9, 12] [11] rfl rfl (by decide) (by decide) hk1 hFc hP1 hD1
            have hK := (hK.sub (tys' := [(c0_balances, .int)]) [6] rfl).app hK1
            generalize H1 = H at hP hS ⊢
            have hP : va_P (dC, dI) vwCl [(h0_balances, .inl (c0_balances, 4, .inl u8.2)), (h0, ce_Sc h0_balances h0_code h0_inbox h0_trueState h0_scratch h0_payments h0_proof h0_assertion h0_games u13.1), (h0_code, ce_Co h0_code_ops h0_code_arguments), (h0_code_ops, .inl (c0_code_ops, 16, .inl u13.2.1)), (h0_code_arguments, .inl (c0_code_arguments, 16, .inl u13.2.2.1)), (h0_inbox, ce_In h0_inbox_words u13.2.2.2.1), (h0_inbox_words, .inl (c0_inbox_words, 60, .inl u13.2.2.2.2.1)), (h0_trueState, ce_Ma h0_trueState_cells h0_trueState_tree u13.2.2.2.2.2.1), (h0_trueState_cells, .inl (c0_trueState_cells, 8, .inl u13.2.2.2.2.2.2.1)), (h0_scratch, ce_Ma h0_scratch_cells h0_scratch_tree u13.2.2.2.2.2.2.2.1), (h0_scratch_cells, .inl (c0_scratch_cells, 8, .inl u13.2.2.2.2.2.2.2.2.1)), (h0_scratch_tree, .inl (c0_scratch_tree, 16, .inr (.inl u13.2.2.2.2.2.2.2.2.2.1))), (h0_assertion, ce_As u13.2.2.2.2.2.2.2.2.2.2)] H := hP
            have hD : va_D A [(h0_balances, .inl (c0_balances, 4, .inl u8.2)), (h0, ce_Sc h0_balances h0_code h0_inbox h0_trueState h0_scratch h0_payments h0_proof h0_assertion h0_games u13.1), (h0_code, ce_Co h0_code_ops h0_code_arguments), (h0_code_ops, .inl (c0_code_ops, 16, .inl u13.2.1)), (h0_code_arguments, .inl (c0_code_arguments, 16, .inl u13.2.2.1)), (h0_inbox, ce_In h0_inbox_words u13.2.2.2.1), (h0_inbox_words, .inl (c0_inbox_words, 60, .inl u13.2.2.2.2.1)), (h0_trueState, ce_Ma h0_trueState_cells h0_trueState_tree u13.2.2.2.2.2.1), (h0_trueState_cells, .inl (c0_trueState_cells, 8, .inl u13.2.2.2.2.2.2.1)), (h0_scratch, ce_Ma h0_scratch_cells h0_scratch_tree u13.2.2.2.2.2.2.2.1), (h0_scratch_cells, .inl (c0_scratch_cells, 8, .inl u13.2.2.2.2.2.2.2.2.1)), (h0_scratch_tree, .inl (c0_scratch_tree, 16, .inr (.inl u13.2.2.2.2.2.2.2.2.2.1))), (h0_assertion, ce_As u13.2.2.2.2.2.2.2.2.2.2)] := hD
            have hK : va_K (dC, dI) vwCl [(c0_balances, .int), (c0_code_ops, .int), (c0_code_arguments, .int), (c0_inbox_words, .int), (c0_trueState_cells, .int), (c0_scratch_cells, .int), (c0_scratch_tree, .long)] s := hK
            refine lv_lload_n hx hb dSc_claim_79 rfl (lv_at hl 3 rfl) ?_
            refine lv_lxor hx hb dSc_claim_80 ?_
            refine lv_topl (fun f14 ef14 => ?_)
            have hw := hw f14 ef14
            refine va_putN (D := (dC, dI)) (ci := 0) (v := .long f14) (ty := .long) (C := "StepCourt$Assertion") (T := TAs) (N := 7) hx hb hq inAs tyAs tyAs_ok nmAs hown hK hP hD hS 12 rfl rfl 6 (by decide) (va_Nw.use rfl (hZ.1 _ zt_169)) (fun _ h9 => h9) rfl (by decide +kernel) rfl rfl (Nat.le_of_ble_eq_true rfl) dSc_claim_81 (fun H locs hP hD hS => ?_)
            have hP : va_P (dC, dI) vwCl [(h0_balances, .inl (c0_balances, 4, .inl u8.2)), (h0, ce_Sc h0_balances h0_code h0_inbox h0_trueState h0_scratch h0_payments h0_proof h0_assertion h0_games u13.1), (h0_code, ce_Co h0_code_ops h0_code_arguments), (h0_code_ops, .inl (c0_code_ops, 16, .inl u13.2.1)), (h0_code_arguments, .inl (c0_code_arguments, 16, .inl u13.2.2.1)), (h0_inbox, ce_In h0_inbox_words u13.2.2.2.1), (h0_inbox_words, .inl (c0_inbox_words, 60, .inl u13.2.2.2.2.1)), (h0_trueState, ce_Ma h0_trueState_cells h0_trueState_tree u13.2.2.2.2.2.1), (h0_trueState_cells, .inl (c0_trueState_cells, 8, .inl u13.2.2.2.2.2.2.1)), (h0_scratch, ce_Ma h0_scratch_cells h0_scratch_tree u13.2.2.2.2.2.2.2.1), (h0_scratch_cells, .inl (c0_scratch_cells, 8, .inl u13.2.2.2.2.2.2.2.2.1)), (h0_scratch_tree, .inl (c0_scratch_tree, 16, .inr (.inl u13.2.2.2.2.2.2.2.2.2.1))), (h0_assertion, ce_As (u13.2.2.2.2.2.2.2.2.2.2.1, u13.2.2.2.2.2.2.2.2.2.2.2.1, u13.2.2.2.2.2.2.2.2.2.2.2.2.1, u13.2.2.2.2.2.2.2.2.2.2.2.2.2.1, u13.2.2.2.2.2.2.2.2.2.2.2.2.2.2.1, u13.2.2.2.2.2.2.2.2.2.2.2.2.2.2.2.1, f14))] H := hP
            have hD : va_D A [(h0_balances, .inl (c0_balances, 4, .inl u8.2)), (h0, ce_Sc h0_balances h0_code h0_inbox h0_trueState h0_scratch h0_payments h0_proof h0_assertion h0_games u13.1), (h0_code, ce_Co h0_code_ops h0_code_arguments), (h0_code_ops, .inl (c0_code_ops, 16, .inl u13.2.1)), (h0_code_arguments, .inl (c0_code_arguments, 16, .inl u13.2.2.1)), (h0_inbox, ce_In h0_inbox_words u13.2.2.2.1), (h0_inbox_words, .inl (c0_inbox_words, 60, .inl u13.2.2.2.2.1)), (h0_trueState, ce_Ma h0_trueState_cells h0_trueState_tree u13.2.2.2.2.2.1), (h0_trueState_cells, .inl (c0_trueState_cells, 8, .inl u13.2.2.2.2.2.2.1)), (h0_scratch, ce_Ma h0_scratch_cells h0_scratch_tree u13.2.2.2.2.2.2.2.1), (h0_scratch_cells, .inl (c0_scratch_cells, 8, .inl u13.2.2.2.2.2.2.2.2.1)), (h0_scratch_tree, .inl (c0_scratch_tree, 16, .inr (.inl u13.2.2.2.2.2.2.2.2.2.1))), (h0_assertion, ce_As (u13.2.2.2.2.2.2.2.2.2.2.1, u13.2.2.2.2.2.2.2.2.2.2.2.1, u13.2.2.2.2.2.2.2.2.2.2.2.2.1, u13.2.2.2.2.2.2.2.2.2.2.2.2.2.1, u13.2.2.2.2.2.2.2.2.2.2.2.2.2.2.1, u13.2.2.2.2.2.2.2.2.2.2.2.2.2.2.2.1, f14))] := hD
            refine lv_aload_n hx hb dSc_claim_84 rfl (lv_at hl 0 rfl) ?_
            refine va_get (D := (dC, dI)) (ci := 7) (v := .ref h0_assertion) (C := "StepCourt") (T := TSc) (N := 13) hx hb hq inSc hown hK hP 1 rfl rfl 7 (by decide) (hq _ wt_261) (fun _ h9 => h9) rfl dSc_claim_85 ?_
            refine va_getN (D := (dC, dI)) (ci := 0) (v := .long f14) (C := "StepCourt$Assertion") (T := TAs) (N := 7) hx hb hq inAs hown hK hP 12 rfl rfl 6 (by decide) (va_Nw.use rfl (hZ.1 _ zt_169)) (fun _ h9 => h9) rfl dSc_claim_88 ?_
            refine tx_ret (Q1 := tx_Q tx_l post px (fun u9 => kp_B dC dI A (ww_Sc_claim h0 h0_balances h0_code h0_code_ops h0_code_arguments h0_inbox h0_inbox_words h0_trueState h0_trueState_cells h0_scratch h0_scratch_cells h0_scratch_tree h0_assertion h0_payments h0_proof h0_games h0_trueState_tree c0_balances c0_code_ops c0_code_arguments c0_inbox_words c0_trueState_cells c0_scratch_cells c0_scratch_tree u9) [(c0_balances, .int), (c0_code_ops, .int), (c0_code_arguments, .int), (c0_inbox_words, .int), (c0_trueState_cells, .int), (c0_scratch_cells, .int), (c0_scratch_tree, .long)]) A) (fun _ _ h => h) ?_
            have hP9 := hP.sub (ws' := [(h0, ce_Sc h0_balances h0_code h0_inbox h0_trueState h0_scratch h0_payments h0_proof h0_assertion h0_games u13.1), (h0_balances, .inl (c0_balances, 4, .inl u8.2)), (h0_code, ce_Co h0_code_ops h0_code_arguments), (h0_code_ops, .inl (c0_code_ops, 16, .inl u13.2.1)), (h0_code_arguments, .inl (c0_code_arguments, 16, .inl u13.2.2.1)), (h0_inbox, ce_In h0_inbox_words u13.2.2.2.1), (h0_inbox_words, .inl (c0_inbox_words, 60, .inl u13.2.2.2.2.1)), (h0_trueState, ce_Ma h0_trueState_cells h0_trueState_tree u13.2.2.2.2.2.1), (h0_trueState_cells, .inl (c0_trueState_cells, 8, .inl u13.2.2.2.2.2.2.1)), (h0_scratch, ce_Ma h0_scratch_cells h0_scratch_tree u13.2.2.2.2.2.2.2.1), (h0_scratch_cells, .inl (c0_scratch_cells, 8, .inl u13.2.2.2.2.2.2.2.2.1)), (h0_scratch_tree, .inl (c0_scratch_tree, 16, .inr (.inl u13.2.2.2.2.2.2.2.2.2.1))), (h0_assertion, ce_As (u13.2.2.2.2.2.2.2.2.2.2.1, u13.2.2.2.2.2.2.2.2.2.2.2.1, u13.2.2.2.2.2.2.2.2.2.2.2.2.1, u13.2.2.2.2.2.2.2.2.2.2.2.2.2.1, u13.2.2.2.2.2.2.2.2.2.2.2.2.2.2.1, u13.2.2.2.2.2.2.2.2.2.2.2.2.2.2.2.1, f14))]) [1, 0, 2, 3, 4, 5, 6, 7, 8, 9, 10, 11, 12] rfl
            have hD9 := hD.sub (ws' := [(h0, ce_Sc h0_balances h0_code h0_inbox h0_trueState h0_scratch h0_payments h0_proof h0_assertion h0_games u13.1), (h0_balances, .inl (c0_balances, 4, .inl u8.2)), (h0_code, ce_Co h0_code_ops h0_code_arguments), (h0_code_ops, .inl (c0_code_ops, 16, .inl u13.2.1)), (h0_code_arguments, .inl (c0_code_arguments, 16, .inl u13.2.2.1)), (h0_inbox, ce_In h0_inbox_words u13.2.2.2.1), (h0_inbox_words, .inl (c0_inbox_words, 60, .inl u13.2.2.2.2.1)), (h0_trueState, ce_Ma h0_trueState_cells h0_trueState_tree u13.2.2.2.2.2.1), (h0_trueState_cells, .inl (c0_trueState_cells, 8, .inl u13.2.2.2.2.2.2.1)), (h0_scratch, ce_Ma h0_scratch_cells h0_scratch_tree u13.2.2.2.2.2.2.2.1), (h0_scratch_cells, .inl (c0_scratch_cells, 8, .inl u13.2.2.2.2.2.2.2.2.1)), (h0_scratch_tree, .inl (c0_scratch_tree, 16, .inr (.inl u13.2.2.2.2.2.2.2.2.2.1))), (h0_assertion, ce_As (u13.2.2.2.2.2.2.2.2.2.2.1, u13.2.2.2.2.2.2.2.2.2.2.2.1, u13.2.2.2.2.2.2.2.2.2.2.2.2.1, u13.2.2.2.2.2.2.2.2.2.2.2.2.2.1, u13.2.2.2.2.2.2.2.2.2.2.2.2.2.2.1, u13.2.2.2.2.2.2.2.2.2.2.2.2.2.2.2.1, f14))]) [1, 0, 2, 3, 4, 5, 6, 7, 8, 9, 10, 11, 12] (by decide) rfl
            have hK9 := hK.sub (tys' := [(c0_balances, .int), (c0_code_ops, .int), (c0_code_arguments, .int), (c0_inbox_words, .int), (c0_trueState_cells, .int), (c0_scratch_cells, .int), (c0_scratch_tree, .long)]) [0, 1, 2, 3, 4, 5, 6] rfl
            refine W.widen (k := 2) (n := 12) (by decide) (by decide) ?_
            exact W.lret (v := f14) hx hb hr (fun t ht hW => ⟨Or.inl ⟨f14, (u13.1, u8.2, u13.2.1, u13.2.2.1, u13.2.2.2.1, u13.2.2.2.2.1, u13.2.2.2.2.2.1, u13.2.2.2.2.2.2.1, u13.2.2.2.2.2.2.2.1, u13.2.2.2.2.2.2.2.2.1, u13.2.2.2.2.2.2.2.2.2.1, (u13.2.2.2.2.2.2.2.2.2.2.1, u13.2.2.2.2.2.2.2.2.2.2.2.1, u13.2.2.2.2.2.2.2.2.2.2.2.2.1, u13.2.2.2.2.2.2.2.2.2.2.2.2.2.1, u13.2.2.2.2.2.2.2.2.2.2.2.2.2.2.1, u13.2.2.2.2.2.2.2.2.2.2.2.2.2.2.2.1, f14)), rfl, hw, by rw [ht]; exact hP9, va_K.moved hW.alike hK9, hD9⟩, hS.F ht⟩) hS.2.2 dSc_claim_91
        · have hw := hw.2 cc6
          have hP9 := hP.sub (ws' := [(h0, ce_Sc h0_balances h0_code h0_inbox h0_trueState h0_scratch h0_payments h0_proof h0_assertion h0_games u.1), (h0_balances, .inl (c0_balances, 4, .inl u.2.1)), (h0_code, ce_Co h0_code_ops h0_code_arguments), (h0_code_ops, .inl (c0_code_ops, 16, .inl u.2.2.1)), (h0_code_arguments, .inl (c0_code_arguments, 16, .inl u.2.2.2.1)), (h0_inbox, ce_In h0_inbox_words u.2.2.2.2.1), (h0_inbox_words, .inl (c0_inbox_words, 60, .inl u.2.2.2.2.2.1)), (h0_trueState, ce_Ma h0_trueState_cells h0_trueState_tree u.2.2.2.2.2.2.1), (h0_trueState_cells, .inl (c0_trueState_cells, 8, .inl u.2.2.2.2.2.2.2.1)), (h0_scratch, ce_Ma h0_scratch_cells h0_scratch_tree u.2.2.2.2.2.2.2.2.1), (h0_scratch_cells, .inl (c0_scratch_cells, 8, .inl u.2.2.2.2.2.2.2.2.2.1)), (h0_scratch_tree, .inl (c0_scratch_tree, 16, .inr (.inl u.2.2.2.2.2.2.2.2.2.2.1))), (h0_assertion, ce_As u.2.2.2.2.2.2.2.2.2.2.2)]) [0, 1, 2, 3, 4, 5, 6, 7, 8, 9, 10, 11, 12] rfl
          have hD9 := hD.sub (ws' := [(h0, ce_Sc h0_balances h0_code h0_inbox h0_trueState h0_scratch h0_payments h0_proof h0_assertion h0_games u.1), (h0_balances, .inl (c0_balances, 4, .inl u.2.1)), (h0_code, ce_Co h0_code_ops h0_code_arguments), (h0_code_ops, .inl (c0_code_ops, 16, .inl u.2.2.1)), (h0_code_arguments, .inl (c0_code_arguments, 16, .inl u.2.2.2.1)), (h0_inbox, ce_In h0_inbox_words u.2.2.2.2.1), (h0_inbox_words, .inl (c0_inbox_words, 60, .inl u.2.2.2.2.2.1)), (h0_trueState, ce_Ma h0_trueState_cells h0_trueState_tree u.2.2.2.2.2.2.1), (h0_trueState_cells, .inl (c0_trueState_cells, 8, .inl u.2.2.2.2.2.2.2.1)), (h0_scratch, ce_Ma h0_scratch_cells h0_scratch_tree u.2.2.2.2.2.2.2.2.1), (h0_scratch_cells, .inl (c0_scratch_cells, 8, .inl u.2.2.2.2.2.2.2.2.2.1)), (h0_scratch_tree, .inl (c0_scratch_tree, 16, .inr (.inl u.2.2.2.2.2.2.2.2.2.2.1))), (h0_assertion, ce_As u.2.2.2.2.2.2.2.2.2.2.2)]) [0, 1, 2, 3, 4, 5, 6, 7, 8, 9, 10, 11, 12] (by decide) rfl
          have hK9 := hK.sub (tys' := [(c0_balances, .int), (c0_code_ops, .int), (c0_code_arguments, .int), (c0_inbox_words, .int), (c0_trueState_cells, .int), (c0_scratch_cells, .int), (c0_scratch_tree, .long)]) [0, 1, 2, 3, 4, 5, 6] rfl
          obtain ⟨sa, hstr⟩ := hZ.2.2.1 _ (List.mem_of_getElem? (i := 5) rfl)
          exact tx_throw (own := "StepCourt") (cls := "java/lang/IllegalArgumentException") (names := ["java/lang/RuntimeException", "java/lang/Exception"]) (A := A) hx hb hl9 hown (by decide +kernel) (by decide +kernel) oa_91 hq wt_515 wt_15 hZ hstr hT9 hS (by rw [hml]; exact hl.1) dSc_claim_35 dSc_claim_38 dSc_claim_39 dSc_claim_41 dSc_claim_44 hTab hlocks (by decide) (by decide) (by decide) (by decide) (fun t ce q ha hz1 hk1 hce hcv hcl => ⟨Or.inr ⟨q, _, ce, (u.1, u.2.1, u.2.2.1, u.2.2.2.1, u.2.2.2.2.1, u.2.2.2.2.2.1, u.2.2.2.2.2.2.1, u.2.2.2.2.2.2.2.1, u.2.2.2.2.2.2.2.2.1, u.2.2.2.2.2.2.2.2.2.1, u.2.2.2.2.2.2.2.2.2.2.1, u.2.2.2.2.2.2.2.2.2.2.2), rfl, hw, ⟨hP9.kept (fun k q hk => hk1 q.1 (hP9 k q hk).lt), va_K.moved ha hK9, hD9⟩, hce, hcv, hcl⟩, Nat.le_trans hS.1 hz1, fun z h1 h2 => (hk1 z (Nat.lt_of_lt_of_le h1 hS.1)).trans (hS.2.1 z h1 h2)⟩) hS.2.2 (by decide) (by decide)
    · have hw := hw.2 cc4
      have hP9 := hP.sub (ws' := [(h0, ce_Sc h0_balances h0_code h0_inbox h0_trueState h0_scratch h0_payments h0_proof h0_assertion h0_games u.1), (h0_balances, .inl (c0_balances, 4, .inl u.2.1)), (h0_code, ce_Co h0_code_ops h0_code_arguments), (h0_code_ops, .inl (c0_code_ops, 16, .inl u.2.2.1)), (h0_code_arguments, .inl (c0_code_arguments, 16, .inl u.2.2.2.1)), (h0_inbox, ce_In h0_inbox_words u.2.2.2.2.1), (h0_inbox_words, .inl (c0_inbox_words, 60, .inl u.2.2.2.2.2.1)), (h0_trueState, ce_Ma h0_trueState_cells h0_trueState_tree u.2.2.2.2.2.2.1), (h0_trueState_cells, .inl (c0_trueState_cells, 8, .inl u.2.2.2.2.2.2.2.1)), (h0_scratch, ce_Ma h0_scratch_cells h0_scratch_tree u.2.2.2.2.2.2.2.2.1), (h0_scratch_cells, .inl (c0_scratch_cells, 8, .inl u.2.2.2.2.2.2.2.2.2.1)), (h0_scratch_tree, .inl (c0_scratch_tree, 16, .inr (.inl u.2.2.2.2.2.2.2.2.2.2.1))), (h0_assertion, ce_As u.2.2.2.2.2.2.2.2.2.2.2)]) [0, 1, 2, 3, 4, 5, 6, 7, 8, 9, 10, 11, 12] rfl
      have hD9 := hD.sub (ws' := [(h0, ce_Sc h0_balances h0_code h0_inbox h0_trueState h0_scratch h0_payments h0_proof h0_assertion h0_games u.1), (h0_balances, .inl (c0_balances, 4, .inl u.2.1)), (h0_code, ce_Co h0_code_ops h0_code_arguments), (h0_code_ops, .inl (c0_code_ops, 16, .inl u.2.2.1)), (h0_code_arguments, .inl (c0_code_arguments, 16, .inl u.2.2.2.1)), (h0_inbox, ce_In h0_inbox_words u.2.2.2.2.1), (h0_inbox_words, .inl (c0_inbox_words, 60, .inl u.2.2.2.2.2.1)), (h0_trueState, ce_Ma h0_trueState_cells h0_trueState_tree u.2.2.2.2.2.2.1), (h0_trueState_cells, .inl (c0_trueState_cells, 8, .inl u.2.2.2.2.2.2.2.1)), (h0_scratch, ce_Ma h0_scratch_cells h0_scratch_tree u.2.2.2.2.2.2.2.2.1), (h0_scratch_cells, .inl (c0_scratch_cells, 8, .inl u.2.2.2.2.2.2.2.2.2.1)), (h0_scratch_tree, .inl (c0_scratch_tree, 16, .inr (.inl u.2.2.2.2.2.2.2.2.2.2.1))), (h0_assertion, ce_As u.2.2.2.2.2.2.2.2.2.2.2)]) [0, 1, 2, 3, 4, 5, 6, 7, 8, 9, 10, 11, 12] (by decide) rfl
      have hK9 := hK.sub (tys' := [(c0_balances, .int), (c0_code_ops, .int), (c0_code_arguments, .int), (c0_inbox_words, .int), (c0_trueState_cells, .int), (c0_scratch_cells, .int), (c0_scratch_tree, .long)]) [0, 1, 2, 3, 4, 5, 6] rfl
      obtain ⟨sa, hstr⟩ := hZ.2.2.1 _ (List.mem_of_getElem? (i := 4) rfl)
      exact tx_throw (own := "StepCourt") (cls := "java/lang/IllegalStateException") (names := ["java/lang/RuntimeException", "java/lang/Exception"]) (A := A) hx hb hl9 hown (by decide +kernel) (by decide +kernel) oa_122 hq wt_571 wt_17 hZ hstr hT9 hS (by rw [hml]; exact hl.1) dSc_claim_14 dSc_claim_17 dSc_claim_18 dSc_claim_20 dSc_claim_23 hTab hlocks (by decide) (by decide) (by decide) (by decide) (fun t ce q ha hz1 hk1 hce hcv hcl => ⟨Or.inr ⟨q, _, ce, (u.1, u.2.1, u.2.2.1, u.2.2.2.1, u.2.2.2.2.1, u.2.2.2.2.2.1, u.2.2.2.2.2.2.1, u.2.2.2.2.2.2.2.1, u.2.2.2.2.2.2.2.2.1, u.2.2.2.2.2.2.2.2.2.1, u.2.2.2.2.2.2.2.2.2.2.1, u.2.2.2.2.2.2.2.2.2.2.2), rfl, hw, ⟨hP9.kept (fun k q hk => hk1 q.1 (hP9 k q hk).lt), va_K.moved ha hK9, hD9⟩, hce, hcv, hcl⟩, Nat.le_trans hS.1 hz1, fun z h1 h2 => (hk1 z (Nat.lt_of_lt_of_le h1 hS.1)).trans (hS.2.1 z h1 h2)⟩) hS.2.2 (by decide) (by decide)
abbrev ww_Sc_challenge (h0 h0_balances h0_assertion h0_games h0_games_0 h0_games_1 h0_games_2 h0_code h0_inbox h0_trueState h0_scratch h0_payments h0_proof : Nat) (c0_balances c0_games : ClassId) (u : ct_Sc × (Nat → Int32) × ct_As × ct_Ga × ct_Ga × ct_Ga) : va_W := [(h0, ce_Sc h0_balances h0_code h0_inbox h0_trueState h0_scratch h0_payments h0_proof h0_assertion h0_games u.1), (h0_balances, .inl (c0_balances, 4, .inl u.2.1)), (h0_assertion, ce_As u.2.2.1), (h0_games, .inl (c0_games, 3, .inr (.inr (.inr (.inr (va_up (va_up (va_up (fun _ => none) 0 (some h0_games_0)) 1 (some h0_games_1)) 2 (some h0_games_2))))))), (h0_games_0, ce_Ga u.2.2.2.1), (h0_games_1, ce_Ga u.2.2.2.2.1), (h0_games_2, ce_Ga u.2.2.2.2.2)]
def wp_Sc_challenge (post : Int32 → (ct_Sc × (Nat → Int32) × ct_As × ct_Ga × ct_Ga × ct_Ga) → Prop) (px : String → (ct_Sc × (Nat → Int32) × ct_As × ct_Ga × ct_Ga × ct_Ga) → Prop) (u : ct_Sc × (Nat → Int32) × ct_As × ct_Ga × ct_Ga × ct_Ga) (k1 : Int32) : Prop := wp_Sc_requireParty (fun _ u2 => (((u.2.2.1.1 = 0 → (px "java/lang/IllegalStateException" (u.1, u.2.1, u.2.2.1, u.2.2.2.1, u.2.2.2.2.1, u.2.2.2.2.2))) ∧ (¬ u.2.2.1.1 = 0 → (((k1 = u.2.2.1.2.2.1 → (px "java/lang/IllegalStateException" (u.1, u.2.1, u.2.2.1, u.2.2.2.1, u.2.2.2.2.1, u.2.2.2.2.2))) ∧ (¬ k1 = u.2.2.1.2.2.1 → (wp_Sc_hasChallenged (fun r6 u7 => (((r6 = 0 → (((u7.1.1 < 3 → (wp_Sc_takeStake (fun _ u11 => (vp_in u11.1.1 3 ∧ (((u11.1.1.toNatClampNeg = 0 → (wp_Ga_begin (fun u16 => (wp_Ga_setDeadline (fun u18 => (∀ f19 : Int32, f19 = (u11.1.1 + 1) → (post (f19 - 1) ((f19, u11.1.2.1, u11.1.2.2.1, u11.1.2.2.2), u11.2, u.2.2.1, u18, u7.2.2.1, u7.2.2.2)))) u16 u11.1.2.2.1 )) u7.2.1 k1 u.2.2.1.2.2.2.1 u11.1.2.2.2 u.2.2.1.2.2.2.2.2.2 )) ∧ (u11.1.1.toNatClampNeg = 1 → (wp_Ga_begin (fun u21 => (wp_Ga_setDeadline (fun u23 => (∀ f24 : Int32, f24 = (u11.1.1 + 1) → (post (f24 - 1) ((f24, u11.1.2.1, u11.1.2.2.1, u11.1.2.2.2), u11.2, u.2.2.1, u7.2.1, u23, u7.2.2.2)))) u21 u11.1.2.2.1 )) u7.2.2.1 k1 u.2.2.1.2.2.2.1 u11.1.2.2.2 u.2.2.1.2.2.2.2.2.2 )) ∧ (u11.1.1.toNatClampNeg = 2 → (wp_Ga_begin (fun u26 => (wp_Ga_setDeadline (fun u28 => (∀ f29 : Int32, f29 = (u11.1.1 + 1) → (post (f29 - 1) ((f29, u11.1.2.1, u11.1.2.2.1, u11.1.2.2.2), u11.2, u.2.2.1, u7.2.1, u7.2.2.1, u28)))) u26 u11.1.2.2.1 )) u7.2.2.2 k1 u.2.2.1.2.2.2.1 u11.1.2.2.2 u.2.2.1.2.2.2.2.2.2 )))))) (fun E9 u12 => (px E9 (u12.1, u12.2, u.2.2.1, u7.2.1, u7.2.2.1, u7.2.2.2))) (u7.1, u.2.1) k1 )) ∧ (¬ u7.1.1 < 3 → (px "java/lang/IllegalStateException" (u7.1, u.2.1, u.2.2.1, u7.2.1, u7.2.2.1, u7.2.2.2)))))) ∧ (¬ r6 = 0 → (px "java/lang/IllegalStateException" (u7.1, u.2.1, u.2.2.1, u7.2.1, u7.2.2.1, u7.2.2.2)))))) (u.1, u.2.2.2.1, u.2.2.2.2.1, u.2.2.2.2.2) k1 )))))))) (fun E9 u3 => (px E9 (u.1, u.2.1, u.2.2.1, u.2.2.2.1, u.2.2.2.2.1, u.2.2.2.2.2))) () k1 
set_option maxHeartbeats 4000000 in
set_option maxRecDepth 100000 in
theorem mt_Sc_challenge (l : Launch) (hl9 : l.stackTraces = false) (dC : Nat → ClassId) (dI : Nat → Nat → Nat) (h0 h0_balances h0_assertion h0_games h0_games_0 h0_games_1 h0_games_2 h0_code h0_inbox h0_trueState h0_scratch h0_payments h0_proof : Nat) (c0_balances c0_games : ClassId) (sz : Nat) (post : Int32 → (ct_Sc × (Nat → Int32) × ct_As × ct_Ga × ct_Ga × ct_Ga) → Prop) (px : String → (ct_Sc × (Nat → Int32) × ct_As × ct_Ga × ct_Ga × ct_Ga) → Prop) (u : ct_Sc × (Nat → Int32) × ct_As × ct_Ga × ct_Ga × ct_Ga) (k1 : Int32) (hw : wp_Sc_challenge post px u k1) : tx_Met l ySc_challenge wsSc_challenge ({ frames := 7, cells := 2, slots := 12, locals := 103 }) (kx_P dC dI [.ref h0, .int k1] sz (ww_Sc_challenge h0 h0_balances h0_assertion h0_games h0_games_0 h0_games_1 h0_games_2 h0_code h0_inbox h0_trueState h0_scratch h0_payments h0_proof c0_balances c0_games u) [(c0_balances, .int), (c0_games, (.object "StepCourt$Game"))]) (tx_Q tx_i post px (fun u9 => kp_B dC dI (va_A (ww_Sc_challenge h0 h0_balances h0_assertion h0_games h0_games_0 h0_games_1 h0_games_2 h0_code h0_inbox h0_trueState h0_scratch h0_payments h0_proof c0_balances c0_games u) sz) (ww_Sc_challenge h0 h0_balances h0_assertion h0_games h0_games_0 h0_games_1 h0_games_2 h0_code h0_inbox h0_trueState h0_scratch h0_payments h0_proof c0_balances c0_games u9) [(c0_balances, .int), (c0_games, (.object "StepCourt$Game"))]) (va_A (ww_Sc_challenge h0 h0_balances h0_assertion h0_games h0_games_0 h0_games_1 h0_games_2 h0_code h0_inbox h0_trueState h0_scratch h0_payments h0_proof c0_balances c0_games u) sz)) 2 12 (va_A (ww_Sc_challenge h0 h0_balances h0_assertion h0_games h0_games_0 h0_games_1 h0_games_2 h0_code h0_inbox h0_trueState h0_scratch h0_payments h0_proof c0_balances c0_games u) sz) := by
  refine tx_ofW (cc := cSc_challenge) (maxL := 3) (ret := (some .int)) (by decide) rfl ?_
  intro p e s m args below meth c s₁ B hml hTab hv
  obtain ⟨rfl, hsz, hP, hK, hD0, hZ, hT9⟩ := hv
  have hx := B.exec
  have hb := B.bytes
  have hr := B.returns
  have hq : ∀ w ∈ wz, w.before _ s = true := fun w h => atoms_spec (ws := wsSc_challenge) B.pre w (List.mem_cons_of_mem _ h)
  have hown : s.vm.findClass "StepCourt" = some m.cls := findClass_of_methodNamed B.named
  have hlocks := B.notSynchronized
  subst hsz
  have hD := hD0.self (sz := s.heap.size)
  generalize hAe : va_A (ww_Sc_challenge h0 h0_balances h0_assertion h0_games h0_games_0 h0_games_1 h0_games_2 h0_code h0_inbox h0_trueState h0_scratch h0_payments h0_proof c0_balances c0_games u) s.heap.size = A at hD hT9 ⊢
  have hA : ∀ q : Nat, s.heap.size ≤ q → A q := fun q h => by rw [← hAe]; exact Or.inr h
  have hS : va_S A s.heap s.heap [] := va_S.rf
  have hP : va_P (dC, dI) vwCl [(h0, ce_Sc h0_balances h0_code h0_inbox h0_trueState h0_scratch h0_payments h0_proof h0_assertion h0_games u.1), (h0_balances, .inl (c0_balances, 4, .inl u.2.1)), (h0_assertion, ce_As u.2.2.1), (h0_games, .inl (c0_games, 3, .inr (.inr (.inr (.inr (va_up (va_up (va_up (fun _ => none) 0 (some h0_games_0)) 1 (some h0_games_1)) 2 (some h0_games_2))))))), (h0_games_0, ce_Ga u.2.2.2.1), (h0_games_1, ce_Ga u.2.2.2.2.1), (h0_games_2, ce_Ga u.2.2.2.2.2)] s.heap := hP
  have hD : va_D A [(h0, ce_Sc h0_balances h0_code h0_inbox h0_trueState h0_scratch h0_payments h0_proof h0_assertion h0_games u.1), (h0_balances, .inl (c0_balances, 4, .inl u.2.1)), (h0_assertion, ce_As u.2.2.1), (h0_games, .inl (c0_games, 3, .inr (.inr (.inr (.inr (va_up (va_up (va_up (fun _ => none) 0 (some h0_games_0)) 1 (some h0_games_1)) 2 (some h0_games_2))))))), (h0_games_0, ce_Ga u.2.2.2.1), (h0_games_1, ce_Ga u.2.2.2.2.1), (h0_games_2, ce_Ga u.2.2.2.2.2)] := hD
  have hl := lv_entry ([.ref h0, .int k1]) (n := 3) (Nat.le_of_ble_eq_true rfl)
  rw [lg_entry_eq]
  generalize (lg_sl ([.ref h0, .int k1]) ++ List.replicate (3 - (lg_sl ([.ref h0, .int k1])).length) Slot.unset).toArray = ls at hl ⊢
  have hl : lv_has ls 3 [(0, .ref h0), (1, .int k1)] := hl
  skip
  refine lv_iload_n hx hb dSc_challenge_0 rfl (lv_at hl 1 rfl) ?_
  have hPc := hP.sub (ws' := []) [] rfl
  have hDc := hD.sub (ws' := []) [] (by decide) rfl
  have hKc := hK.sub (tys' := []) [] rfl
  have hFc := va_free (wc := []) hD hS hA [] rfl
  refine tx_call (tx_runS (As := [.int k1]) (rest := []) ⟨hx, hb, hml, hown, hq⟩ (mt_Sc_requireParty l hl9 dC dI s.heap.size _ _ () k1 hw) ⟨cq_B 1 hq wt_445 wt_443 wt_1 rfl rfl hd_Sc_requireParty ⟨Nat.le_of_ble_eq_true rfl, Nat.le_of_ble_eq_true rfl⟩, (hq _ wt_444)⟩ ⟨kx_bl, kx_at hPc hKc hDc hZ hFc hS hT9⟩ 8 (Nat.le_of_ble_eq_true rfl) rfl rfl hl.1 rfl (tx_rm (Nat.le_of_ble_eq_true rfl)) dSc_challenge_1 ⟨(by decide), (by decide)⟩) hS (fun q _ h => hFc q h) hFc ?_ ?_
  · intro E9 ce q9 u3 t H1 locs ht hvm hw hB hz1 hk1 hS hce hcv hcl
    obtain ⟨hP1, hK1, hD1⟩ := hB
    rw [ht] at hP1
    have hK1 := va_K.moved hvm.symm hK1
    obtain ⟨hP, hD⟩ := va_join (wr := [(h0, ce_Sc h0_balances h0_code h0_inbox h0_trueState h0_scratch h0_payments h0_proof h0_assertion h0_games u.1), (h0_balances, .inl (c0_balances, 4, .inl u.2.1)), (h0_assertion, ce_As u.2.2.1), (h0_games, .inl (c0_games, 3, .inr (.inr (.inr (.inr (va_up (va_up (va_up (fun _ => none) 0 (some h0_games_0)) 1 (some h0_games_1)) 2 (some h0_games_2))))))), (h0_games_0, ce_Ga u.2.2.2.1), (h0_games_1, ce_Ga u.2.2.2.2.1), (h0_games_2, ce_Ga u.2.2.2.2.2)]) (w1 := []) hP hD [] [0, 1, 2, 3, 4, 5, 6] rfl rfl (by decide) (by decide) hk1 hFc hP1 hD1
    have hK := (hK.sub (tys' := [(c0_balances, .int), (c0_games, (.object "StepCourt$Game"))]) [0, 1] rfl).app hK1
    generalize H1 = H at hP hS hce ⊢
    have hP : va_P (dC, dI) vwCl [(h0, ce_Sc h0_balances h0_code h0_inbox h0_trueState h0_scratch h0_payments h0_proof h0_assertion h0_games u.1), (h0_balances, .inl (c0_balances, 4, .inl u.2.1)), (h0_assertion, ce_As u.2.2.1), (h0_games, .inl (c0_games, 3, .inr (.inr (.inr (.inr (va_up (va_up (va_up (fun _ => none) 0 (some h0_games_0)) 1 (some h0_games_1)) 2 (some h0_games_2))))))), (h0_games_0, ce_Ga u.2.2.2.1), (h0_games_1, ce_Ga u.2.2.2.2.1), (h0_games_2, ce_Ga u.2.2.2.2.2)] H := hP
    have hD : va_D A [(h0, ce_Sc h0_balances h0_code h0_inbox h0_trueState h0_scratch h0_payments h0_proof h0_assertion h0_games u.1), (h0_balances, .inl (c0_balances, 4, .inl u.2.1)), (h0_assertion, ce_As u.2.2.1), (h0_games, .inl (c0_games, 3, .inr (.inr (.inr (.inr (va_up (va_up (va_up (fun _ => none) 0 (some h0_games_0)) 1 (some h0_games_1)) 2 (some h0_games_2))))))), (h0_games_0, ce_Ga u.2.2.2.1), (h0_games_1, ce_Ga u.2.2.2.2.1), (h0_games_2, ce_Ga u.2.2.2.2.2)] := hD
    have hK : va_K (dC, dI) vwCl [(c0_balances, .int), (c0_games, (.object "StepCourt$Game"))] s := hK
    refine tx_widen (k := 1) (n := 6) (by decide) (by decide) ?_
    have hP9 := hP.sub (ws' := [(h0, ce_Sc h0_balances h0_code h0_inbox h0_trueState h0_scratch h0_payments h0_proof h0_assertion h0_games u.1), (h0_balances, .inl (c0_balances, 4, .inl u.2.1)), (h0_assertion, ce_As u.2.2.1), (h0_games, .inl (c0_games, 3, .inr (.inr (.inr (.inr (va_up (va_up (va_up (fun _ => none) 0 (some h0_games_0)) 1 (some h0_games_1)) 2 (some h0_games_2))))))), (h0_games_0, ce_Ga u.2.2.2.1), (h0_games_1, ce_Ga u.2.2.2.2.1), (h0_games_2, ce_Ga u.2.2.2.2.2)]) [0, 1, 2, 3, 4, 5, 6] rfl
    have hD9 := hD.sub (ws' := [(h0, ce_Sc h0_balances h0_code h0_inbox h0_trueState h0_scratch h0_payments h0_proof h0_assertion h0_games u.1), (h0_balances, .inl (c0_balances, 4, .inl u.2.1)), (h0_assertion, ce_As u.2.2.1), (h0_games, .inl (c0_games, 3, .inr (.inr (.inr (.inr (va_up (va_up (va_up (fun _ => none) 0 (some h0_games_0)) 1 (some h0_games_1)) 2 (some h0_games_2))))))), (h0_games_0, ce_Ga u.2.2.2.1), (h0_games_1, ce_Ga u.2.2.2.2.1), (h0_games_2, ce_Ga u.2.2.2.2.2)]) [0, 1, 2, 3, 4, 5, 6] (by decide) rfl
    have hK9 := hK.sub (tys' := [(c0_balances, .int), (c0_games, (.object "StepCourt$Game"))]) [0, 1] rfl
    exact tx_out (fun x hx => (hTab x hx).elim) hlocks (fun t ht ha => ⟨Or.inr ⟨q9, E9, ce, (u.1, u.2.1, u.2.2.1, u.2.2.2.1, u.2.2.2.2.1, u.2.2.2.2.2), rfl, hw, ⟨by rw [ht]; exact hP9, va_K.moved ha hK9, hD9⟩, by rw [ht]; exact hce, hcv, hcl⟩, hS.F ht⟩) hS.2.2 (by decide) (by decide)
  · intro _ u2 t H1 locs ht hvm hw hB hz1 hk1 hS
    obtain ⟨hP1, hK1, hD1⟩ := hB
    rw [ht] at hP1
    have hK1 := va_K.moved hvm.symm hK1
    obtain ⟨hP, hD⟩ := va_join (wr := [(h0, ce_Sc h0_balances h0_code h0_inbox h0_trueState h0_scratch h0_payments h0_proof h0_assertion h0_games u.1), (h0_balances, .inl (c0_balances, 4, .inl u.2.1)), (h0_assertion, ce_As u.2.2.1), (h0_games, .inl (c0_games, 3, .inr (.inr (.inr (.inr (va_up (va_up (va_up (fun _ => none) 0 (some h0_games_0)) 1 (some h0_games_1)) 2 (some h0_games_2))))))), (h0_games_0, ce_Ga u.2.2.2.1), (h0_games_1, ce_Ga u.2.2.2.2.1), (h0_games_2, ce_Ga u.2.2.2.2.2)]) (w1 := []) hP hD [] [0, 1, 2, 3, 4, 5, 6] rfl rfl (by decide) (by decide) hk1 hFc hP1 hD1
    have hK := (hK.sub (tys' := [(c0_balances, .int), (c0_games, (.object "StepCourt$Game"))]) [0, 1] rfl).app hK1
    generalize H1 = H at hP hS ⊢
    have hP : va_P (dC, dI) vwCl [(h0, ce_Sc h0_balances h0_code h0_inbox h0_trueState h0_scratch h0_payments h0_proof h0_assertion h0_games u.1), (h0_balances, .inl (c0_balances, 4, .inl u.2.1)), (h0_assertion, ce_As u.2.2.1), (h0_games, .inl (c0_games, 3, .inr (.inr (.inr (.inr (va_up (va_up (va_up (fun _ => none) 0 (some h0_games_0)) 1 (some h0_games_1)) 2 (some h0_games_2))))))), (h0_games_0, ce_Ga u.2.2.2.1), (h0_games_1, ce_Ga u.2.2.2.2.1), (h0_games_2, ce_Ga u.2.2.2.2.2)] H := hP
    have hD : va_D A [(h0, ce_Sc h0_balances h0_code h0_inbox h0_trueState h0_scratch h0_payments h0_proof h0_assertion h0_games u.1), (h0_balances, .inl (c0_balances, 4, .inl u.2.1)), (h0_assertion, ce_As u.2.2.1), (h0_games, .inl (c0_games, 3, .inr (.inr (.inr (.inr (va_up (va_up (va_up (fun _ => none) 0 (some h0_games_0)) 1 (some h0_games_1)) 2 (some h0_games_2))))))), (h0_games_0, ce_Ga u.2.2.2.1), (h0_games_1, ce_Ga u.2.2.2.2.1), (h0_games_2, ce_Ga u.2.2.2.2.2)] := hD
    have hK : va_K (dC, dI) vwCl [(c0_balances, .int), (c0_games, (.object "StepCourt$Game"))] s := hK
    refine W.widen (k := 1) (n := 6) (by decide) (by decide) ?_
    refine W.eq (g2 := F0 m 4 ls []) rfl ?_
    refine lv_aload_n hx hb dSc_challenge_4 rfl (lv_at hl 0 rfl) ?_
    refine va_get (D := (dC, dI)) (ci := 7) (v := .ref h0_assertion) (C := "StepCourt") (T := TSc) (N := 13) hx hb hq inSc hown hK hP 0 rfl rfl 7 (by decide) (hq _ wt_261) (fun _ h9 => h9) rfl dSc_challenge_5 ?_
    refine va_getN (D := (dC, dI)) (ci := 0) (v := .int u.2.2.1.1) (C := "StepCourt$Assertion") (T := TAs) (N := 7) hx hb hq inAs hown hK hP 2 rfl rfl 0 (by decide) (va_Nw.use rfl (hZ.1 _ zt_158)) (fun _ h9 => h9) rfl dSc_challenge_8 ?_
    refine lv_if_eq (tgt := 41) hx hb dSc_challenge_11 (by decide) (fun cc4 => ?_) (fun cc4 => ?_)
    · have hw := hw.1 cc4
      have hP9 := hP.sub (ws' := [(h0, ce_Sc h0_balances h0_code h0_inbox h0_trueState h0_scratch h0_payments h0_proof h0_assertion h0_games u.1), (h0_balances, .inl (c0_balances, 4, .inl u.2.1)), (h0_assertion, ce_As u.2.2.1), (h0_games, .inl (c0_games, 3, .inr (.inr (.inr (.inr (va_up (va_up (va_up (fun _ => none) 0 (some h0_games_0)) 1 (some h0_games_1)) 2 (some h0_games_2))))))), (h0_games_0, ce_Ga u.2.2.2.1), (h0_games_1, ce_Ga u.2.2.2.2.1), (h0_games_2, ce_Ga u.2.2.2.2.2)]) [0, 1, 2, 3, 4, 5, 6] rfl
      have hD9 := hD.sub (ws' := [(h0, ce_Sc h0_balances h0_code h0_inbox h0_trueState h0_scratch h0_payments h0_proof h0_assertion h0_games u.1), (h0_balances, .inl (c0_balances, 4, .inl u.2.1)), (h0_assertion, ce_As u.2.2.1), (h0_games, .inl (c0_games, 3, .inr (.inr (.inr (.inr (va_up (va_up (va_up (fun _ => none) 0 (some h0_games_0)) 1 (some h0_games_1)) 2 (some h0_games_2))))))), (h0_games_0, ce_Ga u.2.2.2.1), (h0_games_1, ce_Ga u.2.2.2.2.1), (h0_games_2, ce_Ga u.2.2.2.2.2)]) [0, 1, 2, 3, 4, 5, 6] (by decide) rfl
      have hK9 := hK.sub (tys' := [(c0_balances, .int), (c0_games, (.object "StepCourt$Game"))]) [0, 1] rfl
      obtain ⟨sa, hstr⟩ := hZ.2.2.1 _ (List.mem_of_getElem? (i := 7) rfl)
      exact tx_throw (own := "StepCourt") (cls := "java/lang/IllegalStateException") (names := ["java/lang/RuntimeException", "java/lang/Exception"]) (A := A) hx hb hl9 hown (by decide +kernel) (by decide +kernel) oa_122 hq wt_571 wt_17 hZ hstr hT9 hS (by rw [hml]; exact hl.1) dSc_challenge_41 dSc_challenge_44 dSc_challenge_45 dSc_challenge_47 dSc_challenge_50 hTab hlocks (by decide) (by decide) (by decide) (by decide) (fun t ce q ha hz1 hk1 hce hcv hcl => ⟨Or.inr ⟨q, _, ce, (u.1, u.2.1, u.2.2.1, u.2.2.2.1, u.2.2.2.2.1, u.2.2.2.2.2), rfl, hw, ⟨hP9.kept (fun k q hk => hk1 q.1 (hP9 k q hk).lt), va_K.moved ha hK9, hD9⟩, hce, hcv, hcl⟩, Nat.le_trans hS.1 hz1, fun z h1 h2 => (hk1 z (Nat.lt_of_lt_of_le h1 hS.1)).trans (hS.2.1 z h1 h2)⟩) hS.2.2 (by decide) (by decide)
    · have hw := hw.2 cc4
      refine lv_iload_n hx hb dSc_challenge_14 rfl (lv_at hl 1 rfl) ?_
      refine lv_aload_n hx hb dSc_challenge_15 rfl (lv_at hl 0 rfl) ?_
      refine va_get (D := (dC, dI)) (ci := 7) (v := .ref h0_assertion) (C := "StepCourt") (T := TSc) (N := 13) hx hb hq inSc hown hK hP 0 rfl rfl 7 (by decide) (hq _ wt_261) (fun _ h9 => h9) rfl dSc_challenge_16 ?_
      refine va_getN (D := (dC, dI)) (ci := 0) (v := .int u.2.2.1.2.2.1) (C := "StepCourt$Assertion") (T := TAs) (N := 7) hx hb hq inAs hown hK hP 2 rfl rfl 2 (by decide) (va_Nw.use rfl (hZ.1 _ zt_162)) (fun _ h9 => h9) rfl dSc_challenge_19 ?_
      refine lv_icmp_eq (tgt := 41) hx hb dSc_challenge_22 (by decide) (fun cc5 => ?_) (fun cc5 => ?_)
      · have hw := hw.1 cc5
        have hP9 := hP.sub (ws' := [(h0, ce_Sc h0_balances h0_code h0_inbox h0_trueState h0_scratch h0_payments h0_proof h0_assertion h0_games u.1), (h0_balances, .inl (c0_balances, 4, .inl u.2.1)), (h0_assertion, ce_As u.2.2.1), (h0_games, .inl (c0_games, 3, .inr (.inr (.inr (.inr (va_up (va_up (va_up (fun _ => none) 0 (some h0_games_0)) 1 (some h0_games_1)) 2 (some h0_games_2))))))), (h0_games_0, ce_Ga u.2.2.2.1), (h0_games_1, ce_Ga u.2.2.2.2.1), (h0_games_2, ce_Ga u.2.2.2.2.2)]) [0, 1, 2, 3, 4, 5, 6] rfl
        have hD9 := hD.sub (ws' := [(h0, ce_Sc h0_balances h0_code h0_inbox h0_trueState h0_scratch h0_payments h0_proof h0_assertion h0_games u.1), (h0_balances, .inl (c0_balances, 4, .inl u.2.1)), (h0_assertion, ce_As u.2.2.1), (h0_games, .inl (c0_games, 3, .inr (.inr (.inr (.inr (va_up (va_up (va_up (fun _ => none) 0 (some h0_games_0)) 1 (some h0_games_1)) 2 (some h0_games_2))))))), (h0_games_0, ce_Ga u.2.2.2.1), (h0_games_1, ce_Ga u.2.2.2.2.1), (h0_games_2, ce_Ga u.2.2.2.2.2)]) [0, 1, 2, 3, 4, 5, 6] (by decide) rfl
        have hK9 := hK.sub (tys' := [(c0_balances, .int), (c0_games, (.object "StepCourt$Game"))]) [0, 1] rfl
        obtain ⟨sa, hstr⟩ := hZ.2.2.1 _ (List.mem_of_getElem? (i := 7) rfl)
        exact tx_throw (own := "StepCourt") (cls := "java/lang/IllegalStateException") (names := ["java/lang/RuntimeException", "java/lang/Exception"]) (A := A) hx hb hl9 hown (by decide +kernel) (by decide +kernel) oa_122 hq wt_571 wt_17 hZ hstr hT9 hS (by rw [hml]; exact hl.1) dSc_challenge_41 dSc_challenge_44 dSc_challenge_45 dSc_challenge_47 dSc_challenge_50 hTab hlocks (by decide) (by decide) (by decide) (by decide) (fun t ce q ha hz1 hk1 hce hcv hcl => ⟨Or.inr ⟨q, _, ce, (u.1, u.2.1, u.2.2.1, u.2.2.2.1, u.2.2.2.2.1, u.2.2.2.2.2), rfl, hw, ⟨hP9.kept (fun k q hk => hk1 q.1 (hP9 k q hk).lt), va_K.moved ha hK9, hD9⟩, hce, hcv, hcl⟩, Nat.le_trans hS.1 hz1, fun z h1 h2 => (hk1 z (Nat.lt_of_lt_of_le h1 hS.1)).trans (hS.2.1 z h1 h2)⟩) hS.2.2 (by decide) (by decide)
      · have hw := hw.2 cc5
        refine lv_aload_n hx hb dSc_challenge_25 rfl (lv_at hl 0 rfl) ?_
        refine lv_iload_n hx hb dSc_challenge_26 rfl (lv_at hl 1 rfl) ?_
        have hPc := hP.sub (ws' := [(h0, ce_Sc h0_balances h0_code h0_inbox h0_trueState h0_scratch h0_payments h0_proof h0_assertion h0_games u.1), (h0_games, .inl (c0_games, 3, .inr (.inr (.inr (.inr (va_up (va_up (va_up (fun _ => none) 0 (some h0_games_0)) 1 (some h0_games_1)) 2 (some h0_games_2))))))), (h0_games_0, ce_Ga u.2.2.2.1), (h0_games_1, ce_Ga u.2.2.2.2.1), (h0_games_2, ce_Ga u.2.2.2.2.2)]) [0, 3, 4, 5, 6] rfl
        have hDc := hD.sub (ws' := [(h0, ce_Sc h0_balances h0_code h0_inbox h0_trueState h0_scratch h0_payments h0_proof h0_assertion h0_games u.1), (h0_games, .inl (c0_games, 3, .inr (.inr (.inr (.inr (va_up (va_up (va_up (fun _ => none) 0 (some h0_games_0)) 1 (some h0_games_1)) 2 (some h0_games_2))))))), (h0_games_0, ce_Ga u.2.2.2.1), (h0_games_1, ce_Ga u.2.2.2.2.1), (h0_games_2, ce_Ga u.2.2.2.2.2)]) [0, 3, 4, 5, 6] (by decide) rfl
        have hKc := hK.sub (tys' := [(c0_games, (.object "StepCourt$Game"))]) [1] rfl
        have hFc := va_free (wc := [(h0, ce_Sc h0_balances h0_code h0_inbox h0_trueState h0_scratch h0_payments h0_proof h0_assertion h0_games u.1), (h0_games, .inl (c0_games, 3, .inr (.inr (.inr (.inr (va_up (va_up (va_up (fun _ => none) 0 (some h0_games_0)) 1 (some h0_games_1)) 2 (some h0_games_2))))))), (h0_games_0, ce_Ga u.2.2.2.1), (h0_games_1, ce_Ga u.2.2.2.2.1), (h0_games_2, ce_Ga u.2.2.2.2.2)]) hD hS hA [0, 3, 4, 5, 6] rfl
        refine va_calli (va_runV (As := [.int k1]) (rest := []) ⟨hx, hb, hml, hown, hq⟩ (mt_Sc_hasChallenged l dC dI h0 h0_games h0_games_0 h0_games_1 h0_games_2 h0_balances h0_code h0_inbox h0_trueState h0_scratch h0_payments h0_proof h0_assertion c0_games H.size _ (u.1, u.2.2.2.1, u.2.2.2.2.1, u.2.2.2.2.2) k1 hw) ⟨cq_B 1 hq wt_607 wt_604 wt_1 rfl rfl hd_Sc_hasChallenged ⟨Nat.le_of_ble_eq_true rfl, Nat.le_of_ble_eq_true rfl⟩, (hq _ wt_606), (hq _ wv_16)⟩ ⟨kp_bl, va_recv hKc hPc (ci := 7) (q0 := 0) rfl rfl, kp_at hPc hKc hDc hZ⟩ rfl rfl hl.1 rfl (lv_room (Nat.le_of_ble_eq_true rfl)) dSc_challenge_27 ⟨(by decide), (by decide)⟩) hS (fun q _ h => hFc q h) hFc (fun r6 u7 t H1 locs ht hvm hw hB hz1 hk1 hS => ?_)
        obtain ⟨hP1, hK1, hD1⟩ := hB
        rw [ht] at hP1
        have hK1 := va_K.moved hvm.symm hK1
        obtain ⟨hP, hD⟩ := va_join (wr := [(h0_balances, .inl (c0_balances, 4, .inl u.2.1)), (h0_assertion, ce_As u.2.2.1)]) (w1 := [(h0, ce_Sc h0_balances h0_code h0_inbox h0_trueState h0_scratch h0_payments h0_proof h0_assertion h0_games u7.1), (h0_games, .inl (c0_games, 3, .inr (.inr (.inr (.inr (va_up (va_up (va_up (fun _ => none) 0 (some h0_games_0)) 1 (some h0_games_1)) 2 (some h0_games_2))))))), (h0_games_0, ce_Ga u7.2.1), (h0_games_1, ce_Ga u7.2.2.1), (h0_games_2, ce_Ga u7.2.2.2)]) hP hD [0, 3, 4, 5, 6] [1, 2] rfl rfl (by decide) (by decide) hk1 hFc hP1 hD1
        have hK := (hK.sub (tys' := [(c0_balances, .int)]) [0] rfl).app hK1
        generalize H1 = H at hP hS ⊢
        have hP : va_P (dC, dI) vwCl [(h0_balances, .inl (c0_balances, 4, .inl u.2.1)), (h0_assertion, ce_As u.2.2.1), (h0, ce_Sc h0_balances h0_code h0_inbox h0_trueState h0_scratch h0_payments h0_proof h0_assertion h0_games u7.1), (h0_games, .inl (c0_games, 3, .inr (.inr (.inr (.inr (va_up (va_up (va_up (fun _ => none) 0 (some h0_games_0)) 1 (some h0_games_1)) 2 (some h0_games_2))))))), (h0_games_0, ce_Ga u7.2.1), (h0_games_1, ce_Ga u7.2.2.1), (h0_games_2, ce_Ga u7.2.2.2)] H := hP
        have hD : va_D A [(h0_balances, .inl (c0_balances, 4, .inl u.2.1)), (h0_assertion, ce_As u.2.2.1), (h0, ce_Sc h0_balances h0_code h0_inbox h0_trueState h0_scratch h0_payments h0_proof h0_assertion h0_games u7.1), (h0_games, .inl (c0_games, 3, .inr (.inr (.inr (.inr (va_up (va_up (va_up (fun _ => none) 0 (some h0_games_0)) 1 (some h0_games_1)) 2 (some h0_games_2))))))), (h0_games_0, ce_Ga u7.2.1), (h0_games_1, ce_Ga u7.2.2.1), (h0_games_2, ce_Ga u7.2.2.2)] := hD
        have hK : va_K (dC, dI) vwCl [(c0_balances, .int), (c0_games, (.object "StepCourt$Game"))] s := hK
        refine lv_if_ne (tgt := 41) hx hb dSc_challenge_30 (by decide) (fun cc8 => ?_) (fun cc8 => ?_)
        · have hw := hw.2 cc8
          have hP9 := hP.sub (ws' := [(h0, ce_Sc h0_balances h0_code h0_inbox h0_trueState h0_scratch h0_payments h0_proof h0_assertion h0_games u7.1), (h0_balances, .inl (c0_balances, 4, .inl u.2.1)), (h0_assertion, ce_As u.2.2.1), (h0_games, .inl (c0_games, 3, .inr (.inr (.inr (.inr (va_up (va_up (va_up (fun _ => none) 0 (some h0_games_0)) 1 (some h0_games_1)) 2 (some h0_games_2))))))), (h0_games_0, ce_Ga u7.2.1), (h0_games_1, ce_Ga u7.2.2.1), (h0_games_2, ce_Ga u7.2.2.2)]) [2, 0, 1, 3, 4, 5, 6] rfl
          have hD9 := hD.sub (ws' := [(h0, ce_Sc h0_balances h0_code h0_inbox h0_trueState h0_scratch h0_payments h0_proof h0_assertion h0_games u7.1), (h0_balances, .inl (c0_balances, 4, .inl u.2.1)), (h0_assertion, ce_As u.2.2.1), (h0_games, .inl (c0_games, 3, .inr (.inr (.inr (.inr (va_up (va_up (va_up (fun _ => none) 0 (some h0_games_0)) 1 (some h0_games_1)) 2 (some h0_games_2))))))), (h0_games_0, ce_Ga u7.2.1), (h0_games_1, ce_Ga u7.2.2.1), (h0_games_2, ce_Ga u7.2.2.2)]) [2, 0, 1, 3, 4, 5, 6] (by decide) rfl
          have hK9 := hK.sub (tys' := [(c0_balances, .int), (c0_games, (.object "StepCourt$Game"))]) [0, 1] rfl
          obtain ⟨sa, hstr⟩ := hZ.2.2.1 _ (List.mem_of_getElem? (i := 7) rfl)
          exact tx_throw (own := "StepCourt") (cls := "java/lang/IllegalStateException") (names := ["java/lang/RuntimeException", "java/lang/Exception"]) (A := A) hx hb hl9 hown (by decide +kernel) (by decide +kernel) oa_122 hq wt_571 wt_17 hZ hstr hT9 hS (by rw [hml]; exact hl.1) dSc_challenge_41 dSc_challenge_44 dSc_challenge_45 dSc_challenge_47 dSc_challenge_50 hTab hlocks (by decide) (by decide) (by decide) (by decide) (fun t ce q ha hz1 hk1 hce hcv hcl => ⟨Or.inr ⟨q, _, ce, (u7.1, u.2.1, u.2.2.1, u7.2.1, u7.2.2.1, u7.2.2.2), rfl, hw, ⟨hP9.kept (fun k q hk => hk1 q.1 (hP9 k q hk).lt), va_K.moved ha hK9, hD9⟩, hce, hcv, hcl⟩, Nat.le_trans hS.1 hz1, fun z h1 h2 => (hk1 z (Nat.lt_of_lt_of_le h1 hS.1)).trans (hS.2.1 z h1 h2)⟩) hS.2.2 (by decide) (by decide)
        · have hw := hw.1 cc8
          refine lv_aload_n hx hb dSc_challenge_33 rfl (lv_at hl 0 rfl) ?_
          refine va_get (D := (dC, dI)) (ci := 7) (v := .int u7.1.1) (C := "StepCourt") (T := TSc) (N := 13) hx hb hq inSc hown hK hP 2 rfl rfl 9 (by decide) (hq _ wt_263) (fun _ h9 => h9) rfl dSc_challenge_34 ?_
          refine lv_iconst (v := 3) hx hb dSc_challenge_37 (by decide) ?_
          refine lv_icmp_lt (tgt := 51) hx hb dSc_challenge_38 (by decide) (fun cc9 => ?_) (fun cc9 => ?_)
          · have hw := hw.1 cc9
            refine lv_aload_n hx hb dSc_challenge_51 rfl (lv_at hl 0 rfl) ?_
            refine lv_iload_n hx hb dSc_challenge_52 rfl (lv_at hl 1 rfl) ?_
            have hPc := hP.sub (ws' := [(h0, ce_Sc h0_balances h0_code h0_inbox h0_trueState h0_scratch h0_payments h0_proof h0_assertion h0_games u7.1), (h0_balances, .inl (c0_balances, 4, .inl u.2.1))]) [2, 0] rfl
            have hDc := hD.sub (ws' := [(h0, ce_Sc h0_balances h0_code h0_inbox h0_trueState h0_scratch h0_payments h0_proof h0_assertion h0_games u7.1), (h0_balances, .inl (c0_balances, 4, .inl u.2.1))]) [2, 0] (by decide) rfl
            have hKc := hK.sub (tys' := [(c0_balances, .int)]) [0] rfl
            have hFc := va_free (wc := [(h0, ce_Sc h0_balances h0_code h0_inbox h0_trueState h0_scratch h0_payments h0_proof h0_assertion h0_games u7.1), (h0_balances, .inl (c0_balances, 4, .inl u.2.1))]) hD hS hA [2, 0] rfl
            refine tx_call (tx_runV (As := [.int k1]) (rest := []) ⟨hx, hb, hml, hown, hq⟩ (mt_Sc_takeStake l hl9 dC dI h0 h0_balances h0_code h0_inbox h0_trueState h0_scratch h0_payments h0_proof h0_assertion h0_games c0_balances H.size _ _ (u7.1, u.2.1) k1 hw) ⟨cq_B 1 hq wt_591 wt_588 wt_1 rfl rfl hd_Sc_takeStake ⟨Nat.le_of_ble_eq_true rfl, Nat.le_of_ble_eq_true rfl⟩, (hq _ wt_590), (hq _ wv_15)⟩ ⟨kx_bl, va_recv hKc hPc (ci := 7) (q0 := 0) rfl rfl, kx_at hPc hKc hDc hZ hFc hS hT9⟩ 8 (Nat.le_of_ble_eq_true rfl) rfl rfl hl.1 rfl (tx_rm (Nat.le_of_ble_eq_true rfl)) dSc_challenge_53 ⟨(by decide), (by decide)⟩) hS (fun q _ h => hFc q h) hFc ?_ ?_
            · intro E9 ce q9 u12 t H1 locs ht hvm hw hB hz1 hk1 hS hce hcv hcl
              obtain ⟨hP1, hK1, hD1⟩ := hB
              rw [ht] at hP1
              have hK1 := va_K.moved hvm.symm hK1
              obtain ⟨hP, hD⟩ := va_join (wr := [(h0_assertion, ce_As u.2.2.1), (h0_games, .inl (c0_games, 3, .inr (.inr (.inr (.inr (va_up (va_up (va_up (fun _ => none) 0 (some h0_games_0)) 1 (some h0_games_1)) 2 (some h0_games_2))))))), (h0_games_0, ce_Ga u7.2.1), (h0_games_1, ce_Ga u7.2.2.1), (h0_games_2, ce_Ga u7.2.2.2)]) (w1 := [(h0, ce_Sc h0_balances h0_code h0_inbox h0_trueState h0_scratch h0_payments h0_proof h0_assertion h0_games u12.1), (h0_balances, .inl (c0_balances, 4, .inl u12.2))]) hP hD [2, 0] [1, 3, 4, 5, 6] rfl rfl (by decide) (by decide) hk1 hFc hP1 hD1
              have hK := (hK.sub (tys' := [(c0_games, (.object "StepCourt$Game"))]) [1] rfl).app hK1
              generalize H1 = H at hP hS hce ⊢
              have hP : va_P (dC, dI) vwCl [(h0_assertion, ce_As u.2.2.1), (h0_games, .inl (c0_games, 3, .inr (.inr (.inr (.inr (va_up (va_up (va_up (fun _ => none) 0 (some h0_games_0)) 1 (some h0_games_1)) 2 (some h0_games_2))))))), (h0_games_0, ce_Ga u7.2.1), (h0_games_1, ce_Ga u7.2.2.1), (h0_games_2, ce_Ga u7.2.2.2), (h0, ce_Sc h0_balances h0_code h0_inbox h0_trueState h0_scratch h0_payments h0_proof h0_assertion h0_games u12.1), (h0_balances, .inl (c0_balances, 4, .inl u12.2))] H := hP
              have hD : va_D A [(h0_assertion, ce_As u.2.2.1), (h0_games, .inl (c0_games, 3, .inr (.inr (.inr (.inr (va_up (va_up (va_up (fun _ => none) 0 (some h0_games_0)) 1 (some h0_games_1)) 2 (some h0_games_2))))))), (h0_games_0, ce_Ga u7.2.1), (h0_games_1, ce_Ga u7.2.2.1), (h0_games_2, ce_Ga u7.2.2.2), (h0, ce_Sc h0_balances h0_code h0_inbox h0_trueState h0_scratch h0_payments h0_proof h0_assertion h0_games u12.1), (h0_balances, .inl (c0_balances, 4, .inl u12.2))] := hD
              have hK : va_K (dC, dI) vwCl [(c0_games, (.object "StepCourt$Game")), (c0_balances, .int)] s := hK
              refine tx_widen (k := 2) (n := 12) (by decide) (by decide) ?_
              have hP9 := hP.sub (ws' := [(h0, ce_Sc h0_balances h0_code h0_inbox h0_trueState h0_scratch h0_payments h0_proof h0_assertion h0_games u12.1), (h0_balances, .inl (c0_balances, 4, .inl u12.2)), (h0_assertion, ce_As u.2.2.1), (h0_games, .inl (c0_games, 3, .inr (.inr (.inr (.inr (va_up (va_up (va_up (fun _ => none) 0 (some h0_games_0)) 1 (some h0_games_1)) 2 (some h0_games_2))))))), (h0_games_0, ce_Ga u7.2.1), (h0_games_1, ce_Ga u7.2.2.1), (h0_games_2, ce_Ga u7.2.2.2)]) [5, 6, 0, 1, 2, 3, 4] rfl
              have hD9 := hD.sub (ws' := [(h0, ce_Sc h0_balances h0_code h0_inbox h0_trueState h0_scratch h0_payments h0_proof h0_assertion h0_games u12.1), (h0_balances, .inl (c0_balances, 4, .inl u12.2)), (h0_assertion, ce_As u.2.2.1), (h0_games, .inl (c0_games, 3, .inr (.inr (.inr (.inr (va_up (va_up (va_up (fun _ => none) 0 (some h0_games_0)) 1 (some h0_games_1)) 2 (some h0_games_2))))))), (h0_games_0, ce_Ga u7.2.1), (h0_games_1, ce_Ga u7.2.2.1), (h0_games_2, ce_Ga u7.2.2.2)]) [5, 6, 0, 1, 2, 3, 4] (by decide) rfl
              have hK9 := hK.sub (tys' := [(c0_balances, .int), (c0_games, (.object "StepCourt$Game"))]) [1, 0] rfl
              exact tx_out (fun x hx => (hTab x hx).elim) hlocks (fun t ht ha => ⟨Or.inr ⟨q9, E9, ce, (u12.1, u12.2, u.2.2.1, u7.2.1, u7.2.2.1, u7.2.2.2), rfl, hw, ⟨by rw [ht]; exact hP9, va_K.moved ha hK9, hD9⟩, by rw [ht]; exact hce, hcv, hcl⟩, hS.F ht⟩) hS.2.2 (by decide) (by decide)
            · intro _ u11 t H1 locs ht hvm hw hB hz1 hk1 hS
              obtain ⟨hP1, hK1, hD1⟩ := hB
              rw [ht] at hP1
              have hK1 := va_K.moved hvm.symm hK1
              obtain ⟨hP, hD⟩ := va_join (wr := [(h0_assertion, ce_As u.2.2.1), (h0_games, .inl (c0_games, 3, .inr (.inr (.inr (.inr (va_up (va_up (va_up (fun _ => none) 0 (some h0_games_0)) 1 (some h0_games_1)) 2 (some h0_games_2))))))), (h0_games_0, ce_Ga u7.2.1), (h0_games_1, ce_Ga u7.2.2.1), (h0_games_2, ce_Ga u7.2.2.2)]) (w1 := [(h0, ce_Sc h0_balances h0_code h0_inbox h0_trueState h0_scratch h0_payments h0_proof h0_assertion h0_games u11.1), (h0_balances, .inl (c0_balances, 4, .inl u11.2))]) hP hD [2, 0] [1, 3, 4, 5, 6] rfl rfl (by decide) (by decide) hk1 hFc hP1 hD1
              have hK := (hK.sub (tys' := [(c0_games, (.object "StepCourt$Game"))]) [1] rfl).app hK1
              generalize H1 = H at hP hS ⊢
              have hP : va_P (dC, dI) vwCl [(h0_assertion, ce_As u.2.2.1), (h0_games, .inl (c0_games, 3, .inr (.inr (.inr (.inr (va_up (va_up (va_up (fun _ => none) 0 (some h0_games_0)) 1 (some h0_games_1)) 2 (some h0_games_2))))))), (h0_games_0, ce_Ga u7.2.1), (h0_games_1, ce_Ga u7.2.2.1), (h0_games_2, ce_Ga u7.2.2.2), (h0, ce_Sc h0_balances h0_code h0_inbox h0_trueState h0_scratch h0_payments h0_proof h0_assertion h0_games u11.1), (h0_balances, .inl (c0_balances, 4, .inl u11.2))] H := hP
              have hD : va_D A [(h0_assertion, ce_As u.2.2.1), (h0_games, .inl (c0_games, 3, .inr (.inr (.inr (.inr (va_up (va_up (va_up (fun _ => none) 0 (some h0_games_0)) 1 (some h0_games_1)) 2 (some h0_games_2))))))), (h0_games_0, ce_Ga u7.2.1), (h0_games_1, ce_Ga u7.2.2.1), (h0_games_2, ce_Ga u7.2.2.2), (h0, ce_Sc h0_balances h0_code h0_inbox h0_trueState h0_scratch h0_payments h0_proof h0_assertion h0_games u11.1), (h0_balances, .inl (c0_balances, 4, .inl u11.2))] := hD
              have hK : va_K (dC, dI) vwCl [(c0_games, (.object "StepCourt$Game")), (c0_balances, .int)] s := hK
              refine W.widen (k := 2) (n := 12) (by decide) (by decide) ?_
              refine W.eq (g2 := F0 m 56 ls []) rfl ?_
              refine lv_aload_n hx hb dSc_challenge_56 rfl (lv_at hl 0 rfl) ?_
              refine va_get (D := (dC, dI)) (ci := 7) (v := .ref h0_games) (C := "StepCourt") (T := TSc) (N := 13) hx hb hq inSc hown hK hP 5 rfl rfl 8 (by decide) (hq _ wt_262) (fun _ h9 => h9) rfl dSc_challenge_57 ?_
              refine lv_aload_n hx hb dSc_challenge_60 rfl (lv_at hl 0 rfl) ?_
              refine va_get (D := (dC, dI)) (ci := 7) (v := .int u11.1.1) (C := "StepCourt") (T := TSc) (N := 13) hx hb hq inSc hown hK hP 5 rfl rfl 9 (by decide) (hq _ wt_263) (fun _ h9 => h9) rfl dSc_challenge_61 ?_
              obtain ⟨hh13, hw⟩ := hw
              refine va_aldq hx hb hK hP 1 0 rfl rfl hh13 dSc_challenge_64 ?_
              have cc14b : u11.1.1.toNatClampNeg < 3 := Nat.not_le.mp (fun q => hh13 (Or.inr q))
              rcases (show u11.1.1.toNatClampNeg = 0 ∨ u11.1.1.toNatClampNeg = 1 ∨ u11.1.1.toNatClampNeg = 2 by omega) with cc14 | cc14 | cc14
              · have hw := hw.1 cc14
                refine W.eq (g2 := F0 m 65 ls [.ref h0_games_0]) (by rw [cc14]; rfl) ?_
                refine lv_astore_n (lv' := [(2, .ref h0_games_0), (0, .ref h0), (1, .int k1)]) hx hb dSc_challenge_65 rfl hl (by decide) rfl (fun ls hl => ?_)
                refine lv_aload_n hx hb dSc_challenge_66 rfl (lv_at hl 0 rfl) ?_
                refine lv_iload_n hx hb dSc_challenge_67 rfl (lv_at hl 2 rfl) ?_
                refine lv_aload_n hx hb dSc_challenge_68 rfl (lv_at hl 1 rfl) ?_
                refine va_get (D := (dC, dI)) (ci := 7) (v := .ref h0_assertion) (C := "StepCourt") (T := TSc) (N := 13) hx hb hq inSc hown hK hP 5 rfl rfl 7 (by decide) (hq _ wt_261) (fun _ h9 => h9) rfl dSc_challenge_69 ?_
                refine va_getN (D := (dC, dI)) (ci := 0) (v := .int u.2.2.1.2.2.2.1) (C := "StepCourt$Assertion") (T := TAs) (N := 7) hx hb hq inAs hown hK hP 0 rfl rfl 3 (by decide) (va_Nw.use rfl (hZ.1 _ zt_164)) (fun _ h9 => h9) rfl dSc_challenge_72 ?_
                refine lv_aload_n hx hb dSc_challenge_75 rfl (lv_at hl 1 rfl) ?_
                refine va_get (D := (dC, dI)) (ci := 7) (v := .long u11.1.2.2.2) (C := "StepCourt") (T := TSc) (N := 13) hx hb hq inSc hown hK hP 5 rfl rfl 12 (by decide) (hq _ wt_266) (fun _ h9 => h9) rfl dSc_challenge_76 ?_
                refine lv_aload_n hx hb dSc_challenge_79 rfl (lv_at hl 1 rfl) ?_
                refine va_get (D := (dC, dI)) (ci := 7) (v := .ref h0_assertion) (C := "StepCourt") (T := TSc) (N := 13) hx hb hq inSc hown hK hP 5 rfl rfl 7 (by decide) (hq _ wt_261) (fun _ h9 => h9) rfl dSc_challenge_80 ?_
                refine va_getN (D := (dC, dI)) (ci := 0) (v := .long u.2.2.1.2.2.2.2.2.2) (C := "StepCourt$Assertion") (T := TAs) (N := 7) hx hb hq inAs hown hK hP 0 rfl rfl 6 (by decide) (va_Nw.use rfl (hZ.1 _ zt_169)) (fun _ h9 => h9) rfl dSc_challenge_83 ?_
                have hPc := hP.sub (ws' := [(h0_games_0, ce_Ga u7.2.1)]) [2] rfl
                have hDc := hD.sub (ws' := [(h0_games_0, ce_Ga u7.2.1)]) [2] (by decide) rfl
                have hKc := hK.sub (tys' := []) [] rfl
                have hFc := va_free (wc := [(h0_games_0, ce_Ga u7.2.1)]) hD hS hA [2] rfl
                refine va_callv (va_runV (As := [.int k1, .int u.2.2.1.2.2.2.1, .long u11.1.2.2.2, .long u.2.2.1.2.2.2.2.2.2]) (rest := []) ⟨hx, hb, hml, hown, hq⟩ (mt_Ga_begin l dC dI h0_games_0 H.size _ u7.2.1 k1 u.2.2.1.2.2.2.1 u11.1.2.2.2 u.2.2.1.2.2.2.2.2.2 hw) ⟨cq_B 4 hq wt_612 wt_609 wt_8 rfl rfl hd_Ga_begin ⟨Nat.le_of_ble_eq_true rfl, Nat.le_of_ble_eq_true rfl⟩, (hq _ wt_610), (hq _ wt_611)⟩ ⟨kp_bl, va_recv hKc hPc (ci := 2) (q0 := 0) rfl rfl, kp_at hPc hKc hDc hZ⟩ rfl rfl hl.1 rfl (lv_room (Nat.le_of_ble_eq_true rfl)) dSc_challenge_86 ⟨(by decide), (by decide)⟩) hS (fun q _ h => hFc q h) hFc (fun u16 t H1 locs ht hvm hw hB hz1 hk1 hS => ?_)
                obtain ⟨hP1, hK1, hD1⟩ := hB
                rw [ht] at hP1
                have hK1 := va_K.moved hvm.symm hK1
                obtain ⟨hP, hD⟩ := va_join (wr := [(h0_assertion, ce_As u.2.2.1), (h0_games, .inl (c0_games, 3, .inr (.inr (.inr (.inr (va_up (va_up (va_up (fun _ => none) 0 (some h0_games_0)) 1 (some h0_games_1)) 2 (some h0_games_2))))))), (h0_games_1, ce_Ga u7.2.2.1), (h0_games_2, ce_Ga u7.2.2.2), (h0, ce_Sc h0_balances h0_code h0_inbox h0_trueState h0_scratch h0_payments h0_proof h0_assertion h0_games u11.1), (h0_balances, .inl (c0_balances, 4, .inl u11.2))]) (w1 := [(h0_games_0, ce_Ga u16)]) hP hD [2] [0, 1, 3, 4, 5, 6] rfl rfl (by decide) (by decide) hk1 hFc hP1 hD1
                have hK := (hK.sub (tys' := [(c0_games, (.object "StepCourt$Game")), (c0_balances, .int)]) [0, 1] rfl).app hK1
                generalize H1 = H at hP hS ⊢
                have hP : va_P (dC, dI) vwCl [(h0_assertion, ce_As u.2.2.1), (h0_games, .inl (c0_games, 3, .inr (.inr (.inr (.inr (va_up (va_up (va_up (fun _ => none) 0 (some h0_games_0)) 1 (some h0_games_1)) 2 (some h0_games_2))))))), (h0_games_1, ce_Ga u7.2.2.1), (h0_games_2, ce_Ga u7.2.2.2), (h0, ce_Sc h0_balances h0_code h0_inbox h0_trueState h0_scratch h0_payments h0_proof h0_assertion h0_games u11.1), (h0_balances, .inl (c0_balances, 4, .inl u11.2)), (h0_games_0, ce_Ga u16)] H := hP
                have hD : va_D A [(h0_assertion, ce_As u.2.2.1), (h0_games, .inl (c0_games, 3, .inr (.inr (.inr (.inr (va_up (va_up (va_up (fun _ => none) 0 (some h0_games_0)) 1 (some h0_games_1)) 2 (some h0_games_2))))))), (h0_games_1, ce_Ga u7.2.2.1), (h0_games_2, ce_Ga u7.2.2.2), (h0, ce_Sc h0_balances h0_code h0_inbox h0_trueState h0_scratch h0_payments h0_proof h0_assertion h0_games u11.1), (h0_balances, .inl (c0_balances, 4, .inl u11.2)), (h0_games_0, ce_Ga u16)] := hD
                have hK : va_K (dC, dI) vwCl [(c0_games, (.object "StepCourt$Game")), (c0_balances, .int)] s := hK
                refine lv_aload_n hx hb dSc_challenge_89 rfl (lv_at hl 0 rfl) ?_
                refine lv_aload_n hx hb dSc_challenge_90 rfl (lv_at hl 1 rfl) ?_
                refine va_get (D := (dC, dI)) (ci := 7) (v := .int u11.1.2.2.1) (C := "StepCourt") (T := TSc) (N := 13) hx hb hq inSc hown hK hP 4 rfl rfl 11 (by decide) (hq _ wt_265) (fun _ h9 => h9) rfl dSc_challenge_91 ?_
                have hPc := hP.sub (ws' := [(h0_games_0, ce_Ga u16)]) [6] rfl
                have hDc := hD.sub (ws' := [(h0_games_0, ce_Ga u16)]) [6] (by decide) rfl
                have hKc := hK.sub (tys' := []) [] rfl
                have hFc := va_free (wc := [(h0_games_0, ce_Ga u16)]) hD hS hA [6] rfl
                refine va_callv (va_runV (As := [.int u11.1.2.2.1]) (rest := []) ⟨hx, hb, hml, hown, hq⟩ (mt_Ga_setDeadline l dC dI h0_games_0 H.size _ u16 u11.1.2.2.1 hw) ⟨cq_B 1 hq wt_620 wt_617 wt_8 rfl rfl hd_Ga_setDeadline ⟨Nat.le_of_ble_eq_true rfl, Nat.le_of_ble_eq_true rfl⟩, (hq _ wt_618), (hq _ wt_619)⟩ ⟨kp_bl, va_recv hKc hPc (ci := 2) (q0 := 0) rfl rfl, kp_at hPc hKc hDc hZ⟩ rfl rfl hl.1 rfl (lv_room (Nat.le_of_ble_eq_true rfl)) dSc_challenge_94 ⟨(by decide), (by decide)⟩) hS (fun q _ h => hFc q h) hFc (fun u18 t H1 locs ht hvm hw hB hz1 hk1 hS => ?_)
                obtain ⟨hP1, hK1, hD1⟩ := hB
                rw [ht] at hP1
                have hK1 := va_K.moved hvm.symm hK1
                obtain ⟨hP, hD⟩ := va_join (wr := [(h0_assertion, ce_As u.2.2.1), (h0_games, .inl (c0_games, 3, .inr (.inr (.inr (.inr (va_up (va_up (va_up (fun _ => none) 0 (some h0_games_0)) 1 (some h0_games_1)) 2 (some h0_games_2))))))), (h0_games_1, ce_Ga u7.2.2.1), (h0_games_2, ce_Ga u7.2.2.2), (h0, ce_Sc h0_balances h0_code h0_inbox h0_trueState h0_scratch h0_payments h0_proof h0_assertion h0_games u11.1), (h0_balances, .inl (c0_balances, 4, .inl u11.2))]) (w1 := [(h0_games_0, ce_Ga u18)]) hP hD [6] [0, 1, 2, 3, 4, 5] rfl rfl (by decide) (by decide) hk1 hFc hP1 hD1
                have hK := (hK.sub (tys' := [(c0_games, (.object "StepCourt$Game")), (c0_balances, .int)]) [0, 1] rfl).app hK1
                generalize H1 = H at hP hS ⊢
                have hP : va_P (dC, dI) vwCl [(h0_assertion, ce_As u.2.2.1), (h0_games, .inl (c0_games, 3, .inr (.inr (.inr (.inr (va_up (va_up (va_up (fun _ => none) 0 (some h0_games_0)) 1 (some h0_games_1)) 2 (some h0_games_2))))))), (h0_games_1, ce_Ga u7.2.2.1), (h0_games_2, ce_Ga u7.2.2.2), (h0, ce_Sc h0_balances h0_code h0_inbox h0_trueState h0_scratch h0_payments h0_proof h0_assertion h0_games u11.1), (h0_balances, .inl (c0_balances, 4, .inl u11.2)), (h0_games_0, ce_Ga u18)] H := hP
                have hD : va_D A [(h0_assertion, ce_As u.2.2.1), (h0_games, .inl (c0_games, 3, .inr (.inr (.inr (.inr (va_up (va_up (va_up (fun _ => none) 0 (some h0_games_0)) 1 (some h0_games_1)) 2 (some h0_games_2))))))), (h0_games_1, ce_Ga u7.2.2.1), (h0_games_2, ce_Ga u7.2.2.2), (h0, ce_Sc h0_balances h0_code h0_inbox h0_trueState h0_scratch h0_payments h0_proof h0_assertion h0_games u11.1), (h0_balances, .inl (c0_balances, 4, .inl u11.2)), (h0_games_0, ce_Ga u18)] := hD
                have hK : va_K (dC, dI) vwCl [(c0_games, (.object "StepCourt$Game")), (c0_balances, .int)] s := hK
                refine lv_aload_n hx hb dSc_challenge_97 rfl (lv_at hl 1 rfl) ?_
                refine lv_dup hx hb dSc_challenge_98 rfl ?_
                refine va_get (D := (dC, dI)) (ci := 7) (v := .int u11.1.1) (C := "StepCourt") (T := TSc) (N := 13) hx hb hq inSc hown hK hP 4 rfl rfl 9 (by decide) (hq _ wt_263) (fun _ h9 => h9) rfl dSc_challenge_99 ?_
                refine lv_iconst (v := 1) hx hb dSc_challenge_102 (by decide) ?_
                refine lv_iadd hx hb dSc_challenge_103 ?_
                refine lv_topi (fun f19 ef19 => ?_)
                have hw := hw f19 ef19
                refine va_put (D := (dC, dI)) (ci := 7) (v := .int f19) (ty := .int) (C := "StepCourt") (T := TSc) (N := 13) hx hb hq inSc tySc tySc_ok nmSc hown hK hP hD hS 4 rfl rfl 9 (by decide) (hq _ wt_263) (fun _ h9 => h9) rfl (by decide +kernel) rfl rfl (Nat.le_of_ble_eq_true rfl) dSc_challenge_104 (fun H locs hP hD hS => ?_)
                have hP : va_P (dC, dI) vwCl [(h0_assertion, ce_As u.2.2.1), (h0_games, .inl (c0_games, 3, .inr (.inr (.inr (.inr (va_up (va_up (va_up (fun _ => none) 0 (some h0_games_0)) 1 (some h0_games_1)) 2 (some h0_games_2))))))), (h0_games_1, ce_Ga u7.2.2.1), (h0_games_2, ce_Ga u7.2.2.2), (h0, ce_Sc h0_balances h0_code h0_inbox h0_trueState h0_scratch h0_payments h0_proof h0_assertion h0_games (f19, u11.1.2.1, u11.1.2.2.1, u11.1.2.2.2)), (h0_balances, .inl (c0_balances, 4, .inl u11.2)), (h0_games_0, ce_Ga u18)] H := hP
                have hD : va_D A [(h0_assertion, ce_As u.2.2.1), (h0_games, .inl (c0_games, 3, .inr (.inr (.inr (.inr (va_up (va_up (va_up (fun _ => none) 0 (some h0_games_0)) 1 (some h0_games_1)) 2 (some h0_games_2))))))), (h0_games_1, ce_Ga u7.2.2.1), (h0_games_2, ce_Ga u7.2.2.2), (h0, ce_Sc h0_balances h0_code h0_inbox h0_trueState h0_scratch h0_payments h0_proof h0_assertion h0_games (f19, u11.1.2.1, u11.1.2.2.1, u11.1.2.2.2)), (h0_balances, .inl (c0_balances, 4, .inl u11.2)), (h0_games_0, ce_Ga u18)] := hD
                refine lv_aload_n hx hb dSc_challenge_107 rfl (lv_at hl 1 rfl) ?_
                refine va_get (D := (dC, dI)) (ci := 7) (v := .int f19) (C := "StepCourt") (T := TSc) (N := 13) hx hb hq inSc hown hK hP 4 rfl rfl 9 (by decide) (hq _ wt_263) (fun _ h9 => h9) rfl dSc_challenge_108 ?_
                refine lv_iconst (v := 1) hx hb dSc_challenge_111 (by decide) ?_
                refine lv_isub hx hb dSc_challenge_112 ?_
                refine tx_ret (Q1 := tx_Q tx_i post px (fun u9 => kp_B dC dI A (ww_Sc_challenge h0 h0_balances h0_assertion h0_games h0_games_0 h0_games_1 h0_games_2 h0_code h0_inbox h0_trueState h0_scratch h0_payments h0_proof c0_balances c0_games u9) [(c0_balances, .int), (c0_games, (.object "StepCourt$Game"))]) A) (fun _ _ h => h) ?_
                have hP9 := hP.sub (ws' := [(h0, ce_Sc h0_balances h0_code h0_inbox h0_trueState h0_scratch h0_payments h0_proof h0_assertion h0_games (f19, u11.1.2.1, u11.1.2.2.1, u11.1.2.2.2)), (h0_balances, .inl (c0_balances, 4, .inl u11.2)), (h0_assertion, ce_As u.2.2.1), (h0_games, .inl (c0_games, 3, .inr (.inr (.inr (.inr (va_up (va_up (va_up (fun _ => none) 0 (some h0_games_0)) 1 (some h0_games_1)) 2 (some h0_games_2))))))), (h0_games_0, ce_Ga u18), (h0_games_1, ce_Ga u7.2.2.1), (h0_games_2, ce_Ga u7.2.2.2)]) [4, 5, 0, 1, 6, 2, 3] rfl
                have hD9 := hD.sub (ws' := [(h0, ce_Sc h0_balances h0_code h0_inbox h0_trueState h0_scratch h0_payments h0_proof h0_assertion h0_games (f19, u11.1.2.1, u11.1.2.2.1, u11.1.2.2.2)), (h0_balances, .inl (c0_balances, 4, .inl u11.2)), (h0_assertion, ce_As u.2.2.1), (h0_games, .inl (c0_games, 3, .inr (.inr (.inr (.inr (va_up (va_up (va_up (fun _ => none) 0 (some h0_games_0)) 1 (some h0_games_1)) 2 (some h0_games_2))))))), (h0_games_0, ce_Ga u18), (h0_games_1, ce_Ga u7.2.2.1), (h0_games_2, ce_Ga u7.2.2.2)]) [4, 5, 0, 1, 6, 2, 3] (by decide) rfl
                have hK9 := hK.sub (tys' := [(c0_balances, .int), (c0_games, (.object "StepCourt$Game"))]) [1, 0] rfl
                refine W.widen (k := 2) (n := 12) (by decide) (by decide) ?_
                exact W.iret (v := (f19 - 1)) hx hb hr (fun t ht hW => ⟨Or.inl ⟨(f19 - 1), ((f19, u11.1.2.1, u11.1.2.2.1, u11.1.2.2.2), u11.2, u.2.2.1, u18, u7.2.2.1, u7.2.2.2), rfl, hw, by rw [ht]; exact hP9, va_K.moved hW.alike hK9, hD9⟩, hS.F ht⟩) hS.2.2 dSc_challenge_113
              · have hw := hw.2.1 cc14
                refine W.eq (g2 := F0 m 65 ls [.ref h0_games_1]) (by rw [cc14]; rfl) ?_
                refine lv_astore_n (lv' := [(2, .ref h0_games_1), (0, .ref h0), (1, .int k1)]) hx hb dSc_challenge_65 rfl hl (by decide) rfl (fun ls hl => ?_)
                refine lv_aload_n hx hb dSc_challenge_66 rfl (lv_at hl 0 rfl) ?_
                refine lv_iload_n hx hb dSc_challenge_67 rfl (lv_at hl 2 rfl) ?_
                refine lv_aload_n hx hb dSc_challenge_68 rfl (lv_at hl 1 rfl) ?_
                refine va_get (D := (dC, dI)) (ci := 7) (v := .ref h0_assertion) (C := "StepCourt") (T := TSc) (N := 13) hx hb hq inSc hown hK hP 5 rfl rfl 7 (by decide) (hq _ wt_261) (fun _ h9 => h9) rfl dSc_challenge_69 ?_
                refine va_getN (D := (dC, dI)) (ci := 0) (v := .int u.2.2.1.2.2.2.1) (C := "StepCourt$Assertion") (T := TAs) (N := 7) hx hb hq inAs hown hK hP 0 rfl rfl 3 (by decide) (va_Nw.use rfl (hZ.1 _ zt_164)) (fun _ h9 => h9) rfl dSc_challenge_72 ?_
                refine lv_aload_n hx hb dSc_challenge_75 rfl (lv_at hl 1 rfl) ?_
                refine va_get (D := (dC, dI)) (ci := 7) (v := .long u11.1.2.2.2) (C := "StepCourt") (T := TSc) (N := 13) hx hb hq inSc hown hK hP 5 rfl rfl 12 (by decide) (hq _ wt_266) (fun _ h9 => h9) rfl dSc_challenge_76 ?_
                refine lv_aload_n hx hb dSc_challenge_79 rfl (lv_at hl 1 rfl) ?_
                refine va_get (D := (dC, dI)) (ci := 7) (v := .ref h0_assertion) (C := "StepCourt") (T := TSc) (N := 13) hx hb hq inSc hown hK hP 5 rfl rfl 7 (by decide) (hq _ wt_261) (fun _ h9 => h9) rfl dSc_challenge_80 ?_
                refine va_getN (D := (dC, dI)) (ci := 0) (v := .long u.2.2.1.2.2.2.2.2.2) (C := "StepCourt$Assertion") (T := TAs) (N := 7) hx hb hq inAs hown hK hP 0 rfl rfl 6 (by decide) (va_Nw.use rfl (hZ.1 _ zt_169)) (fun _ h9 => h9) rfl dSc_challenge_83 ?_
                have hPc := hP.sub (ws' := [(h0_games_1, ce_Ga u7.2.2.1)]) [3] rfl
                have hDc := hD.sub (ws' := [(h0_games_1, ce_Ga u7.2.2.1)]) [3] (by decide) rfl
                have hKc := hK.sub (tys' := []) [] rfl
                have hFc := va_free (wc := [(h0_games_1, ce_Ga u7.2.2.1)]) hD hS hA [3] rfl
                refine va_callv (va_runV (As := [.int k1, .int u.2.2.1.2.2.2.1, .long u11.1.2.2.2, .long u.2.2.1.2.2.2.2.2.2]) (rest := []) ⟨hx, hb, hml, hown, hq⟩ (mt_Ga_begin l dC dI h0_games_1 H.size _ u7.2.2.1 k1 u.2.2.1.2.2.2.1 u11.1.2.2.2 u.2.2.1.2.2.2.2.2.2 hw) ⟨cq_B 4 hq wt_612 wt_609 wt_8 rfl rfl hd_Ga_begin ⟨Nat.le_of_ble_eq_true rfl, Nat.le_of_ble_eq_true rfl⟩, (hq _ wt_610), (hq _ wt_611)⟩ ⟨kp_bl, va_recv hKc hPc (ci := 2) (q0 := 0) rfl rfl, kp_at hPc hKc hDc hZ⟩ rfl rfl hl.1 rfl (lv_room (Nat.le_of_ble_eq_true rfl)) dSc_challenge_86 ⟨(by decide), (by decide)⟩) hS (fun q _ h => hFc q h) hFc (fun u21 t H1 locs ht hvm hw hB hz1 hk1 hS => ?_)
                obtain ⟨hP1, hK1, hD1⟩ := hB
                rw [ht] at hP1
                have hK1 := va_K.moved hvm.symm hK1
                obtain ⟨hP, hD⟩ := va_join (wr := [(h0_assertion, ce_As u.2.2.1), (h0_games, .inl (c0_games, 3, .inr (.inr (.inr (.inr (va_up (va_up (va_up (fun _ => none) 0 (some h0_games_0)) 1 (some h0_games_1)) 2 (some h0_games_2))))))), (h0_games_0, ce_Ga u7.2.1), (h0_games_2, ce_Ga u7.2.2.2), (h0, ce_Sc h0_balances h0_code h0_inbox h0_trueState h0_scratch h0_payments h0_proof h0_assertion h0_games u11.1), (h0_balances, .inl (c0_balances, 4, .inl u11.2))]) (w1 := [(h0_games_1, ce_Ga u21)]) hP hD [3] [0, 1, 2, 4, 5, 6] rfl rfl (by decide) (by decide) hk1 hFc hP1 hD1
                have hK := (hK.sub (tys' := [(c0_games, (.object "StepCourt$Game")), (c0_balances, .int)]) [0, 1] rfl).app hK1
                generalize H1 = H at hP hS ⊢
                have hP : va_P (dC, dI) vwCl [(h0_assertion, ce_As u.2.2.1), (h0_games, .inl (c0_games, 3, .inr (.inr (.inr (.inr (va_up (va_up (va_up (fun _ => none) 0 (some h0_games_0)) 1 (some h0_games_1)) 2 (some h0_games_2))))))), (h0_games_0, ce_Ga u7.2.1), (h0_games_2, ce_Ga u7.2.2.2), (h0, ce_Sc h0_balances h0_code h0_inbox h0_trueState h0_scratch h0_payments h0_proof h0_assertion h0_games u11.1), (h0_balances, .inl (c0_balances, 4, .inl u11.2)), (h0_games_1, ce_Ga u21)] H := hP
                have hD : va_D A [(h0_assertion, ce_As u.2.2.1), (h0_games, .inl (c0_games, 3, .inr (.inr (.inr (.inr (va_up (va_up (va_up (fun _ => none) 0 (some h0_games_0)) 1 (some h0_games_1)) 2 (some h0_games_2))))))), (h0_games_0, ce_Ga u7.2.1), (h0_games_2, ce_Ga u7.2.2.2), (h0, ce_Sc h0_balances h0_code h0_inbox h0_trueState h0_scratch h0_payments h0_proof h0_assertion h0_games u11.1), (h0_balances, .inl (c0_balances, 4, .inl u11.2)), (h0_games_1, ce_Ga u21)] := hD
                have hK : va_K (dC, dI) vwCl [(c0_games, (.object "StepCourt$Game")), (c0_balances, .int)] s := hK
                refine lv_aload_n hx hb dSc_challenge_89 rfl (lv_at hl 0 rfl) ?_
                refine lv_aload_n hx hb dSc_challenge_90 rfl (lv_at hl 1 rfl) ?_
                refine va_get (D := (dC, dI)) (ci := 7) (v := .int u11.1.2.2.1) (C := "StepCourt") (T := TSc) (N := 13) hx hb hq inSc hown hK hP 4 rfl rfl 11 (by decide) (hq _ wt_265) (fun _ h9 => h9) rfl dSc_challenge_91 ?_
                have hPc := hP.sub (ws' := [(h0_games_1, ce_Ga u21)]) [6] rfl
                have hDc := hD.sub (ws' := [(h0_games_1, ce_Ga u21)]) [6] (by decide) rfl
                have hKc := hK.sub (tys' := []) [] rfl
                have hFc := va_free (wc := [(h0_games_1, ce_Ga u21)]) hD hS hA [6] rfl
                refine va_callv (va_runV (As := [.int u11.1.2.2.1]) (rest := []) ⟨hx, hb, hml, hown, hq⟩ (mt_Ga_setDeadline l dC dI h0_games_1 H.size _ u21 u11.1.2.2.1 hw) ⟨cq_B 1 hq wt_620 wt_617 wt_8 rfl rfl hd_Ga_setDeadline ⟨Nat.le_of_ble_eq_true rfl, Nat.le_of_ble_eq_true rfl⟩, (hq _ wt_618), (hq _ wt_619)⟩ ⟨kp_bl, va_recv hKc hPc (ci := 2) (q0 := 0) rfl rfl, kp_at hPc hKc hDc hZ⟩ rfl rfl hl.1 rfl (lv_room (Nat.le_of_ble_eq_true rfl)) dSc_challenge_94 ⟨(by decide), (by decide)⟩) hS (fun q _ h => hFc q h) hFc (fun u23 t H1 locs ht hvm hw hB hz1 hk1 hS => ?_)
                obtain ⟨hP1, hK1, hD1⟩ := hB
                rw [ht] at hP1
                have hK1 := va_K.moved hvm.symm hK1
                obtain ⟨hP, hD⟩ := va_join (wr := [(h0_assertion, ce_As u.2.2.1), (h0_games, .inl (c0_games, 3, .inr (.inr (.inr (.inr (va_up (va_up (va_up (fun _ => none) 0 (some h0_games_0)) 1 (some h0_games_1)) 2 (some h0_games_2))))))), (h0_games_0, ce_Ga u7.2.1), (h0_games_2, ce_Ga u7.2.2.2), (h0, ce_Sc h0_balances h0_code h0_inbox h0_trueState h0_scratch h0_payments h0_proof h0_assertion h0_games u11.1), (h0_balances, .inl (c0_balances, 4, .inl u11.2))]) (w1 := [(h0_games_1, ce_Ga u23)]) hP hD [6] [0, 1, 2, 3, 4, 5] rfl rfl (by decide) (by decide) hk1 hFc hP1 hD1
                have hK := (hK.sub (tys' := [(c0_games, (.object "StepCourt$Game")), (c0_balances, .int)]) [0, 1] rfl).app hK1
                generalize H1 = H at hP hS ⊢
                have hP : va_P (dC, dI) vwCl [(h0_assertion, ce_As u.2.2.1), (h0_games, .inl (c0_games, 3, .inr (.inr (.inr (.inr (va_up (va_up (va_up (fun _ => none) 0 (some h0_games_0)) 1 (some h0_games_1)) 2 (some h0_games_2))))))), (h0_games_0, ce_Ga u7.2.1), (h0_games_2, ce_Ga u7.2.2.2), (h0, ce_Sc h0_balances h0_code h0_inbox h0_trueState h0_scratch h0_payments h0_proof h0_assertion h0_games u11.1), (h0_balances, .inl (c0_balances, 4, .inl u11.2)), (h0_games_1, ce_Ga u23)] H := hP
                have hD : va_D A [(h0_assertion, ce_As u.2.2.1), (h0_games, .inl (c0_games, 3, .inr (.inr (.inr (.inr (va_up (va_up (va_up (fun _ => none) 0 (some h0_games_0)) 1 (some h0_games_1)) 2 (some h0_games_2))))))), (h0_games_0, ce_Ga u7.2.1), (h0_games_2, ce_Ga u7.2.2.2), (h0, ce_Sc h0_balances h0_code h0_inbox h0_trueState h0_scratch h0_payments h0_proof h0_assertion h0_games u11.1), (h0_balances, .inl (c0_balances, 4, .inl u11.2)), (h0_games_1, ce_Ga u23)] := hD
                have hK : va_K (dC, dI) vwCl [(c0_games, (.object "StepCourt$Game")), (c0_balances, .int)] s := hK
                refine lv_aload_n hx hb dSc_challenge_97 rfl (lv_at hl 1 rfl) ?_
                refine lv_dup hx hb dSc_challenge_98 rfl ?_
                refine va_get (D := (dC, dI)) (ci := 7) (v := .int u11.1.1) (C := "StepCourt") (T := TSc) (N := 13) hx hb hq inSc hown hK hP 4 rfl rfl 9 (by decide) (hq _ wt_263) (fun _ h9 => h9) rfl dSc_challenge_99 ?_
                refine lv_iconst (v := 1) hx hb dSc_challenge_102 (by decide) ?_
                refine lv_iadd hx hb dSc_challenge_103 ?_
                refine lv_topi (fun f24 ef24 => ?_)
                have hw := hw f24 ef24
                refine va_put (D := (dC, dI)) (ci := 7) (v := .int f24) (ty := .int) (C := "StepCourt") (T := TSc) (N := 13) hx hb hq inSc tySc tySc_ok nmSc hown hK hP hD hS 4 rfl rfl 9 (by decide) (hq _ wt_263) (fun _ h9 => h9) rfl (by decide +kernel) rfl rfl (Nat.le_of_ble_eq_true rfl) dSc_challenge_104 (fun H locs hP hD hS => ?_)
                have hP : va_P (dC, dI) vwCl [(h0_assertion, ce_As u.2.2.1), (h0_games, .inl (c0_games, 3, .inr (.inr (.inr (.inr (va_up (va_up (va_up (fun _ => none) 0 (some h0_games_0)) 1 (some h0_games_1)) 2 (some h0_games_2))))))), (h0_games_0, ce_Ga u7.2.1), (h0_games_2, ce_Ga u7.2.2.2), (h0, ce_Sc h0_balances h0_code h0_inbox h0_trueState h0_scratch h0_payments h0_proof h0_assertion h0_games (f24, u11.1.2.1, u11.1.2.2.1, u11.1.2.2.2)), (h0_balances, .inl (c0_balances, 4, .inl u11.2)), (h0_games_1, ce_Ga u23)] H := hP
                have hD : va_D A [(h0_assertion, ce_As u.2.2.1), (h0_games, .inl (c0_games, 3, .inr (.inr (.inr (.inr (va_up (va_up (va_up (fun _ => none) 0 (some h0_games_0)) 1 (some h0_games_1)) 2 (some h0_games_2))))))), (h0_games_0, ce_Ga u7.2.1), (h0_games_2, ce_Ga u7.2.2.2), (h0, ce_Sc h0_balances h0_code h0_inbox h0_trueState h0_scratch h0_payments h0_proof h0_assertion h0_games (f24, u11.1.2.1, u11.1.2.2.1, u11.1.2.2.2)), (h0_balances, .inl (c0_balances, 4, .inl u11.2)), (h0_games_1, ce_Ga u23)] := hD
                refine lv_aload_n hx hb dSc_challenge_107 rfl (lv_at hl 1 rfl) ?_
                refine va_get (D := (dC, dI)) (ci := 7) (v := .int f24) (C := "StepCourt") (T := TSc) (N := 13) hx hb hq inSc hown hK hP 4 rfl rfl 9 (by decide) (hq _ wt_263) (fun _ h9 => h9) rfl dSc_challenge_108 ?_
                refine lv_iconst (v := 1) hx hb dSc_challenge_111 (by decide) ?_
                refine lv_isub hx hb dSc_challenge_112 ?_
                refine tx_ret (Q1 := tx_Q tx_i post px (fun u9 => kp_B dC dI A (ww_Sc_challenge h0 h0_balances h0_assertion h0_games h0_games_0 h0_games_1 h0_games_2 h0_code h0_inbox h0_trueState h0_scratch h0_payments h0_proof c0_balances c0_games u9) [(c0_balances, .int), (c0_games, (.object "StepCourt$Game"))]) A) (fun _ _ h => h) ?_
                have hP9 := hP.sub (ws' := [(h0, ce_Sc h0_balances h0_code h0_inbox h0_trueState h0_scratch h0_payments h0_proof h0_assertion h0_games (f24, u11.1.2.1, u11.1.2.2.1, u11.1.2.2.2)), (h0_balances, .inl (c0_balances, 4, .inl u11.2)), (h0_assertion, ce_As u.2.2.1), (h0_games, .inl (c0_games, 3, .inr (.inr (.inr (.inr (va_up (va_up (va_up (fun _ => none) 0 (some h0_games_0)) 1 (some h0_games_1)) 2 (some h0_games_2))))))), (h0_games_0, ce_Ga u7.2.1), (h0_games_1, ce_Ga u23), (h0_games_2, ce_Ga u7.2.2.2)]) [4, 5, 0, 1, 2, 6, 3] rfl
                have hD9 := hD.sub (ws' := [(h0, ce_Sc h0_balances h0_code h0_inbox h0_trueState h0_scratch h0_payments h0_proof h0_assertion h0_games (f24, u11.1.2.1, u11.1.2.2.1, u11.1.2.2.2)), (h0_balances, .inl (c0_balances, 4, .inl u11.2)), (h0_assertion, ce_As u.2.2.1), (h0_games, .inl (c0_games, 3, .inr (.inr (.inr (.inr (va_up (va_up (va_up (fun _ => none) 0 (some h0_games_0)) 1 (some h0_games_1)) 2 (some h0_games_2))))))), (h0_games_0, ce_Ga u7.2.1), (h0_games_1, ce_Ga u23), (h0_games_2, ce_Ga u7.2.2.2)]) [4, 5, 0, 1, 2, 6, 3] (by decide) rfl
                have hK9 := hK.sub (tys' := [(c0_balances, .int), (c0_games, (.object "StepCourt$Game"))]) [1, 0] rfl
                refine W.widen (k := 2) (n := 12) (by decide) (by decide) ?_
                exact W.iret (v := (f24 - 1)) hx hb hr (fun t ht hW => ⟨Or.inl ⟨(f24 - 1), ((f24, u11.1.2.1, u11.1.2.2.1, u11.1.2.2.2), u11.2, u.2.2.1, u7.2.1, u23, u7.2.2.2), rfl, hw, by rw [ht]; exact hP9, va_K.moved hW.alike hK9, hD9⟩, hS.F ht⟩) hS.2.2 dSc_challenge_113
              · have hw := hw.2.2 cc14
                refine W.eq (g2 := F0 m 65 ls [.ref h0_games_2]) (by rw [cc14]; rfl) ?_
                refine lv_astore_n (lv' := [(2, .ref h0_games_2), (0, .ref h0), (1, .int k1)]) hx hb dSc_challenge_65 rfl hl (by decide) rfl (fun ls hl => ?_)
                refine lv_aload_n hx hb dSc_challenge_66 rfl (lv_at hl 0 rfl) ?_
                refine lv_iload_n hx hb dSc_challenge_67 rfl (lv_at hl 2 rfl) ?_
                refine lv_aload_n hx hb dSc_challenge_68 rfl (lv_at hl 1 rfl) ?_
                refine va_get (D := (dC, dI)) (ci := 7) (v := .ref h0_assertion) (C := "StepCourt") (T := TSc) (N := 13) hx hb hq inSc hown hK hP 5 rfl rfl 7 (by decide) (hq _ wt_261) (fun _ h9 => h9) rfl dSc_challenge_69 ?_
                refine va_getN (D := (dC, dI)) (ci := 0) (v := .int u.2.2.1.2.2.2.1) (C := "StepCourt$Assertion") (T := TAs) (N := 7) hx hb hq inAs hown hK hP 0 rfl rfl 3 (by decide) (va_Nw.use rfl (hZ.1 _ zt_164)) (fun _ h9 => h9) rfl dSc_challenge_72 ?_
                refine lv_aload_n hx hb dSc_challenge_75 rfl (lv_at hl 1 rfl) ?_
                refine va_get (D := (dC, dI)) (ci := 7) (v := .long u11.1.2.2.2) (C := "StepCourt") (T := TSc) (N := 13) hx hb hq inSc hown hK hP 5 rfl rfl 12 (by decide) (hq _ wt_266) (fun _ h9 => h9) rfl dSc_challenge_76 ?_
                refine lv_aload_n hx hb dSc_challenge_79 rfl (lv_at hl 1 rfl) ?_
                refine va_get (D := (dC, dI)) (ci := 7) (v := .ref h0_assertion) (C := "StepCourt") (T := TSc) (N := 13) hx hb hq inSc hown hK hP 5 rfl rfl 7 (by decide) (hq _ wt_261) (fun _ h9 => h9) rfl dSc_challenge_80 ?_
                refine va_getN (D := (dC, dI)) (ci := 0) (v := .long u.2.2.1.2.2.2.2.2.2) (C := "StepCourt$Assertion") (T := TAs) (N := 7) hx hb hq inAs hown hK hP 0 rfl rfl 6 (by decide) (va_Nw.use rfl (hZ.1 _ zt_169)) (fun _ h9 => h9) rfl dSc_challenge_83 ?_
                have hPc := hP.sub (ws' := [(h0_games_2, ce_Ga u7.2.2.2)]) [4] rfl
                have hDc := hD.sub (ws' := [(h0_games_2, ce_Ga u7.2.2.2)]) [4] (by decide) rfl
                have hKc := hK.sub (tys' := []) [] rfl
                have hFc := va_free (wc := [(h0_games_2, ce_Ga u7.2.2.2)]) hD hS hA [4] rfl
                refine va_callv (va_runV (As := [.int k1, .int u.2.2.1.2.2.2.1, .long u11.1.2.2.2, .long u.2.2.1.2.2.2.2.2.2]) (rest := []) ⟨hx, hb, hml, hown, hq⟩ (mt_Ga_begin l dC dI h0_games_2 H.size _ u7.2.2.2 k1 u.2.2.1.2.2.2.1 u11.1.2.2.2 u.2.2.1.2.2.2.2.2.2 hw) ⟨cq_B 4 hq wt_612 wt_609 wt_8 rfl rfl hd_Ga_begin ⟨Nat.le_of_ble_eq_true rfl, Nat.le_of_ble_eq_true rfl⟩, (hq _ wt_610), (hq _ wt_611)⟩ ⟨kp_bl, va_recv hKc hPc (ci := 2) (q0 := 0) rfl rfl, kp_at hPc hKc hDc hZ⟩ rfl rfl hl.1 rfl (lv_room (Nat.le_of_ble_eq_true rfl)) dSc_challenge_86 ⟨(by decide), (by decide)⟩) hS (fun q _ h => hFc q h) hFc (fun u26 t H1 locs ht hvm hw hB hz1 hk1 hS => ?_)
                obtain ⟨hP1, hK1, hD1⟩ := hB
                rw [ht] at hP1
                have hK1 := va_K.moved hvm.symm hK1
                obtain ⟨hP, hD⟩ := va_join (wr := [(h0_assertion, ce_As u.2.2.1), (h0_games, .inl (c0_games, 3, .inr (.inr (.inr (.inr (va_up (va_up (va_up (fun _ => none) 0 (some h0_games_0)) 1 (some h0_games_1)) 2 (some h0_games_2))))))), (h0_games_0, ce_Ga u7.2.1), (h0_games_1, ce_Ga u7.2.2.1), (h0, ce_Sc h0_balances h0_code h0_inbox h0_trueState h0_scratch h0_payments h0_proof h0_assertion h0_games u11.1), (h0_balances, .inl (c0_balances, 4, .inl u11.2))]) (w1 := [(h0_games_2, ce_Ga u26)]) hP hD [4] [0, 1, 2, 3, 5, 6] rfl rfl (by decide) (by decide) hk1 hFc hP1 hD1
                have hK := (hK.sub (tys' := [(c0_games, (.object "StepCourt$Game")), (c0_balances, .int)]) [0, 1] rfl).app hK1
                generalize H1 = H at hP hS ⊢
                have hP : va_P (dC, dI) vwCl [(h0_assertion, ce_As u.2.2.1), (h0_games, .inl (c0_games, 3, .inr (.inr (.inr (.inr (va_up (va_up (va_up (fun _ => none) 0 (some h0_games_0)) 1 (some h0_games_1)) 2 (some h0_games_2))))))), (h0_games_0, ce_Ga u7.2.1), (h0_games_1, ce_Ga u7.2.2.1), (h0, ce_Sc h0_balances h0_code h0_inbox h0_trueState h0_scratch h0_payments h0_proof h0_assertion h0_games u11.1), (h0_balances, .inl (c0_balances, 4, .inl u11.2)), (h0_games_2, ce_Ga u26)] H := hP
                have hD : va_D A [(h0_assertion, ce_As u.2.2.1), (h0_games, .inl (c0_games, 3, .inr (.inr (.inr (.inr (va_up (va_up (va_up (fun _ => none) 0 (some h0_games_0)) 1 (some h0_games_1)) 2 (some h0_games_2))))))), (h0_games_0, ce_Ga u7.2.1), (h0_games_1, ce_Ga u7.2.2.1), (h0, ce_Sc h0_balances h0_code h0_inbox h0_trueState h0_scratch h0_payments h0_proof h0_assertion h0_games u11.1), (h0_balances, .inl (c0_balances, 4, .inl u11.2)), (h0_games_2, ce_Ga u26)] := hD
                have hK : va_K (dC, dI) vwCl [(c0_games, (.object "StepCourt$Game")), (c0_balances, .int)] s := hK
                refine lv_aload_n hx hb dSc_challenge_89 rfl (lv_at hl 0 rfl) ?_
                refine lv_aload_n hx hb dSc_challenge_90 rfl (lv_at hl 1 rfl) ?_
                refine va_get (D := (dC, dI)) (ci := 7) (v := .int u11.1.2.2.1) (C := "StepCourt") (T := TSc) (N := 13) hx hb hq inSc hown hK hP 4 rfl rfl 11 (by decide) (hq _ wt_265) (fun _ h9 => h9) rfl dSc_challenge_91 ?_
                have hPc := hP.sub (ws' := [(h0_games_2, ce_Ga u26)]) [6] rfl
                have hDc := hD.sub (ws' := [(h0_games_2, ce_Ga u26)]) [6] (by decide) rfl
                have hKc := hK.sub (tys' := []) [] rfl
                have hFc := va_free (wc := [(h0_games_2, ce_Ga u26)]) hD hS hA [6] rfl
                refine va_callv (va_runV (As := [.int u11.1.2.2.1]) (rest := []) ⟨hx, hb, hml, hown, hq⟩ (mt_Ga_setDeadline l dC dI h0_games_2 H.size _ u26 u11.1.2.2.1 hw) ⟨cq_B 1 hq wt_620 wt_617 wt_8 rfl rfl hd_Ga_setDeadline ⟨Nat.le_of_ble_eq_true rfl, Nat.le_of_ble_eq_true rfl⟩, (hq _ wt_618), (hq _ wt_619)⟩ ⟨kp_bl, va_recv hKc hPc (ci := 2) (q0 := 0) rfl rfl, kp_at hPc hKc hDc hZ⟩ rfl rfl hl.1 rfl (lv_room (Nat.le_of_ble_eq_true rfl)) dSc_challenge_94 ⟨(by decide), (by decide)⟩) hS (fun q _ h => hFc q h) hFc (fun u28 t H1 locs ht hvm hw hB hz1 hk1 hS => ?_)
                obtain ⟨hP1, hK1, hD1⟩ := hB
                rw [ht] at hP1
                have hK1 := va_K.moved hvm.symm hK1
                obtain ⟨hP, hD⟩ := va_join (wr := [(h0_assertion, ce_As u.2.2.1), (h0_games, .inl (c0_games, 3, .inr (.inr (.inr (.inr (va_up (va_up (va_up (fun _ => none) 0 (some h0_games_0)) 1 (some h0_games_1)) 2 (some h0_games_2))))))), (h0_games_0, ce_Ga u7.2.1), (h0_games_1, ce_Ga u7.2.2.1), (h0, ce_Sc h0_balances h0_code h0_inbox h0_trueState h0_scratch h0_payments h0_proof h0_assertion h0_games u11.1), (h0_balances, .inl (c0_balances, 4, .inl u11.2))]) (w1 := [(h0_games_2, ce_Ga u28)]) hP hD [6] [0, 1, 2, 3, 4, 5] rfl rfl (by decide) (by decide) hk1 hFc hP1 hD1
                have hK := (hK.sub (tys' := [(c0_games, (.object "StepCourt$Game")), (c0_balances, .int)]) [0, 1] rfl).app hK1
                generalize H1 = H at hP hS ⊢
                have hP : va_P (dC, dI) vwCl [(h0_assertion, ce_As u.2.2.1), (h0_games, .inl (c0_games, 3, .inr (.inr (.inr (.inr (va_up (va_up (va_up (fun _ => none) 0 (some h0_games_0)) 1 (some h0_games_1)) 2 (some h0_games_2))))))), (h0_games_0, ce_Ga u7.2.1), (h0_games_1, ce_Ga u7.2.2.1), (h0, ce_Sc h0_balances h0_code h0_inbox h0_trueState h0_scratch h0_payments h0_proof h0_assertion h0_games u11.1), (h0_balances, .inl (c0_balances, 4, .inl u11.2)), (h0_games_2, ce_Ga u28)] H := hP
                have hD : va_D A [(h0_assertion, ce_As u.2.2.1), (h0_games, .inl (c0_games, 3, .inr (.inr (.inr (.inr (va_up (va_up (va_up (fun _ => none) 0 (some h0_games_0)) 1 (some h0_games_1)) 2 (some h0_games_2))))))), (h0_games_0, ce_Ga u7.2.1), (h0_games_1, ce_Ga u7.2.2.1), (h0, ce_Sc h0_balances h0_code h0_inbox h0_trueState h0_scratch h0_payments h0_proof h0_assertion h0_games u11.1), (h0_balances, .inl (c0_balances, 4, .inl u11.2)), (h0_games_2, ce_Ga u28)] := hD
                have hK : va_K (dC, dI) vwCl [(c0_games, (.object "StepCourt$Game")), (c0_balances, .int)] s := hK
                refine lv_aload_n hx hb dSc_challenge_97 rfl (lv_at hl 1 rfl) ?_
                refine lv_dup hx hb dSc_challenge_98 rfl ?_
                refine va_get (D := (dC, dI)) (ci := 7) (v := .int u11.1.1) (C := "StepCourt") (T := TSc) (N := 13) hx hb hq inSc hown hK hP 4 rfl rfl 9 (by decide) (hq _ wt_263) (fun _ h9 => h9) rfl dSc_challenge_99 ?_
                refine lv_iconst (v := 1) hx hb dSc_challenge_102 (by decide) ?_
                refine lv_iadd hx hb dSc_challenge_103 ?_
                refine lv_topi (fun f29 ef29 => ?_)
                have hw := hw f29 ef29
                refine va_put (D := (dC, dI)) (ci := 7) (v := .int f29) (ty := .int) (C := "StepCourt") (T := TSc) (N := 13) hx hb hq inSc tySc tySc_ok nmSc hown hK hP hD hS 4 rfl rfl 9 (by decide) (hq _ wt_263) (fun _ h9 => h9) rfl (by decide +kernel) rfl rfl (Nat.le_of_ble_eq_true rfl) dSc_challenge_104 (fun H locs hP hD hS => ?_)
                have hP : va_P (dC, dI) vwCl [(h0_assertion, ce_As u.2.2.1), (h0_games, .inl (c0_games, 3, .inr (.inr (.inr (.inr (va_up (va_up (va_up (fun _ => none) 0 (some h0_games_0)) 1 (some h0_games_1)) 2 (some h0_games_2))))))), (h0_games_0, ce_Ga u7.2.1), (h0_games_1, ce_Ga u7.2.2.1), (h0, ce_Sc h0_balances h0_code h0_inbox h0_trueState h0_scratch h0_payments h0_proof h0_assertion h0_games (f29, u11.1.2.1, u11.1.2.2.1, u11.1.2.2.2)), (h0_balances, .inl (c0_balances, 4, .inl u11.2)), (h0_games_2, ce_Ga u28)] H := hP
                have hD : va_D A [(h0_assertion, ce_As u.2.2.1), (h0_games, .inl (c0_games, 3, .inr (.inr (.inr (.inr (va_up (va_up (va_up (fun _ => none) 0 (some h0_games_0)) 1 (some h0_games_1)) 2 (some h0_games_2))))))), (h0_games_0, ce_Ga u7.2.1), (h0_games_1, ce_Ga u7.2.2.1), (h0, ce_Sc h0_balances h0_code h0_inbox h0_trueState h0_scratch h0_payments h0_proof h0_assertion h0_games (f29, u11.1.2.1, u11.1.2.2.1, u11.1.2.2.2)), (h0_balances, .inl (c0_balances, 4, .inl u11.2)), (h0_games_2, ce_Ga u28)] := hD
                refine lv_aload_n hx hb dSc_challenge_107 rfl (lv_at hl 1 rfl) ?_
                refine va_get (D := (dC, dI)) (ci := 7) (v := .int f29) (C := "StepCourt") (T := TSc) (N := 13) hx hb hq inSc hown hK hP 4 rfl rfl 9 (by decide) (hq _ wt_263) (fun _ h9 => h9) rfl dSc_challenge_108 ?_
                refine lv_iconst (v := 1) hx hb dSc_challenge_111 (by decide) ?_
                refine lv_isub hx hb dSc_challenge_112 ?_
                refine tx_ret (Q1 := tx_Q tx_i post px (fun u9 => kp_B dC dI A (ww_Sc_challenge h0 h0_balances h0_assertion h0_games h0_games_0 h0_games_1 h0_games_2 h0_code h0_inbox h0_trueState h0_scratch h0_payments h0_proof c0_balances c0_games u9) [(c0_balances, .int), (c0_games, (.object "StepCourt$Game"))]) A) (fun _ _ h => h) ?_
                have hP9 := hP.sub (ws' := [(h0, ce_Sc h0_balances h0_code h0_inbox h0_trueState h0_scratch h0_payments h0_proof h0_assertion h0_games (f29, u11.1.2.1, u11.1.2.2.1, u11.1.2.2.2)), (h0_balances, .inl (c0_balances, 4, .inl u11.2)), (h0_assertion, ce_As u.2.2.1), (h0_games, .inl (c0_games, 3, .inr (.inr (.inr (.inr (va_up (va_up (va_up (fun _ => none) 0 (some h0_games_0)) 1 (some h0_games_1)) 2 (some h0_games_2))))))), (h0_games_0, ce_Ga u7.2.1), (h0_games_1, ce_Ga u7.2.2.1), (h0_games_2, ce_Ga u28)]) [4, 5, 0, 1, 2, 3, 6] rfl
                have hD9 := hD.sub (ws' := [(h0, ce_Sc h0_balances h0_code h0_inbox h0_trueState h0_scratch h0_payments h0_proof h0_assertion h0_games (f29, u11.1.2.1, u11.1.2.2.1, u11.1.2.2.2)), (h0_balances, .inl (c0_balances, 4, .inl u11.2)), (h0_assertion, ce_As u.2.2.1), (h0_games, .inl (c0_games, 3, .inr (.inr (.inr (.inr (va_up (va_up (va_up (fun _ => none) 0 (some h0_games_0)) 1 (some h0_games_1)) 2 (some h0_games_2))))))), (h0_games_0, ce_Ga u7.2.1), (h0_games_1, ce_Ga u7.2.2.1), (h0_games_2, ce_Ga u28)]) [4, 5, 0, 1, 2, 3, 6] (by decide) rfl
                have hK9 := hK.sub (tys' := [(c0_balances, .int), (c0_games, (.object "StepCourt$Game"))]) [1, 0] rfl
                refine W.widen (k := 2) (n := 12) (by decide) (by decide) ?_
                exact W.iret (v := (f29 - 1)) hx hb hr (fun t ht hW => ⟨Or.inl ⟨(f29 - 1), ((f29, u11.1.2.1, u11.1.2.2.1, u11.1.2.2.2), u11.2, u.2.2.1, u7.2.1, u7.2.2.1, u28), rfl, hw, by rw [ht]; exact hP9, va_K.moved hW.alike hK9, hD9⟩, hS.F ht⟩) hS.2.2 dSc_challenge_113
          · have hw := hw.2 cc9
            have hP9 := hP.sub (ws' := [(h0, ce_Sc h0_balances h0_code h0_inbox h0_trueState h0_scratch h0_payments h0_proof h0_assertion h0_games u7.1), (h0_balances, .inl (c0_balances, 4, .inl u.2.1)), (h0_assertion, ce_As u.2.2.1), (h0_games, .inl (c0_games, 3, .inr (.inr (.inr (.inr (va_up (va_up (va_up (fun _ => none) 0 (some h0_games_0)) 1 (some h0_games_1)) 2 (some h0_games_2))))))), (h0_games_0, ce_Ga u7.2.1), (h0_games_1, ce_Ga u7.2.2.1), (h0_games_2, ce_Ga u7.2.2.2)]) [2, 0, 1, 3, 4, 5, 6] rfl
            have hD9 := hD.sub (ws' := [(h0, ce_Sc h0_balances h0_code h0_inbox h0_trueState h0_scratch h0_payments h0_proof h0_assertion h0_games u7.1), (h0_balances, .inl (c0_balances, 4, .inl u.2.1)), (h0_assertion, ce_As u.2.2.1), (h0_games, .inl (c0_games, 3, .inr (.inr (.inr (.inr (va_up (va_up (va_up (fun _ => none) 0 (some h0_games_0)) 1 (some h0_games_1)) 2 (some h0_games_2))))))), (h0_games_0, ce_Ga u7.2.1), (h0_games_1, ce_Ga u7.2.2.1), (h0_games_2, ce_Ga u7.2.2.2)]) [2, 0, 1, 3, 4, 5, 6] (by decide) rfl
            have hK9 := hK.sub (tys' := [(c0_balances, .int), (c0_games, (.object "StepCourt$Game"))]) [0, 1] rfl
            obtain ⟨sa, hstr⟩ := hZ.2.2.1 _ (List.mem_of_getElem? (i := 7) rfl)
            exact tx_throw (own := "StepCourt") (cls := "java/lang/IllegalStateException") (names := ["java/lang/RuntimeException", "java/lang/Exception"]) (A := A) hx hb hl9 hown (by decide +kernel) (by decide +kernel) oa_122 hq wt_571 wt_17 hZ hstr hT9 hS (by rw [hml]; exact hl.1) dSc_challenge_41 dSc_challenge_44 dSc_challenge_45 dSc_challenge_47 dSc_challenge_50 hTab hlocks (by decide) (by decide) (by decide) (by decide) (fun t ce q ha hz1 hk1 hce hcv hcl => ⟨Or.inr ⟨q, _, ce, (u7.1, u.2.1, u.2.2.1, u7.2.1, u7.2.2.1, u7.2.2.2), rfl, hw, ⟨hP9.kept (fun k q hk => hk1 q.1 (hP9 k q hk).lt), va_K.moved ha hK9, hD9⟩, hce, hcv, hcl⟩, Nat.le_trans hS.1 hz1, fun z h1 h2 => (hk1 z (Nat.lt_of_lt_of_le h1 hS.1)).trans (hS.2.1 z h1 h2)⟩) hS.2.2 (by decide) (by decide)
