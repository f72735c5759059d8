theorem dMa_cellPlace_0 : decode cMa_cellPlace 0 = .ok (.aload_n 0, 1) := by decide +kernel
theorem dMa_cellPlace_1 : decode cMa_cellPlace 1 = .ok (.getfield 32, 3) := by decide +kernel
theorem dMa_cellPlace_4 : decode cMa_cellPlace 4 = .ok (.bipush 7, 2) := by decide +kernel
theorem dMa_cellPlace_6 : decode cMa_cellPlace 6 = .ok (.iand, 1) := by decide +kernel
theorem dMa_cellPlace_7 : decode cMa_cellPlace 7 = .ok (.ireturn, 1) := by decide +kernel
theorem dMa_receiver_0 : decode cMa_receiver 0 = .ok (.aload_n 0, 1) := by decide +kernel
theorem dMa_receiver_1 : decode cMa_receiver 1 = .ok (.getfield 32, 3) := by decide +kernel
theorem dMa_receiver_4 : decode cMa_receiver 4 = .ok (.iconst 3, 1) := by decide +kernel
theorem dMa_receiver_5 : decode cMa_receiver 5 = .ok (.iand, 1) := by decide +kernel
theorem dMa_receiver_6 : decode cMa_receiver 6 = .ok (.ireturn, 1) := by decide +kernel
theorem dMa_cellOrZero_0 : decode cMa_cellOrZero 0 = .ok (.lload_n 1, 1) := by decide +kernel
theorem dMa_cellOrZero_1 : decode cMa_cellOrZero 1 = .ok (.lconst 0, 1) := by decide +kernel
theorem dMa_cellOrZero_2 : decode cMa_cellOrZero 2 = .ok (.lcmp, 1) := by decide +kernel
theorem dMa_cellOrZero_3 : decode cMa_cellOrZero 3 = .ok (.ifCond .lt 22, 3) := by decide +kernel
theorem dMa_cellOrZero_6 : decode cMa_cellOrZero 6 = .ok (.lload_n 1, 1) := by decide +kernel
theorem dMa_cellOrZero_7 : decode cMa_cellOrZero 7 = .ok (.ldc2_w 45, 3) := by decide +kernel
theorem dMa_cellOrZero_10 : decode cMa_cellOrZero 10 = .ok (.lcmp, 1) := by decide +kernel
theorem dMa_cellOrZero_11 : decode cMa_cellOrZero 11 = .ok (.ifCond .ge 14, 3) := by decide +kernel
theorem dMa_cellOrZero_14 : decode cMa_cellOrZero 14 = .ok (.aload_n 0, 1) := by decide +kernel
theorem dMa_cellOrZero_15 : decode cMa_cellOrZero 15 = .ok (.getfield 9, 3) := by decide +kernel
theorem dMa_cellOrZero_18 : decode cMa_cellOrZero 18 = .ok (.lload_n 1, 1) := by decide +kernel
theorem dMa_cellOrZero_19 : decode cMa_cellOrZero 19 = .ok (.l2i, 1) := by decide +kernel
theorem dMa_cellOrZero_20 : decode cMa_cellOrZero 20 = .ok (.iaload, 1) := by decide +kernel
theorem dMa_cellOrZero_21 : decode cMa_cellOrZero 21 = .ok (.i2l, 1) := by decide +kernel
theorem dMa_cellOrZero_22 : decode cMa_cellOrZero 22 = .ok (.goto 4, 3) := by decide +kernel
theorem dMa_cellOrZero_25 : decode cMa_cellOrZero 25 = .ok (.lconst 0, 1) := by decide +kernel
theorem dMa_cellOrZero_26 : decode cMa_cellOrZero 26 = .ok (.lreturn, 1) := by decide +kernel
theorem dMa_copyFrom_0 : decode cMa_copyFrom 0 = .ok (.aload_n 1, 1) := by decide +kernel
theorem dMa_copyFrom_1 : decode cMa_copyFrom 1 = .ok (.getfield 9, 3) := by decide +kernel
theorem dMa_copyFrom_4 : decode cMa_copyFrom 4 = .ok (.iconst 0, 1) := by decide +kernel
theorem dMa_copyFrom_5 : decode cMa_copyFrom 5 = .ok (.aload_n 0, 1) := by decide +kernel
theorem dMa_copyFrom_6 : decode cMa_copyFrom 6 = .ok (.getfield 9, 3) := by decide +kernel
theorem dMa_copyFrom_9 : decode cMa_copyFrom 9 = .ok (.iconst 0, 1) := by decide +kernel
theorem dMa_copyFrom_10 : decode cMa_copyFrom 10 = .ok (.bipush 8, 2) := by decide +kernel
theorem dMa_copyFrom_12 : decode cMa_copyFrom 12 = .ok (.invokestatic 19, 3) := by decide +kernel
theorem dMa_copyFrom_15 : decode cMa_copyFrom 15 = .ok (.aload_n 0, 1) := by decide +kernel
theorem dMa_copyFrom_16 : decode cMa_copyFrom 16 = .ok (.aload_n 1, 1) := by decide +kernel
theorem dMa_copyFrom_17 : decode cMa_copyFrom 17 = .ok (.getfield 25, 3) := by decide +kernel
theorem dMa_copyFrom_20 : decode cMa_copyFrom 20 = .ok (.putfield 25, 3) := by decide +kernel
theorem dMa_copyFrom_23 : decode cMa_copyFrom 23 = .ok (.aload_n 0, 1) := by decide +kernel
theorem dMa_copyFrom_24 : decode cMa_copyFrom 24 = .ok (.aload_n 1, 1) := by decide +kernel
theorem dMa_copyFrom_25 : decode cMa_copyFrom 25 = .ok (.getfield 29, 3) := by decide +kernel
theorem dMa_copyFrom_28 : decode cMa_copyFrom 28 = .ok (.putfield 29, 3) := by decide +kernel
theorem dMa_copyFrom_31 : decode cMa_copyFrom 31 = .ok (.aload_n 0, 1) := by decide +kernel
theorem dMa_copyFrom_32 : decode cMa_copyFrom 32 = .ok (.aload_n 1, 1) := by decide +kernel
theorem dMa_copyFrom_33 : decode cMa_copyFrom 33 = .ok (.getfield 32, 3) := by decide +kernel
theorem dMa_copyFrom_36 : decode cMa_copyFrom 36 = .ok (.putfield 32, 3) := by decide +kernel
theorem dMa_copyFrom_39 : decode cMa_copyFrom 39 = .ok (.aload_n 0, 1) := by decide +kernel
theorem dMa_copyFrom_40 : decode cMa_copyFrom 40 = .ok (.aload_n 1, 1) := by decide +kernel
theorem dMa_copyFrom_41 : decode cMa_copyFrom 41 = .ok (.getfield 35, 3) := by decide +kernel
theorem dMa_copyFrom_44 : decode cMa_copyFrom 44 = .ok (.putfield 35, 3) := by decide +kernel
theorem dMa_copyFrom_47 : decode cMa_copyFrom 47 = .ok (.aload_n 0, 1) := by decide +kernel
theorem dMa_copyFrom_48 : decode cMa_copyFrom 48 = .ok (.aload_n 1, 1) := by decide +kernel
theorem dMa_copyFrom_49 : decode cMa_copyFrom 49 = .ok (.getfield 38, 3) := by decide +kernel
theorem dMa_copyFrom_52 : decode cMa_copyFrom 52 = .ok (.putfield 38, 3) := by decide +kernel
theorem dMa_copyFrom_55 : decode cMa_copyFrom 55 = .ok (.aload_n 0, 1) := by decide +kernel
theorem dMa_copyFrom_56 : decode cMa_copyFrom 56 = .ok (.aload_n 1, 1) := by decide +kernel
theorem dMa_copyFrom_57 : decode cMa_copyFrom 57 = .ok (.getfield 41, 3) := by decide +kernel
theorem dMa_copyFrom_60 : decode cMa_copyFrom 60 = .ok (.putfield 41, 3) := by decide +kernel
theorem dMa_copyFrom_63 : decode cMa_copyFrom 63 = .ok (.return_, 1) := by decide +kernel
theorem dMa_exchange_0 : decode cMa_exchange 0 = .ok (.aload_n 0, 1) := by decide +kernel
theorem dMa_exchange_1 : decode cMa_exchange 1 = .ok (.getfield 29, 3) := by decide +kernel
theorem dMa_exchange_4 : decode cMa_exchange 4 = .ok (.istore_n 1, 1) := by decide +kernel
theorem dMa_exchange_5 : decode cMa_exchange 5 = .ok (.aload_n 0, 1) := by decide +kernel
theorem dMa_exchange_6 : decode cMa_exchange 6 = .ok (.aload_n 0, 1) := by decide +kernel
theorem dMa_exchange_7 : decode cMa_exchange 7 = .ok (.getfield 32, 3) := by decide +kernel
theorem dMa_exchange_10 : decode cMa_exchange 10 = .ok (.putfield 29, 3) := by decide +kernel
theorem dMa_exchange_13 : decode cMa_exchange 13 = .ok (.aload_n 0, 1) := by decide +kernel
theorem dMa_exchange_14 : decode cMa_exchange 14 = .ok (.iload_n 1, 1) := by decide +kernel
theorem dMa_exchange_15 : decode cMa_exchange 15 = .ok (.putfield 32, 3) := by decide +kernel
theorem dMa_exchange_18 : decode cMa_exchange 18 = .ok (.return_, 1) := by decide +kernel
theorem dIn_room_0 : decode cIn_room 0 = .ok (.bipush 60, 2) := by decide +kernel
theorem dIn_room_2 : decode cIn_room 2 = .ok (.aload_n 0, 1) := by decide +kernel
theorem dIn_room_3 : decode cIn_room 3 = .ok (.getfield 15, 3) := by decide +kernel
theorem dIn_room_6 : decode cIn_room 6 = .ok (.isub, 1) := by decide +kernel
theorem dIn_room_7 : decode cIn_room 7 = .ok (.ireturn, 1) := by decide +kernel
theorem dIn_add_0 : decode cIn_add 0 = .ok (.aload_n 0, 1) := by decide +kernel
theorem dIn_add_1 : decode cIn_add 1 = .ok (.getfield 15, 3) := by decide +kernel
theorem dIn_add_4 : decode cIn_add 4 = .ok (.bipush 60, 2) := by decide +kernel
theorem dIn_add_6 : decode cIn_add 6 = .ok (.if_icmp .ge 23, 3) := by decide +kernel
theorem dIn_add_9 : decode cIn_add 9 = .ok (.aload_n 0, 1) := by decide +kernel
theorem dIn_add_10 : decode cIn_add 10 = .ok (.getfield 9, 3) := by decide +kernel
theorem dIn_add_13 : decode cIn_add 13 = .ok (.aload_n 0, 1) := by decide +kernel
theorem dIn_add_14 : decode cIn_add 14 = .ok (.getfield 15, 3) := by decide +kernel
theorem dIn_add_17 : decode cIn_add 17 = .ok (.iload_n 1, 1) := by decide +kernel
theorem dIn_add_18 : decode cIn_add 18 = .ok (.iastore, 1) := by decide +kernel
theorem dIn_add_19 : decode cIn_add 19 = .ok (.aload_n 0, 1) := by decide +kernel
theorem dIn_add_20 : decode cIn_add 20 = .ok (.dup, 1) := by decide +kernel
theorem dIn_add_21 : decode cIn_add 21 = .ok (.getfield 15, 3) := by decide +kernel
theorem dIn_add_24 : decode cIn_add 24 = .ok (.iconst 1, 1) := by decide +kernel
theorem dIn_add_25 : decode cIn_add 25 = .ok (.iadd, 1) := by decide +kernel
theorem dIn_add_26 : decode cIn_add 26 = .ok (.putfield 15, 3) := by decide +kernel
theorem dIn_add_29 : decode cIn_add 29 = .ok (.return_, 1) := by decide +kernel
theorem dIn_at_0 : decode cIn_at 0 = .ok (.iload_n 1, 1) := by decide +kernel
theorem dIn_at_1 : decode cIn_at 1 = .ok (.ifCond .lt 26, 3) := by decide +kernel
theorem dIn_at_4 : decode cIn_at 4 = .ok (.iload_n 1, 1) := by decide +kernel
theorem dIn_at_5 : decode cIn_at 5 = .ok (.aload_n 0, 1) := by decide +kernel
theorem dIn_at_6 : decode cIn_at 6 = .ok (.getfield 15, 3) := by decide +kernel
theorem dIn_at_9 : decode cIn_at 9 = .ok (.if_icmp .ge 18, 3) := by decide +kernel
theorem dIn_at_12 : decode cIn_at 12 = .ok (.iload_n 1, 1) := by decide +kernel
theorem dIn_at_13 : decode cIn_at 13 = .ok (.bipush 60, 2) := by decide +kernel
theorem dIn_at_15 : decode cIn_at 15 = .ok (.if_icmp .ge 12, 3) := by decide +kernel
theorem dIn_at_18 : decode cIn_at 18 = .ok (.aload_n 0, 1) := by decide +kernel
theorem dIn_at_19 : decode cIn_at 19 = .ok (.getfield 9, 3) := by decide +kernel
theorem dIn_at_22 : decode cIn_at 22 = .ok (.iload_n 1, 1) := by decide +kernel
theorem dIn_at_23 : decode cIn_at 23 = .ok (.iaload, 1) := by decide +kernel
theorem dIn_at_24 : decode cIn_at 24 = .ok (.goto 4, 3) := by decide +kernel
theorem dIn_at_27 : decode cIn_at 27 = .ok (.iconst 0, 1) := by decide +kernel
theorem dIn_at_28 : decode cIn_at 28 = .ok (.ireturn, 1) := by decide +kernel
theorem dMa_takeWord_0 : decode cMa_takeWord 0 = .ok (.aload_n 0, 1) := by decide +kernel
theorem dMa_takeWord_1 : decode cMa_takeWord 1 = .ok (.getfield 35, 3) := by decide +kernel
theorem dMa_takeWord_4 : decode cMa_takeWord 4 = .ok (.iload_n 2, 1) := by decide +kernel
theorem dMa_takeWord_5 : decode cMa_takeWord 5 = .ok (.if_icmp .lt 5, 3) := by decide +kernel
theorem dMa_takeWord_8 : decode cMa_takeWord 8 = .ok (.iconst 0, 1) := by decide +kernel
theorem dMa_takeWord_9 : decode cMa_takeWord 9 = .ok (.ireturn, 1) := by decide +kernel
theorem dMa_takeWord_10 : decode cMa_takeWord 10 = .ok (.aload_n 0, 1) := by decide +kernel
theorem dMa_takeWord_11 : decode cMa_takeWord 11 = .ok (.aload_n 1, 1) := by decide +kernel
theorem dMa_takeWord_12 : decode cMa_takeWord 12 = .ok (.aload_n 0, 1) := by decide +kernel
theorem dMa_takeWord_13 : decode cMa_takeWord 13 = .ok (.getfield 35, 3) := by decide +kernel
theorem dMa_takeWord_16 : decode cMa_takeWord 16 = .ok (.invokevirtual 70, 3) := by decide +kernel
theorem dMa_takeWord_19 : decode cMa_takeWord 19 = .ok (.putfield 29, 3) := by decide +kernel
theorem dMa_takeWord_22 : decode cMa_takeWord 22 = .ok (.aload_n 0, 1) := by decide +kernel
theorem dMa_takeWord_23 : decode cMa_takeWord 23 = .ok (.dup, 1) := by decide +kernel
theorem dMa_takeWord_24 : decode cMa_takeWord 24 = .ok (.getfield 35, 3) := by decide +kernel
theorem dMa_takeWord_27 : decode cMa_takeWord 27 = .ok (.iconst 1, 1) := by decide +kernel
theorem dMa_takeWord_28 : decode cMa_takeWord 28 = .ok (.iadd, 1) := by decide +kernel
theorem dMa_takeWord_29 : decode cMa_takeWord 29 = .ok (.putfield 35, 3) := by decide +kernel
theorem dMa_takeWord_32 : decode cMa_takeWord 32 = .ok (.iconst 1, 1) := by decide +kernel
theorem dMa_takeWord_33 : decode cMa_takeWord 33 = .ok (.ireturn, 1) := by decide +kernel
theorem dMa_makePayment_0 : decode cMa_makePayment 0 = .ok (.aload_n 0, 1) := by decide +kernel
theorem dMa_makePayment_1 : decode cMa_makePayment 1 = .ok (.getfield 38, 3) := by decide +kernel
theorem dMa_makePayment_4 : decode cMa_makePayment 4 = .ok (.bipush 30, 2) := by decide +kernel
theorem dMa_makePayment_6 : decode cMa_makePayment 6 = .ok (.if_icmp .ne 5, 3) := by decide +kernel
theorem dMa_makePayment_9 : decode cMa_makePayment 9 = .ok (.iconst 0, 1) := by decide +kernel
theorem dMa_makePayment_10 : decode cMa_makePayment 10 = .ok (.ireturn, 1) := by decide +kernel
theorem dMa_makePayment_11 : decode cMa_makePayment 11 = .ok (.aload_n 0, 1) := by decide +kernel
theorem dMa_makePayment_12 : decode cMa_makePayment 12 = .ok (.aload_n 0, 1) := by decide +kernel
theorem dMa_makePayment_13 : decode cMa_makePayment 13 = .ok (.getfield 41, 3) := by decide +kernel
theorem dMa_makePayment_16 : decode cMa_makePayment 16 = .ok (.aload_n 0, 1) := by decide +kernel
theorem dMa_makePayment_17 : decode cMa_makePayment 17 = .ok (.invokevirtual 76, 3) := by decide +kernel
theorem dMa_makePayment_20 : decode cMa_makePayment 20 = .ok (.i2l, 1) := by decide +kernel
theorem dMa_makePayment_21 : decode cMa_makePayment 21 = .ok (.invokestatic 79, 3) := by decide +kernel
theorem dMa_makePayment_24 : decode cMa_makePayment 24 = .ok (.aload_n 0, 1) := by decide +kernel
theorem dMa_makePayment_25 : decode cMa_makePayment 25 = .ok (.getfield 29, 3) := by decide +kernel
theorem dMa_makePayment_28 : decode cMa_makePayment 28 = .ok (.i2l, 1) := by decide +kernel
theorem dMa_makePayment_29 : decode cMa_makePayment 29 = .ok (.invokestatic 79, 3) := by decide +kernel
theorem dMa_makePayment_32 : decode cMa_makePayment 32 = .ok (.putfield 41, 3) := by decide +kernel
theorem dMa_makePayment_35 : decode cMa_makePayment 35 = .ok (.aload_n 0, 1) := by decide +kernel
theorem dMa_makePayment_36 : decode cMa_makePayment 36 = .ok (.dup, 1) := by decide +kernel
theorem dMa_makePayment_37 : decode cMa_makePayment 37 = .ok (.getfield 38, 3) := by decide +kernel
theorem dMa_makePayment_40 : decode cMa_makePayment 40 = .ok (.iconst 1, 1) := by decide +kernel
theorem dMa_makePayment_41 : decode cMa_makePayment 41 = .ok (.iadd, 1) := by decide +kernel
theorem dMa_makePayment_42 : decode cMa_makePayment 42 = .ok (.putfield 38, 3) := by decide +kernel
theorem dMa_makePayment_45 : decode cMa_makePayment 45 = .ok (.iconst 1, 1) := by decide +kernel
theorem dMa_makePayment_46 : decode cMa_makePayment 46 = .ok (.ireturn, 1) := by decide +kernel
theorem dMa_step_0 : decode cMa_step 0 = .ok (.aload_n 0, 1) := by decide +kernel
theorem dMa_step_1 : decode cMa_step 1 = .ok (.getfield 25, 3) := by decide +kernel
theorem dMa_step_4 : decode cMa_step 4 = .ok (.bipush 15, 2) := by decide +kernel
theorem dMa_step_6 : decode cMa_step 6 = .ok (.iand, 1) := by decide +kernel
theorem dMa_step_7 : decode cMa_step 7 = .ok (.istore 4, 2) := by decide +kernel
theorem dMa_step_9 : decode cMa_step 9 = .ok (.aload_n 1, 1) := by decide +kernel
theorem dMa_step_10 : decode cMa_step 10 = .ok (.getfield 47, 3) := by decide +kernel
theorem dMa_step_13 : decode cMa_step 13 = .ok (.iload 4, 2) := by decide +kernel
theorem dMa_step_15 : decode cMa_step 15 = .ok (.iaload, 1) := by decide +kernel
theorem dMa_step_16 : decode cMa_step 16 = .ok (.istore 5, 2) := by decide +kernel
theorem dMa_step_18 : decode cMa_step 18 = .ok (.iload 4, 2) := by decide +kernel
theorem dMa_step_20 : decode cMa_step 20 = .ok (.iconst 1, 1) := by decide +kernel
theorem dMa_step_21 : decode cMa_step 21 = .ok (.iadd, 1) := by decide +kernel
theorem dMa_step_22 : decode cMa_step 22 = .ok (.bipush 15, 2) := by decide +kernel
theorem dMa_step_24 : decode cMa_step 24 = .ok (.iand, 1) := by decide +kernel
theorem dMa_step_25 : decode cMa_step 25 = .ok (.istore 6, 2) := by decide +kernel
theorem dMa_step_27 : decode cMa_step 27 = .ok (.iload 5, 2) := by decide +kernel
theorem dMa_step_29 : decode cMa_step 29 = .ok (.bipush 15, 2) := by decide +kernel
theorem dMa_step_31 : decode cMa_step 31 = .ok (.iand, 1) := by decide +kernel
theorem dMa_step_32 : decode cMa_step 32 = .ok (.istore 7, 2) := by decide +kernel
theorem dMa_step_34 : decode cMa_step 34 = .ok (.aload_n 1, 1) := by decide +kernel
theorem dMa_step_35 : decode cMa_step 35 = .ok (.getfield 52, 3) := by decide +kernel
theorem dMa_step_38 : decode cMa_step 38 = .ok (.iload 4, 2) := by decide +kernel
theorem dMa_step_40 : decode cMa_step 40 = .ok (.iaload, 1) := by decide +kernel
theorem dMa_step_41 : decode cMa_step 41 = .ok (.tableswitch 268 0 13 #[71, 78, 87, 96, 103, 119, 135, 151, 167, 183, 204, 211, 230, 249], 71) := by decide +kernel
theorem dMa_step_112 : decode cMa_step 112 = .ok (.iload 4, 2) := by decide +kernel
theorem dMa_step_114 : decode cMa_step 114 = .ok (.istore 6, 2) := by decide +kernel
theorem dMa_step_116 : decode cMa_step 116 = .ok (.goto 193, 3) := by decide +kernel
theorem dMa_step_119 : decode cMa_step 119 = .ok (.aload_n 0, 1) := by decide +kernel
theorem dMa_step_120 : decode cMa_step 120 = .ok (.iload 5, 2) := by decide +kernel
theorem dMa_step_122 : decode cMa_step 122 = .ok (.putfield 29, 3) := by decide +kernel
theorem dMa_step_125 : decode cMa_step 125 = .ok (.goto 184, 3) := by decide +kernel
theorem dMa_step_128 : decode cMa_step 128 = .ok (.aload_n 0, 1) := by decide +kernel
theorem dMa_step_129 : decode cMa_step 129 = .ok (.iload 5, 2) := by decide +kernel
theorem dMa_step_131 : decode cMa_step 131 = .ok (.putfield 32, 3) := by decide +kernel
theorem dMa_step_134 : decode cMa_step 134 = .ok (.goto 175, 3) := by decide +kernel
theorem dMa_step_137 : decode cMa_step 137 = .ok (.aload_n 0, 1) := by decide +kernel
theorem dMa_step_138 : decode cMa_step 138 = .ok (.invokevirtual 55, 3) := by decide +kernel
theorem dMa_step_141 : decode cMa_step 141 = .ok (.goto 168, 3) := by decide +kernel
theorem dMa_step_144 : decode cMa_step 144 = .ok (.aload_n 0, 1) := by decide +kernel
theorem dMa_step_145 : decode cMa_step 145 = .ok (.aload_n 0, 1) := by decide +kernel
theorem dMa_step_146 : decode cMa_step 146 = .ok (.getfield 29, 3) := by decide +kernel
theorem dMa_step_149 : decode cMa_step 149 = .ok (.aload_n 0, 1) := by decide +kernel
theorem dMa_step_150 : decode cMa_step 150 = .ok (.getfield 32, 3) := by decide +kernel
theorem dMa_step_153 : decode cMa_step 153 = .ok (.iadd, 1) := by decide +kernel
theorem dMa_step_154 : decode cMa_step 154 = .ok (.putfield 29, 3) := by decide +kernel
theorem dMa_step_157 : decode cMa_step 157 = .ok (.goto 152, 3) := by decide +kernel
theorem dMa_step_160 : decode cMa_step 160 = .ok (.aload_n 0, 1) := by decide +kernel
theorem dMa_step_161 : decode cMa_step 161 = .ok (.aload_n 0, 1) := by decide +kernel
theorem dMa_step_162 : decode cMa_step 162 = .ok (.getfield 29, 3) := by decide +kernel
theorem dMa_step_165 : decode cMa_step 165 = .ok (.aload_n 0, 1) := by decide +kernel
theorem dMa_step_166 : decode cMa_step 166 = .ok (.getfield 32, 3) := by decide +kernel
theorem dMa_step_169 : decode cMa_step 169 = .ok (.isub, 1) := by decide +kernel
theorem dMa_step_170 : decode cMa_step 170 = .ok (.putfield 29, 3) := by decide +kernel
theorem dMa_step_173 : decode cMa_step 173 = .ok (.goto 136, 3) := by decide +kernel
theorem dMa_step_176 : decode cMa_step 176 = .ok (.aload_n 0, 1) := by decide +kernel
theorem dMa_step_177 : decode cMa_step 177 = .ok (.aload_n 0, 1) := by decide +kernel
theorem dMa_step_178 : decode cMa_step 178 = .ok (.getfield 29, 3) := by decide +kernel
theorem dMa_step_181 : decode cMa_step 181 = .ok (.aload_n 0, 1) := by decide +kernel
theorem dMa_step_182 : decode cMa_step 182 = .ok (.getfield 32, 3) := by decide +kernel
theorem dMa_step_185 : decode cMa_step 185 = .ok (.imul, 1) := by decide +kernel
theorem dMa_step_186 : decode cMa_step 186 = .ok (.putfield 29, 3) := by decide +kernel
theorem dMa_step_189 : decode cMa_step 189 = .ok (.goto 120, 3) := by decide +kernel
theorem dMa_step_192 : decode cMa_step 192 = .ok (.aload_n 0, 1) := by decide +kernel
theorem dMa_step_193 : decode cMa_step 193 = .ok (.aload_n 0, 1) := by decide +kernel
theorem dMa_step_194 : decode cMa_step 194 = .ok (.getfield 9, 3) := by decide +kernel
theorem dMa_step_197 : decode cMa_step 197 = .ok (.aload_n 0, 1) := by decide +kernel
theorem dMa_step_198 : decode cMa_step 198 = .ok (.invokevirtual 58, 3) := by decide +kernel
theorem dMa_step_201 : decode cMa_step 201 = .ok (.iaload, 1) := by decide +kernel
theorem dMa_step_202 : decode cMa_step 202 = .ok (.putfield 29, 3) := by decide +kernel
theorem dMa_step_205 : decode cMa_step 205 = .ok (.goto 104, 3) := by decide +kernel
theorem dMa_step_208 : decode cMa_step 208 = .ok (.aload_n 0, 1) := by decide +kernel
theorem dMa_step_209 : decode cMa_step 209 = .ok (.getfield 9, 3) := by decide +kernel
theorem dMa_step_212 : decode cMa_step 212 = .ok (.aload_n 0, 1) := by decide +kernel
theorem dMa_step_213 : decode cMa_step 213 = .ok (.invokevirtual 58, 3) := by decide +kernel
theorem dMa_step_216 : decode cMa_step 216 = .ok (.aload_n 0, 1) := by decide +kernel
theorem dMa_step_217 : decode cMa_step 217 = .ok (.getfield 29, 3) := by decide +kernel
theorem dMa_step_220 : decode cMa_step 220 = .ok (.iastore, 1) := by decide +kernel
theorem dMa_step_221 : decode cMa_step 221 = .ok (.goto 88, 3) := by decide +kernel
theorem dMa_step_224 : decode cMa_step 224 = .ok (.aload_n 0, 1) := by decide +kernel
theorem dMa_step_225 : decode cMa_step 225 = .ok (.aload_n 2, 1) := by decide +kernel
theorem dMa_step_226 : decode cMa_step 226 = .ok (.iload_n 3, 1) := by decide +kernel
theorem dMa_step_227 : decode cMa_step 227 = .ok (.invokevirtual 62, 3) := by decide +kernel
theorem dMa_step_230 : decode cMa_step 230 = .ok (.ifCond .eq 8, 3) := by decide +kernel
theorem dMa_step_233 : decode cMa_step 233 = .ok (.iload 6, 2) := by decide +kernel
theorem dMa_step_235 : decode cMa_step 235 = .ok (.goto 5, 3) := by decide +kernel
theorem dMa_step_238 : decode cMa_step 238 = .ok (.iload 4, 2) := by decide +kernel
theorem dMa_step_240 : decode cMa_step 240 = .ok (.istore 6, 2) := by decide +kernel
theorem dMa_step_242 : decode cMa_step 242 = .ok (.goto 67, 3) := by decide +kernel
theorem dMa_step_245 : decode cMa_step 245 = .ok (.iload 7, 2) := by decide +kernel
theorem dMa_step_247 : decode cMa_step 247 = .ok (.istore 6, 2) := by decide +kernel
theorem dMa_step_249 : decode cMa_step 249 = .ok (.goto 60, 3) := by decide +kernel
theorem dMa_step_252 : decode cMa_step 252 = .ok (.aload_n 0, 1) := by decide +kernel
theorem dMa_step_253 : decode cMa_step 253 = .ok (.getfield 29, 3) := by decide +kernel
theorem dMa_step_256 : decode cMa_step 256 = .ok (.ifCond .ne 8, 3) := by decide +kernel
theorem dMa_step_259 : decode cMa_step 259 = .ok (.iload 7, 2) := by decide +kernel
theorem dMa_step_261 : decode cMa_step 261 = .ok (.goto 5, 3) := by decide +kernel
theorem dMa_step_264 : decode cMa_step 264 = .ok (.iload 6, 2) := by decide +kernel
theorem dMa_step_266 : decode cMa_step 266 = .ok (.istore 6, 2) := by decide +kernel
theorem dMa_step_268 : decode cMa_step 268 = .ok (.goto 41, 3) := by decide +kernel
theorem dMa_step_271 : decode cMa_step 271 = .ok (.aload_n 0, 1) := by decide +kernel
theorem dMa_step_272 : decode cMa_step 272 = .ok (.getfield 29, 3) := by decide +kernel
theorem dMa_step_275 : decode cMa_step 275 = .ok (.ifCond .ge 8, 3) := by decide +kernel
theorem dMa_step_278 : decode cMa_step 278 = .ok (.iload 7, 2) := by decide +kernel
theorem dMa_step_280 : decode cMa_step 280 = .ok (.goto 5, 3) := by decide +kernel
theorem dMa_step_283 : decode cMa_step 283 = .ok (.iload 6, 2) := by decide +kernel
theorem dMa_step_285 : decode cMa_step 285 = .ok (.istore 6, 2) := by decide +kernel
theorem dMa_step_287 : decode cMa_step 287 = .ok (.goto 22, 3) := by decide +kernel
theorem dMa_step_290 : decode cMa_step 290 = .ok (.aload_n 0, 1) := by decide +kernel
theorem dMa_step_291 : decode cMa_step 291 = .ok (.invokevirtual 66, 3) := by decide +kernel
theorem dMa_step_294 : decode cMa_step 294 = .ok (.ifCond .eq 8, 3) := by decide +kernel
theorem dMa_step_297 : decode cMa_step 297 = .ok (.iload 6, 2) := by decide +kernel
theorem dMa_step_299 : decode cMa_step 299 = .ok (.goto 5, 3) := by decide +kernel
theorem dMa_step_302 : decode cMa_step 302 = .ok (.iload 4, 2) := by decide +kernel
theorem dMa_step_304 : decode cMa_step 304 = .ok (.istore 6, 2) := by decide +kernel
theorem dMa_step_306 : decode cMa_step 306 = .ok (.goto 3, 3) := by decide +kernel
theorem dMa_step_309 : decode cMa_step 309 = .ok (.aload_n 0, 1) := by decide +kernel
theorem dMa_step_310 : decode cMa_step 310 = .ok (.iload 6, 2) := by decide +kernel
theorem dMa_step_312 : decode cMa_step 312 = .ok (.putfield 25, 3) := by decide +kernel
theorem dMa_step_315 : decode cMa_step 315 = .ok (.return_, 1) := by decide +kernel
abbrev ww_Ma_cellPlace (h0 h0_cells h0_tree : Nat) (u : ct_Ma) : va_W := [(h0, ce_Ma h0_cells h0_tree u)]
def wp_Ma_cellPlace (post : Int32 → ct_Ma → Prop) (u : ct_Ma) : Prop := post (u.2.2.1 &&& 7) u
set_option maxHeartbeats 4000000 in
set_option maxRecDepth 100000 in
theorem mt_Ma_cellPlace (l : Launch) (dC : Nat → ClassId) (dI : Nat → Nat → Nat) (h0 h0_cells h0_tree : Nat) (sz : Nat) (post : Int32 → ct_Ma → Prop) (u : ct_Ma) (hw : wp_Ma_cellPlace post u) : Met l yMa_cellPlace wsMa_cellPlace ({ frames := 0, cells := 0, slots := 0, locals := 0 }) (kp_P dC dI [.ref h0] sz (ww_Ma_cellPlace h0 h0_cells h0_tree u) []) (va_Qi post (fun u9 => kp_B dC dI (va_A (ww_Ma_cellPlace h0 h0_cells h0_tree u) sz) (ww_Ma_cellPlace h0 h0_cells h0_tree u9) []) (va_A (ww_Ma_cellPlace h0 h0_cells h0_tree u) sz)) 0 0 (va_A (ww_Ma_cellPlace h0 h0_cells h0_tree u) sz) := by
  refine Met.ofW (cc := cMa_cellPlace) (maxL := 1) (ret := (some .int)) (by decide) rfl ?_
  intro p e s m args below meth c s₁ B hml hv
  obtain ⟨rfl, hsz, hP, hK, hD0, hZ⟩ := hv
  have hx := B.exec
  have hb := B.bytes
  have hr := B.returns
  have hq : ∀ w ∈ wz, w.before _ s = true := fun w h => atoms_spec (ws := wsMa_cellPlace) B.pre w (List.mem_cons_of_mem _ h)
  have hown : s.vm.findClass "StepCourt$Machine" = some m.cls := findClass_of_methodNamed B.named
  have hlocks := B.notSynchronized
  subst hsz
  have hD := hD0.self (sz := s.heap.size)
  generalize hAe : va_A (ww_Ma_cellPlace h0 h0_cells h0_tree u) s.heap.size = A at hD ⊢
  have hA : ∀ q : Nat, s.heap.size ≤ q → A q := fun q h => by rw [← hAe]; exact Or.inr h
  have hS : va_S A s.heap s.heap [] := va_S.rf
  have hP : va_P (dC, dI) vwCl [(h0, ce_Ma h0_cells h0_tree u)] s.heap := hP
  have hD : va_D A [(h0, ce_Ma h0_cells h0_tree u)] := hD
  have hl := lv_entry ([.ref h0]) (n := 1) (Nat.le_of_ble_eq_true rfl)
  rw [lg_entry_eq]
  generalize (lg_sl ([.ref h0]) ++ List.replicate (1 - (lg_sl ([.ref h0])).length) Slot.unset).toArray = ls at hl ⊢
  have hl : lv_has ls 1 [(0, .ref h0)] := hl
  skip
  refine lv_aload_n hx hb dMa_cellPlace_0 rfl (lv_at hl 0 rfl) ?_
  refine va_get (D := (dC, dI)) (ci := 4) (v := .int u.2.2.1) (C := "StepCourt$Machine") (T := TMa) (N := 8) hx hb hq inMa hown hK hP 0 rfl rfl 4 (by decide) (hq _ wt_75) (fun _ h9 => h9) rfl dMa_cellPlace_1 ?_
  refine lv_bipush (v := 7) hx hb dMa_cellPlace_4 (by decide) ?_
  refine lv_iand hx hb dMa_cellPlace_6 ?_
  have hP9 := hP.sub (ws' := [(h0, ce_Ma h0_cells h0_tree u)]) [0] rfl
  have hD9 := hD.sub (ws' := [(h0, ce_Ma h0_cells h0_tree u)]) [0] (by decide) rfl
  have hK9 := hK.sub (tys' := []) [] rfl
  exact W.iret (v := (u.2.2.1 &&& 7)) hx hb hr (fun t ht hW => ⟨⟨(u.2.2.1 &&& 7), u, rfl, hw, by rw [ht]; exact hP9, va_K.moved hW.alike hK9, hD9⟩, hS.F ht⟩) hS.2.2 dMa_cellPlace_7
abbrev ww_Ma_receiver (h0 h0_cells h0_tree : Nat) (u : ct_Ma) : va_W := [(h0, ce_Ma h0_cells h0_tree u)]
def wp_Ma_receiver (post : Int32 → ct_Ma → Prop) (u : ct_Ma) : Prop := post (u.2.2.1 &&& 3) u
set_option maxHeartbeats 4000000 in
set_option maxRecDepth 100000 in
theorem mt_Ma_receiver (l : Launch) (dC : Nat → ClassId) (dI : Nat → Nat → Nat) (h0 h0_cells h0_tree : Nat) (sz : Nat) (post : Int32 → ct_Ma → Prop) (u : ct_Ma) (hw : wp_Ma_receiver post u) : Met l yMa_receiver wsMa_receiver ({ frames := 0, cells := 0, slots := 0, locals := 0 }) (kp_P dC dI [.ref h0] sz (ww_Ma_receiver h0 h0_cells h0_tree u) []) (va_Qi post (fun u9 => kp_B dC dI (va_A (ww_Ma_receiver h0 h0_cells h0_tree u) sz) (ww_Ma_receiver h0 h0_cells h0_tree u9) []) (va_A (ww_Ma_receiver h0 h0_cells h0_tree u) sz)) 0 0 (va_A (ww_Ma_receiver h0 h0_cells h0_tree u) sz) := by
  refine Met.ofW (cc := cMa_receiver) (maxL := 1) (ret := (some .int)) (by decide) rfl ?_
  intro p e s m args below meth c s₁ B hml hv
  obtain ⟨rfl, hsz, hP, hK, hD0, hZ⟩ := hv
  have hx := B.exec
  have hb := B.bytes
  have hr := B.returns
  have hq : ∀ w ∈ wz, w.before _ s = true := fun w h => atoms_spec (ws := wsMa_receiver) B.pre w (List.mem_cons_of_mem _ h)
  have hown : s.vm.findClass "StepCourt$Machine" = some m.cls := findClass_of_methodNamed B.named
  have hlocks := B.notSynchronized
  subst hsz
  have hD := hD0.self (sz := s.heap.size)
  generalize hAe : va_A (ww_Ma_receiver h0 h0_cells h0_tree u) s.heap.size = A at hD ⊢
  have hA : ∀ q : Nat, s.heap.size ≤ q → A q := fun q h => by rw [← hAe]; exact Or.inr h
  have hS : va_S A s.heap s.heap [] := va_S.rf
  have hP : va_P (dC, dI) vwCl [(h0, ce_Ma h0_cells h0_tree u)] s.heap := hP
  have hD : va_D A [(h0, ce_Ma h0_cells h0_tree u)] := hD
  have hl := lv_entry ([.ref h0]) (n := 1) (Nat.le_of_ble_eq_true rfl)
  rw [lg_entry_eq]
  generalize (lg_sl ([.ref h0]) ++ List.replicate (1 - (lg_sl ([.ref h0])).length) Slot.unset).toArray = ls at hl ⊢
  have hl : lv_has ls 1 [(0, .ref h0)] := hl
  skip
  refine lv_aload_n hx hb dMa_receiver_0 rfl (lv_at hl 0 rfl) ?_
  refine va_get (D := (dC, dI)) (ci := 4) (v := .int u.2.2.1) (C := "StepCourt$Machine") (T := TMa) (N := 8) hx hb hq inMa hown hK hP 0 rfl rfl 4 (by decide) (hq _ wt_75) (fun _ h9 => h9) rfl dMa_receiver_1 ?_
  refine lv_iconst (v := 3) hx hb dMa_receiver_4 (by decide) ?_
  refine lv_iand hx hb dMa_receiver_5 ?_
  have hP9 := hP.sub (ws' := [(h0, ce_Ma h0_cells h0_tree u)]) [0] rfl
  have hD9 := hD.sub (ws' := [(h0, ce_Ma h0_cells h0_tree u)]) [0] (by decide) rfl
  have hK9 := hK.sub (tys' := []) [] rfl
  exact W.iret (v := (u.2.2.1 &&& 3)) hx hb hr (fun t ht hW => ⟨⟨(u.2.2.1 &&& 3), u, rfl, hw, by rw [ht]; exact hP9, va_K.moved hW.alike hK9, hD9⟩, hS.F ht⟩) hS.2.2 dMa_receiver_6
abbrev ww_Ma_cellOrZero (h0 h0_cells h0_tree : Nat) (c0_cells : ClassId) (u : ct_Ma × (Nat → Int32)) : va_W := [(h0, ce_Ma h0_cells h0_tree u.1), (h0_cells, .inl (c0_cells, 8, .inl u.2))]
def wp_Ma_cellOrZero (post : Int64 → (ct_Ma × (Nat → Int32)) → Prop) (u : ct_Ma × (Nat → Int32)) (k1 : Int64) : Prop := (((lg_cmp k1 0) < 0 → (post 0 (u.1, u.2))) ∧ (¬ (lg_cmp k1 0) < 0 → (((0 ≤ (lg_cmp k1 8) → (post 0 (u.1, u.2))) ∧ (¬ 0 ≤ (lg_cmp k1 8) → (vp_in (k1.toInt32) 8 ∧ (post ((u.2 (k1.toInt32).toNatClampNeg).toInt64) (u.1, u.2))))))))
set_option maxHeartbeats 4000000 in
set_option maxRecDepth 100000 in
theorem mt_Ma_cellOrZero (l : Launch) (dC : Nat → ClassId) (dI : Nat → Nat → Nat) (h0 h0_cells h0_tree : Nat) (c0_cells : ClassId) (sz : Nat) (post : Int64 → (ct_Ma × (Nat → Int32)) → Prop) (u : ct_Ma × (Nat → Int32)) (k1 : Int64) (hw : wp_Ma_cellOrZero post u k1) : Met l yMa_cellOrZero wsMa_cellOrZero ({ frames := 0, cells := 0, slots := 0, locals := 0 }) (kp_P dC dI [.ref h0, .long k1] sz (ww_Ma_cellOrZero h0 h0_cells h0_tree c0_cells u) [(c0_cells, .int)]) (va_Ql post (fun u9 => kp_B dC dI (va_A (ww_Ma_cellOrZero h0 h0_cells h0_tree c0_cells u) sz) (ww_Ma_cellOrZero h0 h0_cells h0_tree c0_cells u9) [(c0_cells, .int)]) (va_A (ww_Ma_cellOrZero h0 h0_cells h0_tree c0_cells u) sz)) 0 0 (va_A (ww_Ma_cellOrZero h0 h0_cells h0_tree c0_cells u) sz) := by
  refine Met.ofW (cc := cMa_cellOrZero) (maxL := 3) (ret := (some .long)) (by decide) rfl ?_
  intro p e s m args below meth c s₁ B hml hv
  obtain ⟨rfl, hsz, hP, hK, hD0, hZ⟩ := hv
  have hx := B.exec
  have hb := B.bytes
  have hr := B.returns
  have hq : ∀ w ∈ wz, w.before _ s = true := fun w h => atoms_spec (ws := wsMa_cellOrZero) B.pre w (List.mem_cons_of_mem _ h)
  have hown : s.vm.findClass "StepCourt$Machine" = some m.cls := findClass_of_methodNamed B.named
  have hlocks := B.notSynchronized
  subst hsz
  have hD := hD0.self (sz := s.heap.size)
  generalize hAe : va_A (ww_Ma_cellOrZero h0 h0_cells h0_tree c0_cells u) s.heap.size = A at hD ⊢
  have hA : ∀ q : Nat, s.heap.size ≤ q → A q := fun q h => by rw [← hAe]; exact Or.inr h
  have hS : va_S A s.heap s.heap [] := va_S.rf
  have hP : va_P (dC, dI) vwCl [(h0, ce_Ma h0_cells h0_tree u.1), (h0_cells, .inl (c0_cells, 8, .inl u.2))] s.heap := hP
  have hD : va_D A [(h0, ce_Ma h0_cells h0_tree u.1), (h0_cells, .inl (c0_cells, 8, .inl u.2))] := hD
  have hl := lv_entry ([.ref h0, .long k1]) (n := 3) (Nat.le_of_ble_eq_true rfl)
  rw [lg_entry_eq]
  generalize (lg_sl ([.ref h0, .long k1]) ++ List.replicate (3 - (lg_sl ([.ref h0, .long k1])).length) Slot.unset).toArray = ls at hl ⊢
  have hl : lv_has ls 3 [(0, .ref h0), (1, .long k1)] := hl
  skip
  refine lv_lload_n hx hb dMa_cellOrZero_0 rfl (lv_at hl 1 rfl) ?_
  refine lv_lconst (v := 0) hx hb dMa_cellOrZero_1 (by decide) ?_
  refine W.lcmp hx hb dMa_cellOrZero_2 ?_
  refine lv_if_lt (tgt := 25) hx hb dMa_cellOrZero_3 (by decide) (fun cc1 => ?_) (fun cc1 => ?_)
  · have hw := hw.1 cc1
    refine lv_lconst (v := 0) hx hb dMa_cellOrZero_25 (by decide) ?_
    have hP9 := hP.sub (ws' := [(h0, ce_Ma h0_cells h0_tree u.1), (h0_cells, .inl (c0_cells, 8, .inl u.2))]) [0, 1] rfl
    have hD9 := hD.sub (ws' := [(h0, ce_Ma h0_cells h0_tree u.1), (h0_cells, .inl (c0_cells, 8, .inl u.2))]) [0, 1] (by decide) rfl
    have hK9 := hK.sub (tys' := [(c0_cells, .int)]) [0] rfl
    exact W.lret (v := 0) hx hb hr (fun t ht hW => ⟨⟨0, (u.1, u.2), rfl, hw, by rw [ht]; exact hP9, va_K.moved hW.alike hK9, hD9⟩, hS.F ht⟩) hS.2.2 dMa_cellOrZero_26
  · have hw := hw.2 cc1
    refine lv_lload_n hx hb dMa_cellOrZero_6 rfl (lv_at hl 1 rfl) ?_
    refine lv_ldc2 (v := 8) hx hb hown (hq _ wt_419) dMa_cellOrZero_7 ?_
    refine W.lcmp hx hb dMa_cellOrZero_10 ?_
    refine lv_if_ge (tgt := 25) hx hb dMa_cellOrZero_11 (by decide) (fun cc2 => ?_) (fun cc2 => ?_)
    · have hw := hw.1 cc2
      refine lv_lconst (v := 0) hx hb dMa_cellOrZero_25 (by decide) ?_
      have hP9 := hP.sub (ws' := [(h0, ce_Ma h0_cells h0_tree u.1), (h0_cells, .inl (c0_cells, 8, .inl u.2))]) [0, 1] rfl
      have hD9 := hD.sub (ws' := [(h0, ce_Ma h0_cells h0_tree u.1), (h0_cells, .inl (c0_cells, 8, .inl u.2))]) [0, 1] (by decide) rfl
      have hK9 := hK.sub (tys' := [(c0_cells, .int)]) [0] rfl
      exact W.lret (v := 0) hx hb hr (fun t ht hW => ⟨⟨0, (u.1, u.2), rfl, hw, by rw [ht]; exact hP9, va_K.moved hW.alike hK9, hD9⟩, hS.F ht⟩) hS.2.2 dMa_cellOrZero_26
    · have hw := hw.2 cc2
      refine lv_aload_n hx hb dMa_cellOrZero_14 rfl (lv_at hl 0 rfl) ?_
      refine va_get (D := (dC, dI)) (ci := 4) (v := .ref h0_cells) (C := "StepCourt$Machine") (T := TMa) (N := 8) hx hb hq inMa hown hK hP 0 rfl rfl 0 (by decide) (hq _ wt_65) (fun _ h9 => h9) rfl dMa_cellOrZero_15 ?_
      refine lv_lload_n hx hb dMa_cellOrZero_18 rfl (lv_at hl 1 rfl) ?_
      refine lv_l2i (v := k1.toInt32) hx hb dMa_cellOrZero_19 rfl ?_
      obtain ⟨hh3, hw⟩ := hw
      refine va_iald hx hb hK hP 1 0 rfl rfl hh3 dMa_cellOrZero_20 ?_
      refine lv_i2l (v := (u.2 (k1.toInt32).toNatClampNeg).toInt64) hx hb dMa_cellOrZero_21 rfl ?_
      refine lv_goto (tgt := 26) hx hb dMa_cellOrZero_22 (by decide) ?_
      have hP9 := hP.sub (ws' := [(h0, ce_Ma h0_cells h0_tree u.1), (h0_cells, .inl (c0_cells, 8, .inl u.2))]) [0, 1] rfl
      have hD9 := hD.sub (ws' := [(h0, ce_Ma h0_cells h0_tree u.1), (h0_cells, .inl (c0_cells, 8, .inl u.2))]) [0, 1] (by decide) rfl
      have hK9 := hK.sub (tys' := [(c0_cells, .int)]) [0] rfl
      exact W.lret (v := (u.2 (k1.toInt32).toNatClampNeg).toInt64) hx hb hr (fun t ht hW => ⟨⟨(u.2 (k1.toInt32).toNatClampNeg).toInt64, (u.1, u.2), rfl, hw, by rw [ht]; exact hP9, va_K.moved hW.alike hK9, hD9⟩, hS.F ht⟩) hS.2.2 dMa_cellOrZero_26
abbrev ww_Ma_copyFrom (h0 h0_cells h1 h1_cells h0_tree h1_tree : Nat) (c0_cells c1_cells : ClassId) (u : ct_Ma × (Nat → Int32) × ct_Ma × (Nat → Int32)) : va_W := [(h0, ce_Ma h0_cells h0_tree u.1), (h0_cells, .inl (c0_cells, 8, .inl u.2.1)), (h1, ce_Ma h1_cells h1_tree u.2.2.1), (h1_cells, .inl (c1_cells, 8, .inl u.2.2.2))]
def wp_Ma_copyFrom (post : (ct_Ma × (Nat → Int32) × ct_Ma × (Nat → Int32)) → Prop) (u : ct_Ma × (Nat → Int32) × ct_Ma × (Nat → Int32)) : Prop := post ((u.2.2.1.1, u.2.2.1.2.1, u.2.2.1.2.2.1, u.2.2.1.2.2.2.1, u.2.2.1.2.2.2.2.1, u.2.2.1.2.2.2.2.2), (va_cpy u.2.2.2 u.2.1 0 0 8), u.2.2.1, u.2.2.2)
set_option maxHeartbeats 4000000 in
set_option maxRecDepth 100000 in
theorem mt_Ma_copyFrom (l : Launch) (dC : Nat → ClassId) (dI : Nat → Nat → Nat) (h0 h0_cells h1 h1_cells h0_tree h1_tree : Nat) (c0_cells c1_cells : ClassId) (sz : Nat) (post : (ct_Ma × (Nat → Int32) × ct_Ma × (Nat → Int32)) → Prop) (u : ct_Ma × (Nat → Int32) × ct_Ma × (Nat → Int32)) (hw : wp_Ma_copyFrom post u) : Met l yMa_copyFrom wsMa_copyFrom ({ frames := 1, cells := 0, slots := 0, locals := 18 }) (kp_P dC dI [.ref h0, .ref h1] sz (ww_Ma_copyFrom h0 h0_cells h1 h1_cells h0_tree h1_tree c0_cells c1_cells u) [(c0_cells, .int), (c1_cells, .int)]) (va_Qv post (fun u9 => kp_B dC dI (va_A (ww_Ma_copyFrom h0 h0_cells h1 h1_cells h0_tree h1_tree c0_cells c1_cells u) sz) (ww_Ma_copyFrom h0 h0_cells h1 h1_cells h0_tree h1_tree c0_cells c1_cells u9) [(c0_cells, .int), (c1_cells, .int)]) (va_A (ww_Ma_copyFrom h0 h0_cells h1 h1_cells h0_tree h1_tree c0_cells c1_cells u) sz)) 0 0 (va_A (ww_Ma_copyFrom h0 h0_cells h1 h1_cells h0_tree h1_tree c0_cells c1_cells u) sz) := by
  refine Met.ofW (cc := cMa_copyFrom) (maxL := 2) (ret := none) (by decide) rfl ?_
  intro p e s m args below meth c s₁ B hml hv
  obtain ⟨rfl, hsz, hP, hK, hD0, hZ⟩ := hv
  have hx := B.exec
  have hb := B.bytes
  have hr := B.returns
  have hq : ∀ w ∈ wz, w.before _ s = true := fun w h => atoms_spec (ws := wsMa_copyFrom) B.pre w (List.mem_cons_of_mem _ h)
  have hown : s.vm.findClass "StepCourt$Machine" = some m.cls := findClass_of_methodNamed B.named
  have hlocks := B.notSynchronized
  subst hsz
  have hD := hD0.self (sz := s.heap.size)
  generalize hAe : va_A (ww_Ma_copyFrom h0 h0_cells h1 h1_cells h0_tree h1_tree c0_cells c1_cells u) s.heap.size = A at hD ⊢
  have hA : ∀ q : Nat, s.heap.size ≤ q → A q := fun q h => by rw [← hAe]; exact Or.inr h
  have hS : va_S A s.heap s.heap [] := va_S.rf
  have hP : va_P (dC, dI) vwCl [(h0, ce_Ma h0_cells h0_tree u.1), (h0_cells, .inl (c0_cells, 8, .inl u.2.1)), (h1, ce_Ma h1_cells h1_tree u.2.2.1), (h1_cells, .inl (c1_cells, 8, .inl u.2.2.2))] s.heap := hP
  have hD : va_D A [(h0, ce_Ma h0_cells h0_tree u.1), (h0_cells, .inl (c0_cells, 8, .inl u.2.1)), (h1, ce_Ma h1_cells h1_tree u.2.2.1), (h1_cells, .inl (c1_cells, 8, .inl u.2.2.2))] := hD
  have hl := lv_entry ([.ref h0, .ref h1]) (n := 2) (Nat.le_of_ble_eq_true rfl)
  rw [lg_entry_eq]
  generalize (lg_sl ([.ref h0, .ref h1]) ++ List.replicate (2 - (lg_sl ([.ref h0, .ref h1])).length) Slot.unset).toArray = ls at hl ⊢
  have hl : lv_has ls 2 [(0, .ref h0), (1, .ref h1)] := hl
  skip
  refine lv_aload_n hx hb dMa_copyFrom_0 rfl (lv_at hl 1 rfl) ?_
  refine va_get (D := (dC, dI)) (ci := 4) (v := .ref h1_cells) (C := "StepCourt$Machine") (T := TMa) (N := 8) hx hb hq inMa hown hK hP 2 rfl rfl 0 (by decide) (hq _ wt_65) (fun _ h9 => h9) rfl dMa_copyFrom_1 ?_
  refine lv_iconst (v := 0) hx hb dMa_copyFrom_4 (by decide) ?_
  refine lv_aload_n hx hb dMa_copyFrom_5 rfl (lv_at hl 0 rfl) ?_
  refine va_get (D := (dC, dI)) (ci := 4) (v := .ref h0_cells) (C := "StepCourt$Machine") (T := TMa) (N := 8) hx hb hq inMa hown hK hP 0 rfl rfl 0 (by decide) (hq _ wt_65) (fun _ h9 => h9) rfl dMa_copyFrom_6 ?_
  refine lv_iconst (v := 0) hx hb dMa_copyFrom_9 (by decide) ?_
  refine lv_bipush (v := 8) hx hb dMa_copyFrom_10 (by decide) ?_
  refine va_copyi (ty := .int) (sp := 0) (dp := 0) (n := 8) (rest := []) hx hb (by rw [hml]; exact hl.1.symm) hown (hq _ wt_403) (hq _ wt_405) (hq _ wt_404) (hq _ wt_18) hK hP hD hS 3 1 1 0 rfl rfl rfl rfl (by decide) (by decide) (by decide) (by decide) (by decide) (by decide) (fun _ _ => rfl) (Nat.le_of_ble_eq_true rfl) (Nat.le_of_ble_eq_true rfl) dMa_copyFrom_12 (fun H locs hP hD hS => ?_)
  have hP : va_P (dC, dI) vwCl [(h0, ce_Ma h0_cells h0_tree u.1), (h0_cells, .inl (c0_cells, 8, .inl (va_cpy u.2.2.2 u.2.1 0 0 8))), (h1, ce_Ma h1_cells h1_tree u.2.2.1), (h1_cells, .inl (c1_cells, 8, .inl u.2.2.2))] H := hP
  have hD : va_D A [(h0, ce_Ma h0_cells h0_tree u.1), (h0_cells, .inl (c0_cells, 8, .inl (va_cpy u.2.2.2 u.2.1 0 0 8))), (h1, ce_Ma h1_cells h1_tree u.2.2.1), (h1_cells, .inl (c1_cells, 8, .inl u.2.2.2))] := hD
  refine lv_aload_n hx hb dMa_copyFrom_15 rfl (lv_at hl 0 rfl) ?_
  refine lv_aload_n hx hb dMa_copyFrom_16 rfl (lv_at hl 1 rfl) ?_
  refine va_get (D := (dC, dI)) (ci := 4) (v := .int u.2.2.1.1) (C := "StepCourt$Machine") (T := TMa) (N := 8) hx hb hq inMa hown hK hP 2 rfl rfl 2 (by decide) (hq _ wt_69) (fun _ h9 => h9) rfl dMa_copyFrom_17 ?_
  refine va_put (D := (dC, dI)) (ci := 4) (v := .int u.2.2.1.1) (ty := .int) (C := "StepCourt$Machine") (T := TMa) (N := 8) hx hb hq inMa tyMa tyMa_ok nmMa hown hK hP hD hS 0 rfl rfl 2 (by decide) (hq _ wt_69) (fun _ h9 => h9) rfl (by decide +kernel) rfl rfl (Nat.le_of_ble_eq_true rfl) dMa_copyFrom_20 (fun H locs hP hD hS => ?_)
  have hP : va_P (dC, dI) vwCl [(h0, ce_Ma h0_cells h0_tree (u.2.2.1.1, u.1.2.1, u.1.2.2.1, u.1.2.2.2.1, u.1.2.2.2.2.1, u.1.2.2.2.2.2)), (h0_cells, .inl (c0_cells, 8, .inl (va_cpy u.2.2.2 u.2.1 0 0 8))), (h1, ce_Ma h1_cells h1_tree u.2.2.1), (h1_cells, .inl (c1_cells, 8, .inl u.2.2.2))] H := hP
  have hD : va_D A [(h0, ce_Ma h0_cells h0_tree (u.2.2.1.1, u.1.2.1, u.1.2.2.1, u.1.2.2.2.1, u.1.2.2.2.2.1, u.1.2.2.2.2.2)), (h0_cells, .inl (c0_cells, 8, .inl (va_cpy u.2.2.2 u.2.1 0 0 8))), (h1, ce_Ma h1_cells h1_tree u.2.2.1), (h1_cells, .inl (c1_cells, 8, .inl u.2.2.2))] := hD
  refine lv_aload_n hx hb dMa_copyFrom_23 rfl (lv_at hl 0 rfl) ?_
  refine lv_aload_n hx hb dMa_copyFrom_24 rfl (lv_at hl 1 rfl) ?_
  refine va_get (D := (dC, dI)) (ci := 4) (v := .int u.2.2.1.2.1) (C := "StepCourt$Machine") (T := TMa) (N := 8) hx hb hq inMa hown hK hP 2 rfl rfl 3 (by decide) (hq _ wt_72) (fun _ h9 => h9) rfl dMa_copyFrom_25 ?_
  refine va_put (D := (dC, dI)) (ci := 4) (v := .int u.2.2.1.2.1) (ty := .int) (C := "StepCourt$Machine") (T := TMa) (N := 8) hx hb hq inMa tyMa tyMa_ok nmMa hown hK hP hD hS 0 rfl rfl 3 (by decide) (hq _ wt_72) (fun _ h9 => h9) rfl (by decide +kernel) rfl rfl (Nat.le_of_ble_eq_true rfl) dMa_copyFrom_28 (fun H locs hP hD hS => ?_)
  have hP : va_P (dC, dI) vwCl [(h0, ce_Ma h0_cells h0_tree (u.2.2.1.1, u.2.2.1.2.1, u.1.2.2.1, u.1.2.2.2.1, u.1.2.2.2.2.1, u.1.2.2.2.2.2)), (h0_cells, .inl (c0_cells, 8, .inl (va_cpy u.2.2.2 u.2.1 0 0 8))), (h1, ce_Ma h1_cells h1_tree u.2.2.1), (h1_cells, .inl (c1_cells, 8, .inl u.2.2.2))] H := hP
  have hD : va_D A [(h0, ce_Ma h0_cells h0_tree (u.2.2.1.1, u.2.2.1.2.1, u.1.2.2.1, u.1.2.2.2.1, u.1.2.2.2.2.1, u.1.2.2.2.2.2)), (h0_cells, .inl (c0_cells, 8, .inl (va_cpy u.2.2.2 u.2.1 0 0 8))), (h1, ce_Ma h1_cells h1_tree u.2.2.1), (h1_cells, .inl (c1_cells, 8, .inl u.2.2.2))] := hD
  refine lv_aload_n hx hb dMa_copyFrom_31 rfl (lv_at hl 0 rfl) ?_
  refine lv_aload_n hx hb dMa_copyFrom_32 rfl (lv_at hl 1 rfl) ?_
  refine va_get (D := (dC, dI)) (ci := 4) (v := .int u.2.2.1.2.2.1) (C := "StepCourt$Machine") (T := TMa) (N := 8) hx hb hq inMa hown hK hP 2 rfl rfl 4 (by decide) (hq _ wt_75) (fun _ h9 => h9) rfl dMa_copyFrom_33 ?_
  refine va_put (D := (dC, dI)) (ci := 4) (v := .int u.2.2.1.2.2.1) (ty := .int) (C := "StepCourt$Machine") (T := TMa) (N := 8) hx hb hq inMa tyMa tyMa_ok nmMa hown hK hP hD hS 0 rfl rfl 4 (by decide) (hq _ wt_75) (fun _ h9 => h9) rfl (by decide +kernel) rfl rfl (Nat.le_of_ble_eq_true rfl) dMa_copyFrom_36 (fun H locs hP hD hS => ?_)
  have hP : va_P (dC, dI) vwCl [(h0, ce_Ma h0_cells h0_tree (u.2.2.1.1, u.2.2.1.2.1, u.2.2.1.2.2.1, u.1.2.2.2.1, u.1.2.2.2.2.1, u.1.2.2.2.2.2)), (h0_cells, .inl (c0_cells, 8, .inl (va_cpy u.2.2.2 u.2.1 0 0 8))), (h1, ce_Ma h1_cells h1_tree u.2.2.1), (h1_cells, .inl (c1_cells, 8, .inl u.2.2.2))] H := hP
  have hD : va_D A [(h0, ce_Ma h0_cells h0_tree (u.2.2.1.1, u.2.2.1.2.1, u.2.2.1.2.2.1, u.1.2.2.2.1, u.1.2.2.2.2.1, u.1.2.2.2.2.2)), (h0_cells, .inl (c0_cells, 8, .inl (va_cpy u.2.2.2 u.2.1 0 0 8))), (h1, ce_Ma h1_cells h1_tree u.2.2.1), (h1_cells, .inl (c1_cells, 8, .inl u.2.2.2))] := hD
  refine lv_aload_n hx hb dMa_copyFrom_39 rfl (lv_at hl 0 rfl) ?_
  refine lv_aload_n hx hb dMa_copyFrom_40 rfl (lv_at hl 1 rfl) ?_
  refine va_get (D := (dC, dI)) (ci := 4) (v := .int u.2.2.1.2.2.2.1) (C := "StepCourt$Machine") (T := TMa) (N := 8) hx hb hq inMa hown hK hP 2 rfl rfl 5 (by decide) (hq _ wt_78) (fun _ h9 => h9) rfl dMa_copyFrom_41 ?_
  refine va_put (D := (dC, dI)) (ci := 4) (v := .int u.2.2.1.2.2.2.1) (ty := .int) (C := "StepCourt$Machine") (T := TMa) (N := 8) hx hb hq inMa tyMa tyMa_ok nmMa hown hK hP hD hS 0 rfl rfl 5 (by decide) (hq _ wt_78) (fun _ h9 => h9) rfl (by decide +kernel) rfl rfl (Nat.le_of_ble_eq_true rfl) dMa_copyFrom_44 (fun H locs hP hD hS => ?_)
  have hP : va_P (dC, dI) vwCl [(h0, ce_Ma h0_cells h0_tree (u.2.2.1.1, u.2.2.1.2.1, u.2.2.1.2.2.1, u.2.2.1.2.2.2.1, u.1.2.2.2.2.1, u.1.2.2.2.2.2)), (h0_cells, .inl (c0_cells, 8, .inl (va_cpy u.2.2.2 u.2.1 0 0 8))), (h1, ce_Ma h1_cells h1_tree u.2.2.1), (h1_cells, .inl (c1_cells, 8, .inl u.2.2.2))] H := hP
  have hD : va_D A [(h0, ce_Ma h0_cells h0_tree (u.2.2.1.1, u.2.2.1.2.1, u.2.2.1.2.2.1, u.2.2.1.2.2.2.1, u.1.2.2.2.2.1, u.1.2.2.2.2.2)), (h0_cells, .inl (c0_cells, 8, .inl (va_cpy u.2.2.2 u.2.1 0 0 8))), (h1, ce_Ma h1_cells h1_tree u.2.2.1), (h1_cells, .inl (c1_cells, 8, .inl u.2.2.2))] := hD
  refine lv_aload_n hx hb dMa_copyFrom_47 rfl (lv_at hl 0 rfl) ?_
  refine lv_aload_n hx hb dMa_copyFrom_48 rfl (lv_at hl 1 rfl) ?_
  refine va_get (D := (dC, dI)) (ci := 4) (v := .int u.2.2.1.2.2.2.2.1) (C := "StepCourt$Machine") (T := TMa) (N := 8) hx hb hq inMa hown hK hP 2 rfl rfl 6 (by decide) (hq _ wt_81) (fun _ h9 => h9) rfl dMa_copyFrom_49 ?_
  refine va_put (D := (dC, dI)) (ci := 4) (v := .int u.2.2.1.2.2.2.2.1) (ty := .int) (C := "StepCourt$Machine") (T := TMa) (N := 8) hx hb hq inMa tyMa tyMa_ok nmMa hown hK hP hD hS 0 rfl rfl 6 (by decide) (hq _ wt_81) (fun _ h9 => h9) rfl (by decide +kernel) rfl rfl (Nat.le_of_ble_eq_true rfl) dMa_copyFrom_52 (fun H locs hP hD hS => ?_)
  have hP : va_P (dC, dI) vwCl [(h0, ce_Ma h0_cells h0_tree (u.2.2.1.1, u.2.2.1.2.1, u.2.2.1.2.2.1, u.2.2.1.2.2.2.1, u.2.2.1.2.2.2.2.1, u.1.2.2.2.2.2)), (h0_cells, .inl (c0_cells, 8, .inl (va_cpy u.2.2.2 u.2.1 0 0 8))), (h1, ce_Ma h1_cells h1_tree u.2.2.1), (h1_cells, .inl (c1_cells, 8, .inl u.2.2.2))] H := hP
  have hD : va_D A [(h0, ce_Ma h0_cells h0_tree (u.2.2.1.1, u.2.2.1.2.1, u.2.2.1.2.2.1, u.2.2.1.2.2.2.1, u.2.2.1.2.2.2.2.1, u.1.2.2.2.2.2)), (h0_cells, .inl (c0_cells, 8, .inl (va_cpy u.2.2.2 u.2.1 0 0 8))), (h1, ce_Ma h1_cells h1_tree u.2.2.1), (h1_cells, .inl (c1_cells, 8, .inl u.2.2.2))] := hD
  refine lv_aload_n hx hb dMa_copyFrom_55 rfl (lv_at hl 0 rfl) ?_
  refine lv_aload_n hx hb dMa_copyFrom_56 rfl (lv_at hl 1 rfl) ?_
  refine va_get (D := (dC, dI)) (ci := 4) (v := .long u.2.2.1.2.2.2.2.2) (C := "StepCourt$Machine") (T := TMa) (N := 8) hx hb hq inMa hown hK hP 2 rfl rfl 7 (by decide) (hq _ wt_84) (fun _ h9 => h9) rfl dMa_copyFrom_57 ?_
  refine va_put (D := (dC, dI)) (ci := 4) (v := .long u.2.2.1.2.2.2.2.2) (ty := .long) (C := "StepCourt$Machine") (T := TMa) (N := 8) hx hb hq inMa tyMa tyMa_ok nmMa hown hK hP hD hS 0 rfl rfl 7 (by decide) (hq _ wt_84) (fun _ h9 => h9) rfl (by decide +kernel) rfl rfl (Nat.le_of_ble_eq_true rfl) dMa_copyFrom_60 (fun H locs hP hD hS => ?_)
  have hP : va_P (dC, dI) vwCl [(h0, ce_Ma h0_cells h0_tree (u.2.2.1.1, u.2.2.1.2.1, u.2.2.1.2.2.1, u.2.2.1.2.2.2.1, u.2.2.1.2.2.2.2.1, u.2.2.1.2.2.2.2.2)), (h0_cells, .inl (c0_cells, 8, .inl (va_cpy u.2.2.2 u.2.1 0 0 8))), (h1, ce_Ma h1_cells h1_tree u.2.2.1), (h1_cells, .inl (c1_cells, 8, .inl u.2.2.2))] H := hP
  have hD : va_D A [(h0, ce_Ma h0_cells h0_tree (u.2.2.1.1, u.2.2.1.2.1, u.2.2.1.2.2.1, u.2.2.1.2.2.2.1, u.2.2.1.2.2.2.2.1, u.2.2.1.2.2.2.2.2)), (h0_cells, .inl (c0_cells, 8, .inl (va_cpy u.2.2.2 u.2.1 0 0 8))), (h1, ce_Ma h1_cells h1_tree u.2.2.1), (h1_cells, .inl (c1_cells, 8, .inl u.2.2.2))] := hD
  have hP9 := hP.sub (ws' := [(h0, ce_Ma h0_cells h0_tree (u.2.2.1.1, u.2.2.1.2.1, u.2.2.1.2.2.1, u.2.2.1.2.2.2.1, u.2.2.1.2.2.2.2.1, u.2.2.1.2.2.2.2.2)), (h0_cells, .inl (c0_cells, 8, .inl (va_cpy u.2.2.2 u.2.1 0 0 8))), (h1, ce_Ma h1_cells h1_tree u.2.2.1), (h1_cells, .inl (c1_cells, 8, .inl u.2.2.2))]) [0, 1, 2, 3] rfl
  have hD9 := hD.sub (ws' := [(h0, ce_Ma h0_cells h0_tree (u.2.2.1.1, u.2.2.1.2.1, u.2.2.1.2.2.1, u.2.2.1.2.2.2.1, u.2.2.1.2.2.2.2.1, u.2.2.1.2.2.2.2.2)), (h0_cells, .inl (c0_cells, 8, .inl (va_cpy u.2.2.2 u.2.1 0 0 8))), (h1, ce_Ma h1_cells h1_tree u.2.2.1), (h1_cells, .inl (c1_cells, 8, .inl u.2.2.2))]) [0, 1, 2, 3] (by decide) rfl
  have hK9 := hK.sub (tys' := [(c0_cells, .int), (c1_cells, .int)]) [0, 1] rfl
  exact W.vret hx hb hr (fun t ht hW => ⟨⟨((u.2.2.1.1, u.2.2.1.2.1, u.2.2.1.2.2.1, u.2.2.1.2.2.2.1, u.2.2.1.2.2.2.2.1, u.2.2.1.2.2.2.2.2), (va_cpy u.2.2.2 u.2.1 0 0 8), u.2.2.1, u.2.2.2), rfl, hw, by rw [ht]; exact hP9, va_K.moved hW.alike hK9, hD9⟩, hS.F ht⟩) hS.2.2 dMa_copyFrom_63
abbrev ww_Ma_exchange (h0 h0_cells h0_tree : Nat) (u : ct_Ma) : va_W := [(h0, ce_Ma h0_cells h0_tree u)]
def wp_Ma_exchange (post : ct_Ma → Prop) (u : ct_Ma) : Prop := post (u.1, u.2.2.1, u.2.1, u.2.2.2.1, u.2.2.2.2.1, u.2.2.2.2.2)
set_option maxHeartbeats 4000000 in
set_option maxRecDepth 100000 in
theorem mt_Ma_exchange (l : Launch) (dC : Nat → ClassId) (dI : Nat → Nat → Nat) (h0 h0_cells h0_tree : Nat) (sz : Nat) (post : ct_Ma → Prop) (u : ct_Ma) (hw : wp_Ma_exchange post u) : Met l yMa_exchange wsMa_exchange ({ frames := 0, cells := 0, slots := 0, locals := 0 }) (kp_P dC dI [.ref h0] sz (ww_Ma_exchange h0 h0_cells h0_tree u) []) (va_Qv post (fun u9 => kp_B dC dI (va_A (ww_Ma_exchange h0 h0_cells h0_tree u) sz) (ww_Ma_exchange h0 h0_cells h0_tree u9) []) (va_A (ww_Ma_exchange h0 h0_cells h0_tree u) sz)) 0 0 (va_A (ww_Ma_exchange h0 h0_cells h0_tree u) sz) := by
  refine Met.ofW (cc := cMa_exchange) (maxL := 2) (ret := none) (by decide) rfl ?_
  intro p e s m args below meth c s₁ B hml hv
  obtain ⟨rfl, hsz, hP, hK, hD0, hZ⟩ := hv
  have hx := B.exec
  have hb := B.bytes
  have hr := B.returns
  have hq : ∀ w ∈ wz, w.before _ s = true := fun w h => atoms_spec (ws := wsMa_exchange) B.pre w (List.mem_cons_of_mem _ h)
  have hown : s.vm.findClass "StepCourt$Machine" = some m.cls := findClass_of_methodNamed B.named
  have hlocks := B.notSynchronized
  subst hsz
  have hD := hD0.self (sz := s.heap.size)
  generalize hAe : va_A (ww_Ma_exchange h0 h0_cells h0_tree u) s.heap.size = A at hD ⊢
  have hA : ∀ q : Nat, s.heap.size ≤ q → A q := fun q h => by rw [← hAe]; exact Or.inr h
  have hS : va_S A s.heap s.heap [] := va_S.rf
  have hP : va_P (dC, dI) vwCl [(h0, ce_Ma h0_cells h0_tree u)] s.heap := hP
  have hD : va_D A [(h0, ce_Ma h0_cells h0_tree u)] := hD
  have hl := lv_entry ([.ref h0]) (n := 2) (Nat.le_of_ble_eq_true rfl)
  rw [lg_entry_eq]
  generalize (lg_sl ([.ref h0]) ++ List.replicate (2 - (lg_sl ([.ref h0])).length) Slot.unset).toArray = ls at hl ⊢
  have hl : lv_has ls 2 [(0, .ref h0)] := hl
  skip
  refine lv_aload_n hx hb dMa_exchange_0 rfl (lv_at hl 0 rfl) ?_
  refine va_get (D := (dC, dI)) (ci := 4) (v := .int u.2.1) (C := "StepCourt$Machine") (T := TMa) (N := 8) hx hb hq inMa hown hK hP 0 rfl rfl 3 (by decide) (hq _ wt_72) (fun _ h9 => h9) rfl dMa_exchange_1 ?_
  refine lv_istore_n (lv' := [(1, .int u.2.1), (0, .ref h0)]) hx hb dMa_exchange_4 rfl hl (by decide) rfl (fun ls hl => ?_)
  refine lv_aload_n hx hb dMa_exchange_5 rfl (lv_at hl 1 rfl) ?_
  refine lv_aload_n hx hb dMa_exchange_6 rfl (lv_at hl 1 rfl) ?_
  refine va_get (D := (dC, dI)) (ci := 4) (v := .int u.2.2.1) (C := "StepCourt$Machine") (T := TMa) (N := 8) hx hb hq inMa hown hK hP 0 rfl rfl 4 (by decide) (hq _ wt_75) (fun _ h9 => h9) rfl dMa_exchange_7 ?_
  refine va_put (D := (dC, dI)) (ci := 4) (v := .int u.2.2.1) (ty := .int) (C := "StepCourt$Machine") (T := TMa) (N := 8) hx hb hq inMa tyMa tyMa_ok nmMa hown hK hP hD hS 0 rfl rfl 3 (by decide) (hq _ wt_72) (fun _ h9 => h9) rfl (by decide +kernel) rfl rfl (Nat.le_of_ble_eq_true rfl) dMa_exchange_10 (fun H locs hP hD hS => ?_)
  have hP : va_P (dC, dI) vwCl [(h0, ce_Ma h0_cells h0_tree (u.1, u.2.2.1, u.2.2.1, u.2.2.2.1, u.2.2.2.2.1, u.2.2.2.2.2))] H := hP
  have hD : va_D A [(h0, ce_Ma h0_cells h0_tree (u.1, u.2.2.1, u.2.2.1, u.2.2.2.1, u.2.2.2.2.1, u.2.2.2.2.2))] := hD
  refine lv_aload_n hx hb dMa_exchange_13 rfl (lv_at hl 1 rfl) ?_
  refine lv_iload_n hx hb dMa_exchange_14 rfl (lv_at hl 0 rfl) ?_
  refine va_put (D := (dC, dI)) (ci := 4) (v := .int u.2.1) (ty := .int) (C := "StepCourt$Machine") (T := TMa) (N := 8) hx hb hq inMa tyMa tyMa_ok nmMa hown hK hP hD hS 0 rfl rfl 4 (by decide) (hq _ wt_75) (fun _ h9 => h9) rfl (by decide +kernel) rfl rfl (Nat.le_of_ble_eq_true rfl) dMa_exchange_15 (fun H locs hP hD hS => ?_)
  have hP : va_P (dC, dI) vwCl [(h0, ce_Ma h0_cells h0_tree (u.1, u.2.2.1, u.2.1, u.2.2.2.1, u.2.2.2.2.1, u.2.2.2.2.2))] H := hP
  have hD : va_D A [(h0, ce_Ma h0_cells h0_tree (u.1, u.2.2.1, u.2.1, u.2.2.2.1, u.2.2.2.2.1, u.2.2.2.2.2))] := hD
  have hP9 := hP.sub (ws' := [(h0, ce_Ma h0_cells h0_tree (u.1, u.2.2.1, u.2.1, u.2.2.2.1, u.2.2.2.2.1, u.2.2.2.2.2))]) [0] rfl
  have hD9 := hD.sub (ws' := [(h0, ce_Ma h0_cells h0_tree (u.1, u.2.2.1, u.2.1, u.2.2.2.1, u.2.2.2.2.1, u.2.2.2.2.2))]) [0] (by decide) rfl
  have hK9 := hK.sub (tys' := []) [] rfl
  exact W.vret hx hb hr (fun t ht hW => ⟨⟨(u.1, u.2.2.1, u.2.1, u.2.2.2.1, u.2.2.2.2.1, u.2.2.2.2.2), rfl, hw, by rw [ht]; exact hP9, va_K.moved hW.alike hK9, hD9⟩, hS.F ht⟩) hS.2.2 dMa_exchange_18
abbrev ww_In_room (h0 h0_words : Nat) (u : ct_In) : va_W := [(h0, ce_In h0_words u)]
def wp_In_room (post : Int32 → ct_In → Prop) (u : ct_In) : Prop := post (60 - u) u
set_option maxHeartbeats 4000000 in
set_option maxRecDepth 100000 in
theorem mt_In_room (l : Launch) (dC : Nat → ClassId) (dI : Nat → Nat → Nat) (h0 h0_words : Nat) (sz : Nat) (post : Int32 → ct_In → Prop) (u : ct_In) (hw : wp_In_room post u) : Met l yIn_room wsIn_room ({ frames := 0, cells := 0, slots := 0, locals := 0 }) (kp_P dC dI [.ref h0] sz (ww_In_room h0 h0_words u) []) (va_Qi post (fun u9 => kp_B dC dI (va_A (ww_In_room h0 h0_words u) sz) (ww_In_room h0 h0_words u9) []) (va_A (ww_In_room h0 h0_words u) sz)) 0 0 (va_A (ww_In_room h0 h0_words u) sz) := by
  refine Met.ofW (cc := cIn_room) (maxL := 1) (ret := (some .int)) (by decide) rfl ?_
  intro p e s m args below meth c s₁ B hml hv
  obtain ⟨rfl, hsz, hP, hK, hD0, hZ⟩ := hv
  have hx := B.exec
  have hb := B.bytes
  have hr := B.returns
  have hq : ∀ w ∈ wz, w.before _ s = true := fun w h => atoms_spec (ws := wsIn_room) B.pre w (List.mem_cons_of_mem _ h)
  have hown : s.vm.findClass "StepCourt$Inbox" = some m.cls := findClass_of_methodNamed B.named
  have hlocks := B.notSynchronized
  subst hsz
  have hD := hD0.self (sz := s.heap.size)
  generalize hAe : va_A (ww_In_room h0 h0_words u) s.heap.size = A at hD ⊢
  have hA : ∀ q : Nat, s.heap.size ≤ q → A q := fun q h => by rw [← hAe]; exact Or.inr h
  have hS : va_S A s.heap s.heap [] := va_S.rf
  have hP : va_P (dC, dI) vwCl [(h0, ce_In h0_words u)] s.heap := hP
  have hD : va_D A [(h0, ce_In h0_words u)] := hD
  have hl := lv_entry ([.ref h0]) (n := 1) (Nat.le_of_ble_eq_true rfl)
  rw [lg_entry_eq]
  generalize (lg_sl ([.ref h0]) ++ List.replicate (1 - (lg_sl ([.ref h0])).length) Slot.unset).toArray = ls at hl ⊢
  have hl : lv_has ls 1 [(0, .ref h0)] := hl
  skip
  refine lv_bipush (v := 60) hx hb dIn_room_0 (by decide) ?_
  refine lv_aload_n hx hb dIn_room_2 rfl (lv_at hl 0 rfl) ?_
  refine va_get (D := (dC, dI)) (ci := 3) (v := .int u) (C := "StepCourt$Inbox") (T := TIn) (N := 2) hx hb hq inIn hown hK hP 0 rfl rfl 1 (by decide) (hq _ wt_52) (fun _ h9 => h9) rfl dIn_room_3 ?_
  refine lv_isub hx hb dIn_room_6 ?_
  have hP9 := hP.sub (ws' := [(h0, ce_In h0_words u)]) [0] rfl
  have hD9 := hD.sub (ws' := [(h0, ce_In h0_words u)]) [0] (by decide) rfl
  have hK9 := hK.sub (tys' := []) [] rfl
  exact W.iret (v := (60 - u)) hx hb hr (fun t ht hW => ⟨⟨(60 - u), u, rfl, hw, by rw [ht]; exact hP9, va_K.moved hW.alike hK9, hD9⟩, hS.F ht⟩) hS.2.2 dIn_room_7
abbrev ww_In_add (h0 h0_words : Nat) (c0_words : ClassId) (u : ct_In × (Nat → Int32)) : va_W := [(h0, ce_In h0_words u.1), (h0_words, .inl (c0_words, 60, .inl u.2))]
def wp_In_add (post : (ct_In × (Nat → Int32)) → Prop) (u : ct_In × (Nat → Int32)) (k1 : Int32) : Prop := ((60 ≤ u.1 → (post (u.1, u.2))) ∧ (¬ 60 ≤ u.1 → (vp_in u.1 60 ∧ (∀ f3 : Int32, f3 = (u.1 + 1) → (post (f3, (upd u.2 u.1.toNatClampNeg k1)))))))
set_option maxHeartbeats 4000000 in
set_option maxRecDepth 100000 in
theorem mt_In_add (l : Launch) (dC : Nat → ClassId) (dI : Nat → Nat → Nat) (h0 h0_words : Nat) (c0_words : ClassId) (sz : Nat) (post : (ct_In × (Nat → Int32)) → Prop) (u : ct_In × (Nat → Int32)) (k1 : Int32) (hw : wp_In_add post u k1) : Met l yIn_add wsIn_add ({ frames := 0, cells := 0, slots := 0, locals := 0 }) (kp_P dC dI [.ref h0, .int k1] sz (ww_In_add h0 h0_words c0_words u) [(c0_words, .int)]) (va_Qv post (fun u9 => kp_B dC dI (va_A (ww_In_add h0 h0_words c0_words u) sz) (ww_In_add h0 h0_words c0_words u9) [(c0_words, .int)]) (va_A (ww_In_add h0 h0_words c0_words u) sz)) 0 0 (va_A (ww_In_add h0 h0_words c0_words u) sz) := by
  refine Met.ofW (cc := cIn_add) (maxL := 2) (ret := none) (by decide) rfl ?_
  intro p e s m args below meth c s₁ B hml hv
  obtain ⟨rfl, hsz, hP, hK, hD0, hZ⟩ := hv
  have hx := B.exec
  have hb := B.bytes
  have hr := B.returns
  have hq : ∀ w ∈ wz, w.before _ s = true := fun w h => atoms_spec (ws := wsIn_add) B.pre w (List.mem_cons_of_mem _ h)
  have hown : s.vm.findClass "StepCourt$Inbox" = some m.cls := findClass_of_methodNamed B.named
  have hlocks := B.notSynchronized
  subst hsz
  have hD := hD0.self (sz := s.heap.size)
  generalize hAe : va_A (ww_In_add h0 h0_words c0_words u) s.heap.size = A at hD ⊢
  have hA : ∀ q : Nat, s.heap.size ≤ q → A q := fun q h => by rw [← hAe]; exact Or.inr h
  have hS : va_S A s.heap s.heap [] := va_S.rf
  have hP : va_P (dC, dI) vwCl [(h0, ce_In h0_words u.1), (h0_words, .inl (c0_words, 60, .inl u.2))] s.heap := hP
  have hD : va_D A [(h0, ce_In h0_words u.1), (h0_words, .inl (c0_words, 60, .inl u.2))] := hD
  have hl := lv_entry ([.ref h0, .int k1]) (n := 2) (Nat.le_of_ble_eq_true rfl)
  rw [lg_entry_eq]
  generalize (lg_sl ([.ref h0, .int k1]) ++ List.replicate (2 - (lg_sl ([.ref h0, .int k1])).length) Slot.unset).toArray = ls at hl ⊢
  have hl : lv_has ls 2 [(0, .ref h0), (1, .int k1)] := hl
  skip
  refine lv_aload_n hx hb dIn_add_0 rfl (lv_at hl 0 rfl) ?_
  refine va_get (D := (dC, dI)) (ci := 3) (v := .int u.1) (C := "StepCourt$Inbox") (T := TIn) (N := 2) hx hb hq inIn hown hK hP 0 rfl rfl 1 (by decide) (hq _ wt_52) (fun _ h9 => h9) rfl dIn_add_1 ?_
  refine lv_bipush (v := 60) hx hb dIn_add_4 (by decide) ?_
  refine lv_icmp_ge (tgt := 29) hx hb dIn_add_6 (by decide) (fun cc1 => ?_) (fun cc1 => ?_)
  · have hw := hw.1 cc1
    have hP9 := hP.sub (ws' := [(h0, ce_In h0_words u.1), (h0_words, .inl (c0_words, 60, .inl u.2))]) [0, 1] rfl
    have hD9 := hD.sub (ws' := [(h0, ce_In h0_words u.1), (h0_words, .inl (c0_words, 60, .inl u.2))]) [0, 1] (by decide) rfl
    have hK9 := hK.sub (tys' := [(c0_words, .int)]) [0] rfl
    exact W.vret hx hb hr (fun t ht hW => ⟨⟨(u.1, u.2), rfl, hw, by rw [ht]; exact hP9, va_K.moved hW.alike hK9, hD9⟩, hS.F ht⟩) hS.2.2 dIn_add_29
  · have hw := hw.2 cc1
    refine lv_aload_n hx hb dIn_add_9 rfl (lv_at hl 0 rfl) ?_
    refine va_get (D := (dC, dI)) (ci := 3) (v := .ref h0_words) (C := "StepCourt$Inbox") (T := TIn) (N := 2) hx hb hq inIn hown hK hP 0 rfl rfl 0 (by decide) (hq _ wt_51) (fun _ h9 => h9) rfl dIn_add_10 ?_
    refine lv_aload_n hx hb dIn_add_13 rfl (lv_at hl 0 rfl) ?_
    refine va_get (D := (dC, dI)) (ci := 3) (v := .int u.1) (C := "StepCourt$Inbox") (T := TIn) (N := 2) hx hb hq inIn hown hK hP 0 rfl rfl 1 (by decide) (hq _ wt_52) (fun _ h9 => h9) rfl dIn_add_14 ?_
    refine lv_iload_n hx hb dIn_add_17 rfl (lv_at hl 1 rfl) ?_
    obtain ⟨hh2, hw⟩ := hw
    refine va_iast hx hb hK hP hD hS 1 0 rfl rfl hh2 dIn_add_18 (fun H locs hP hD hS => ?_)
    have hP : va_P (dC, dI) vwCl [(h0, ce_In h0_words u.1), (h0_words, .inl (c0_words, 60, .inl (upd u.2 u.1.toNatClampNeg k1)))] H := hP
    have hD : va_D A [(h0, ce_In h0_words u.1), (h0_words, .inl (c0_words, 60, .inl (upd u.2 u.1.toNatClampNeg k1)))] := hD
    refine lv_aload_n hx hb dIn_add_19 rfl (lv_at hl 0 rfl) ?_
    refine lv_dup hx hb dIn_add_20 rfl ?_
    refine va_get (D := (dC, dI)) (ci := 3) (v := .int u.1) (C := "StepCourt$Inbox") (T := TIn) (N := 2) hx hb hq inIn hown hK hP 0 rfl rfl 1 (by decide) (hq _ wt_52) (fun _ h9 => h9) rfl dIn_add_21 ?_
    refine lv_iconst (v := 1) hx hb dIn_add_24 (by decide) ?_
    refine lv_iadd hx hb dIn_add_25 ?_
    refine lv_topi (fun f3 ef3 => ?_)
    have hw := hw f3 ef3
    refine va_put (D := (dC, dI)) (ci := 3) (v := .int f3) (ty := .int) (C := "StepCourt$Inbox") (T := TIn) (N := 2) hx hb hq inIn tyIn tyIn_ok nmIn hown hK hP hD hS 0 rfl rfl 1 (by decide) (hq _ wt_52) (fun _ h9 => h9) rfl (by decide +kernel) rfl rfl (Nat.le_of_ble_eq_true rfl) dIn_add_26 (fun H locs hP hD hS => ?_)
    have hP : va_P (dC, dI) vwCl [(h0, ce_In h0_words f3), (h0_words, .inl (c0_words, 60, .inl (upd u.2 u.1.toNatClampNeg k1)))] H := hP
    have hD : va_D A [(h0, ce_In h0_words f3), (h0_words, .inl (c0_words, 60, .inl (upd u.2 u.1.toNatClampNeg k1)))] := hD
    have hP9 := hP.sub (ws' := [(h0, ce_In h0_words f3), (h0_words, .inl (c0_words, 60, .inl (upd u.2 u.1.toNatClampNeg k1)))]) [0, 1] rfl
    have hD9 := hD.sub (ws' := [(h0, ce_In h0_words f3), (h0_words, .inl (c0_words, 60, .inl (upd u.2 u.1.toNatClampNeg k1)))]) [0, 1] (by decide) rfl
    have hK9 := hK.sub (tys' := [(c0_words, .int)]) [0] rfl
    exact W.vret hx hb hr (fun t ht hW => ⟨⟨(f3, (upd u.2 u.1.toNatClampNeg k1)), rfl, hw, by rw [ht]; exact hP9, va_K.moved hW.alike hK9, hD9⟩, hS.F ht⟩) hS.2.2 dIn_add_29
abbrev ww_In_at (h0 h0_words : Nat) (c0_words : ClassId) (u : ct_In × (Nat → Int32)) : va_W := [(h0, ce_In h0_words u.1), (h0_words, .inl (c0_words, 60, .inl u.2))]
def wp_In_at (post : Int32 → (ct_In × (Nat → Int32)) → Prop) (u : ct_In × (Nat → Int32)) (k1 : Int32) : Prop := ((k1 < 0 → (post 0 (u.1, u.2))) ∧ (¬ k1 < 0 → (((u.1 ≤ k1 → (post 0 (u.1, u.2))) ∧ (¬ u.1 ≤ k1 → (((60 ≤ k1 → (post 0 (u.1, u.2))) ∧ (¬ 60 ≤ k1 → (vp_in k1 60 ∧ (post (u.2 k1.toNatClampNeg) (u.1, u.2)))))))))))
set_option maxHeartbeats 4000000 in
set_option maxRecDepth 100000 in
theorem mt_In_at (l : Launch) (dC : Nat → ClassId) (dI : Nat → Nat → Nat) (h0 h0_words : Nat) (c0_words : ClassId) (sz : Nat) (post : Int32 → (ct_In × (Nat → Int32)) → Prop) (u : ct_In × (Nat → Int32)) (k1 : Int32) (hw : wp_In_at post u k1) : Met l yIn_at wsIn_at ({ frames := 0, cells := 0, slots := 0, locals := 0 }) (kp_P dC dI [.ref h0, .int k1] sz (ww_In_at h0 h0_words c0_words u) [(c0_words, .int)]) (va_Qi post (fun u9 => kp_B dC dI (va_A (ww_In_at h0 h0_words c0_words u) sz) (ww_In_at h0 h0_words c0_words u9) [(c0_words, .int)]) (va_A (ww_In_at h0 h0_words c0_words u) sz)) 0 0 (va_A (ww_In_at h0 h0_words c0_words u) sz) := by
  refine Met.ofW (cc := cIn_at) (maxL := 2) (ret := (some .int)) (by decide) rfl ?_
  intro p e s m args below meth c s₁ B hml hv
  obtain ⟨rfl, hsz, hP, hK, hD0, hZ⟩ := hv
  have hx := B.exec
  have hb := B.bytes
  have hr := B.returns
  have hq : ∀ w ∈ wz, w.before _ s = true := fun w h => atoms_spec (ws := wsIn_at) B.pre w (List.mem_cons_of_mem _ h)
  have hown : s.vm.findClass "StepCourt$Inbox" = some m.cls := findClass_of_methodNamed B.named
  have hlocks := B.notSynchronized
  subst hsz
  have hD := hD0.self (sz := s.heap.size)
  generalize hAe : va_A (ww_In_at h0 h0_words c0_words u) s.heap.size = A at hD ⊢
  have hA : ∀ q : Nat, s.heap.size ≤ q → A q := fun q h => by rw [← hAe]; exact Or.inr h
  have hS : va_S A s.heap s.heap [] := va_S.rf
  have hP : va_P (dC, dI) vwCl [(h0, ce_In h0_words u.1), (h0_words, .inl (c0_words, 60, .inl u.2))] s.heap := hP
  have hD : va_D A [(h0, ce_In h0_words u.1), (h0_words, .inl (c0_words, 60, .inl u.2))] := hD
  have hl := lv_entry ([.ref h0, .int k1]) (n := 2) (Nat.le_of_ble_eq_true rfl)
  rw [lg_entry_eq]
  generalize (lg_sl ([.ref h0, .int k1]) ++ List.replicate (2 - (lg_sl ([.ref h0, .int k1])).length) Slot.unset).toArray = ls at hl ⊢
  have hl : lv_has ls 2 [(0, .ref h0), (1, .int k1)] := hl
  skip
  refine lv_iload_n hx hb dIn_at_0 rfl (lv_at hl 1 rfl) ?_
  refine lv_if_lt (tgt := 27) hx hb dIn_at_1 (by decide) (fun cc1 => ?_) (fun cc1 => ?_)
  · have hw := hw.1 cc1
    refine lv_iconst (v := 0) hx hb dIn_at_27 (by decide) ?_
    have hP9 := hP.sub (ws' := [(h0, ce_In h0_words u.1), (h0_words, .inl (c0_words, 60, .inl u.2))]) [0, 1] rfl
    have hD9 := hD.sub (ws' := [(h0, ce_In h0_words u.1), (h0_words, .inl (c0_words, 60, .inl u.2))]) [0, 1] (by decide) rfl
    have hK9 := hK.sub (tys' := [(c0_words, .int)]) [0] rfl
    exact W.iret (v := 0) hx hb hr (fun t ht hW => ⟨⟨0, (u.1, u.2), rfl, hw, by rw [ht]; exact hP9, va_K.moved hW.alike hK9, hD9⟩, hS.F ht⟩) hS.2.2 dIn_at_28
  · have hw := hw.2 cc1
    refine lv_iload_n hx hb dIn_at_4 rfl (lv_at hl 1 rfl) ?_
    refine lv_aload_n hx hb dIn_at_5 rfl (lv_at hl 0 rfl) ?_
    refine va_get (D := (dC, dI)) (ci := 3) (v := .int u.1) (C := "StepCourt$Inbox") (T := TIn) (N := 2) hx hb hq inIn hown hK hP 0 rfl rfl 1 (by decide) (hq _ wt_52) (fun _ h9 => h9) rfl dIn_at_6 ?_
    refine lv_icmp_ge (tgt := 27) hx hb dIn_at_9 (by decide) (fun cc2 => ?_) (fun cc2 => ?_)
    · have hw := hw.1 cc2
      refine lv_iconst (v := 0) hx hb dIn_at_27 (by decide) ?_
      have hP9 := hP.sub (ws' := [(h0, ce_In h0_words u.1), (h0_words, .inl (c0_words, 60, .inl u.2))]) [0, 1] rfl
      have hD9 := hD.sub (ws' := [(h0, ce_In h0_words u.1), (h0_words, .inl (c0_words, 60, .inl u.2))]) [0, 1] (by decide) rfl
      have hK9 := hK.sub (tys' := [(c0_words, .int)]) [0] rfl
      exact W.iret (v := 0) hx hb hr (fun t ht hW => ⟨⟨0, (u.1, u.2), rfl, hw, by rw [ht]; exact hP9, va_K.moved hW.alike hK9, hD9⟩, hS.F ht⟩) hS.2.2 dIn_at_28
    · have hw := hw.2 cc2
      refine lv_iload_n hx hb dIn_at_12 rfl (lv_at hl 1 rfl) ?_
      refine lv_bipush (v := 60) hx hb dIn_at_13 (by decide) ?_
      refine lv_icmp_ge (tgt := 27) hx hb dIn_at_15 (by decide) (fun cc3 => ?_) (fun cc3 => ?_)
      · have hw := hw.1 cc3
        refine lv_iconst (v := 0) hx hb dIn_at_27 (by decide) ?_
        have hP9 := hP.sub (ws' := [(h0, ce_In h0_words u.1), (h0_words, .inl (c0_words, 60, .inl u.2))]) [0, 1] rfl
        have hD9 := hD.sub (ws' := [(h0, ce_In h0_words u.1), (h0_words, .inl (c0_words, 60, .inl u.2))]) [0, 1] (by decide) rfl
        have hK9 := hK.sub (tys' := [(c0_words, .int)]) [0] rfl
        exact W.iret (v := 0) hx hb hr (fun t ht hW => ⟨⟨0, (u.1, u.2), rfl, hw, by rw [ht]; exact hP9, va_K.moved hW.alike hK9, hD9⟩, hS.F ht⟩) hS.2.2 dIn_at_28
      · have hw := hw.2 cc3
        refine lv_aload_n hx hb dIn_at_18 rfl (lv_at hl 0 rfl) ?_
        refine va_get (D := (dC, dI)) (ci := 3) (v := .ref h0_words) (C := "StepCourt$Inbox") (T := TIn) (N := 2) hx hb hq inIn hown hK hP 0 rfl rfl 0 (by decide) (hq _ wt_51) (fun _ h9 => h9) rfl dIn_at_19 ?_
        refine lv_iload_n hx hb dIn_at_22 rfl (lv_at hl 1 rfl) ?_
        obtain ⟨hh4, hw⟩ := hw
        refine va_iald hx hb hK hP 1 0 rfl rfl hh4 dIn_at_23 ?_
        refine lv_goto (tgt := 28) hx hb dIn_at_24 (by decide) ?_
        have hP9 := hP.sub (ws' := [(h0, ce_In h0_words u.1), (h0_words, .inl (c0_words, 60, .inl u.2))]) [0, 1] rfl
        have hD9 := hD.sub (ws' := [(h0, ce_In h0_words u.1), (h0_words, .inl (c0_words, 60, .inl u.2))]) [0, 1] (by decide) rfl
        have hK9 := hK.sub (tys' := [(c0_words, .int)]) [0] rfl
        exact W.iret (v := (u.2 k1.toNatClampNeg)) hx hb hr (fun t ht hW => ⟨⟨(u.2 k1.toNatClampNeg), (u.1, u.2), rfl, hw, by rw [ht]; exact hP9, va_K.moved hW.alike hK9, hD9⟩, hS.F ht⟩) hS.2.2 dIn_at_28
abbrev ww_Ma_takeWord (h0 h1 h1_words h0_cells h0_tree : Nat) (c1_words : ClassId) (u : ct_Ma × ct_In × (Nat → Int32)) : va_W := [(h0, ce_Ma h0_cells h0_tree u.1), (h1, ce_In h1_words u.2.1), (h1_words, .inl (c1_words, 60, .inl u.2.2))]
def wp_Ma_takeWord (post : Int32 → (ct_Ma × ct_In × (Nat → Int32)) → Prop) (u : ct_Ma × ct_In × (Nat → Int32)) (k2 : Int32) : Prop := ((u.1.2.2.2.1 < k2 → (wp_In_at (fun r2 u3 => (∀ f4 : Int32, f4 = (u.1.2.2.2.1 + 1) → (post 1 ((u.1.1, r2, u.1.2.2.1, f4, u.1.2.2.2.2.1, u.1.2.2.2.2.2), u3.1, u3.2)))) (u.2.1, u.2.2) u.1.2.2.2.1 )) ∧ (¬ u.1.2.2.2.1 < k2 → (post 0 (u.1, u.2.1, u.2.2))))
set_option maxHeartbeats 4000000 in
set_option maxRecDepth 100000 in
theorem mt_Ma_takeWord (l : Launch) (dC : Nat → ClassId) (dI : Nat → Nat → Nat) (h0 h1 h1_words h0_cells h0_tree : Nat) (c1_words : ClassId) (sz : Nat) (post : Int32 → (ct_Ma × ct_In × (Nat → Int32)) → Prop) (u : ct_Ma × ct_In × (Nat → Int32)) (k2 : Int32) (hw : wp_Ma_takeWord post u k2) : Met l yMa_takeWord wsMa_takeWord ({ frames := 1, cells := 0, slots := 0, locals := 21 }) (kp_P dC dI [.ref h0, .ref h1, .int k2] sz (ww_Ma_takeWord h0 h1 h1_words h0_cells h0_tree c1_words u) [(c1_words, .int)]) (va_Qi post (fun u9 => kp_B dC dI (va_A (ww_Ma_takeWord h0 h1 h1_words h0_cells h0_tree c1_words u) sz) (ww_Ma_takeWord h0 h1 h1_words h0_cells h0_tree c1_words u9) [(c1_words, .int)]) (va_A (ww_Ma_takeWord h0 h1 h1_words h0_cells h0_tree c1_words u) sz)) 0 0 (va_A (ww_Ma_takeWord h0 h1 h1_words h0_cells h0_tree c1_words u) sz) := by
  refine Met.ofW (cc := cMa_takeWord) (maxL := 3) (ret := (some .boolean)) (by decide) rfl ?_
  intro p e s m args below meth c s₁ B hml hv
  obtain ⟨rfl, hsz, hP, hK, hD0, hZ⟩ := hv
  have hx := B.exec
  have hb := B.bytes
  have hr := B.returns
  have hq : ∀ w ∈ wz, w.before _ s = true := fun w h => atoms_spec (ws := wsMa_takeWord) B.pre w (List.mem_cons_of_mem _ h)
  have hown : s.vm.findClass "StepCourt$Machine" = some m.cls := findClass_of_methodNamed B.named
  have hlocks := B.notSynchronized
  subst hsz
  have hD := hD0.self (sz := s.heap.size)
  generalize hAe : va_A (ww_Ma_takeWord h0 h1 h1_words h0_cells h0_tree c1_words u) s.heap.size = A at hD ⊢
  have hA : ∀ q : Nat, s.heap.size ≤ q → A q := fun q h => by rw [← hAe]; exact Or.inr h
  have hS : va_S A s.heap s.heap [] := va_S.rf
  have hP : va_P (dC, dI) vwCl [(h0, ce_Ma h0_cells h0_tree u.1), (h1, ce_In h1_words u.2.1), (h1_words, .inl (c1_words, 60, .inl u.2.2))] s.heap := hP
  have hD : va_D A [(h0, ce_Ma h0_cells h0_tree u.1), (h1, ce_In h1_words u.2.1), (h1_words, .inl (c1_words, 60, .inl u.2.2))] := hD
  have hl := lv_entry ([.ref h0, .ref h1, .int k2]) (n := 3) (Nat.le_of_ble_eq_true rfl)
  rw [lg_entry_eq]
  generalize (lg_sl ([.ref h0, .ref h1, .int k2]) ++ List.replicate (3 - (lg_sl ([.ref h0, .ref h1, .int k2])).length) Slot.unset).toArray = ls at hl ⊢
  have hl : lv_has ls 3 [(0, .ref h0), (1, .ref h1), (2, .int k2)] := hl
  skip
  refine lv_aload_n hx hb dMa_takeWord_0 rfl (lv_at hl 0 rfl) ?_
  refine va_get (D := (dC, dI)) (ci := 4) (v := .int u.1.2.2.2.1) (C := "StepCourt$Machine") (T := TMa) (N := 8) hx hb hq inMa hown hK hP 0 rfl rfl 5 (by decide) (hq _ wt_78) (fun _ h9 => h9) rfl dMa_takeWord_1 ?_
  refine lv_iload_n hx hb dMa_takeWord_4 rfl (lv_at hl 2 rfl) ?_
  refine lv_icmp_lt (tgt := 10) hx hb dMa_takeWord_5 (by decide) (fun cc1 => ?_) (fun cc1 => ?_)
  · have hw := hw.1 cc1
    refine lv_aload_n hx hb dMa_takeWord_10 rfl (lv_at hl 0 rfl) ?_
    refine lv_aload_n hx hb dMa_takeWord_11 rfl (lv_at hl 1 rfl) ?_
    refine lv_aload_n hx hb dMa_takeWord_12 rfl (lv_at hl 0 rfl) ?_
    refine va_get (D := (dC, dI)) (ci := 4) (v := .int u.1.2.2.2.1) (C := "StepCourt$Machine") (T := TMa) (N := 8) hx hb hq inMa hown hK hP 0 rfl rfl 5 (by decide) (hq _ wt_78) (fun _ h9 => h9) rfl dMa_takeWord_13 ?_
    have hPc := hP.sub (ws' := [(h1, ce_In h1_words u.2.1), (h1_words, .inl (c1_words, 60, .inl u.2.2))]) [1, 2] rfl
    have hDc := hD.sub (ws' := [(h1, ce_In h1_words u.2.1), (h1_words, .inl (c1_words, 60, .inl u.2.2))]) [1, 2] (by decide) rfl
    have hKc := hK.sub (tys' := [(c1_words, .int)]) [0] rfl
    have hFc := va_free (wc := [(h1, ce_In h1_words u.2.1), (h1_words, .inl (c1_words, 60, .inl u.2.2))]) hD hS hA [1, 2] rfl
    refine va_calli (va_runV (As := [.int u.1.2.2.2.1]) (rest := [.ref h0]) ⟨hx, hb, hml, hown, hq⟩ (mt_In_at l dC dI h1 h1_words c1_words s.heap.size _ (u.2.1, u.2.2) u.1.2.2.2.1 hw) ⟨cq_B 1 hq wt_360 wt_357 wt_3 rfl rfl hd_In_at ⟨Nat.le_of_ble_eq_true rfl, Nat.le_of_ble_eq_true rfl⟩, (hq _ wt_358), (hq _ wt_359)⟩ ⟨kp_bl, va_recv hKc hPc (ci := 3) (q0 := 0) rfl rfl, kp_at hPc hKc hDc hZ⟩ rfl rfl hl.1 rfl (lv_room (Nat.le_of_ble_eq_true rfl)) dMa_takeWord_16 ⟨(by decide), (by decide)⟩) hS (fun q _ h => hFc q h) hFc (fun r2 u3 t H1 locs ht hvm hw hB hz1 hk1 hS => ?_)
    obtain ⟨hP1, hK1, hD1⟩ := hB
    rw [ht] at hP1
    have hK1 := va_K.moved hvm.symm hK1
    obtain ⟨hP, hD⟩ := va_join (wr := [(h0, ce_Ma h0_cells h0_tree u.1)]) (w1 := [(h1, ce_In h1_words u3.1), (h1_words, .inl (c1_words, 60, .inl u3.2))]) hP hD [1, 2] [0] rfl rfl (by decide) (by decide) hk1 hFc hP1 hD1
    have hK := (hK.sub (tys' := []) [] rfl).app hK1
    generalize H1 = H at hP hS ⊢
    have hP : va_P (dC, dI) vwCl [(h0, ce_Ma h0_cells h0_tree u.1), (h1, ce_In h1_words u3.1), (h1_words, .inl (c1_words, 60, .inl u3.2))] H := hP
    have hD : va_D A [(h0, ce_Ma h0_cells h0_tree u.1), (h1, ce_In h1_words u3.1), (h1_words, .inl (c1_words, 60, .inl u3.2))] := hD
    have hK : va_K (dC, dI) vwCl [(c1_words, .int)] s := hK
    refine va_put (D := (dC, dI)) (ci := 4) (v := .int r2) (ty := .int) (C := "StepCourt$Machine") (T := TMa) (N := 8) hx hb hq inMa tyMa tyMa_ok nmMa hown hK hP hD hS 0 rfl rfl 3 (by decide) (hq _ wt_72) (fun _ h9 => h9) rfl (by decide +kernel) rfl rfl (Nat.le_of_ble_eq_true rfl) dMa_takeWord_19 (fun H locs hP hD hS => ?_)
    have hP : va_P (dC, dI) vwCl [(h0, ce_Ma h0_cells h0_tree (u.1.1, r2, u.1.2.2.1, u.1.2.2.2.1, u.1.2.2.2.2.1, u.1.2.2.2.2.2)), (h1, ce_In h1_words u3.1), (h1_words, .inl (c1_words, 60, .inl u3.2))] H := hP
    have hD : va_D A [(h0, ce_Ma h0_cells h0_tree (u.1.1, r2, u.1.2.2.1, u.1.2.2.2.1, u.1.2.2.2.2.1, u.1.2.2.2.2.2)), (h1, ce_In h1_words u3.1), (h1_words, .inl (c1_words, 60, .inl u3.2))] := hD
    refine lv_aload_n hx hb dMa_takeWord_22 rfl (lv_at hl 0 rfl) ?_
    refine lv_dup hx hb dMa_takeWord_23 rfl ?_
    refine va_get (D := (dC, dI)) (ci := 4) (v := .int u.1.2.2.2.1) (C := "StepCourt$Machine") (T := TMa) (N := 8) hx hb hq inMa hown hK hP 0 rfl rfl 5 (by decide) (hq _ wt_78) (fun _ h9 => h9) rfl dMa_takeWord_24 ?_
    refine lv_iconst (v := 1) hx hb dMa_takeWord_27 (by decide) ?_
    refine lv_iadd hx hb dMa_takeWord_28 ?_
    refine lv_topi (fun f4 ef4 => ?_)
    have hw := hw f4 ef4
    refine va_put (D := (dC, dI)) (ci := 4) (v := .int f4) (ty := .int) (C := "StepCourt$Machine") (T := TMa) (N := 8) hx hb hq inMa tyMa tyMa_ok nmMa hown hK hP hD hS 0 rfl rfl 5 (by decide) (hq _ wt_78) (fun _ h9 => h9) rfl (by decide +kernel) rfl rfl (Nat.le_of_ble_eq_true rfl) dMa_takeWord_29 (fun H locs hP hD hS => ?_)
    have hP : va_P (dC, dI) vwCl [(h0, ce_Ma h0_cells h0_tree (u.1.1, r2, u.1.2.2.1, f4, u.1.2.2.2.2.1, u.1.2.2.2.2.2)), (h1, ce_In h1_words u3.1), (h1_words, .inl (c1_words, 60, .inl u3.2))] H := hP
    have hD : va_D A [(h0, ce_Ma h0_cells h0_tree (u.1.1, r2, u.1.2.2.1, f4, u.1.2.2.2.2.1, u.1.2.2.2.2.2)), (h1, ce_In h1_words u3.1), (h1_words, .inl (c1_words, 60, .inl u3.2))] := hD
    refine lv_iconst (v := 1) hx hb dMa_takeWord_32 (by decide) ?_
    have hP9 := hP.sub (ws' := [(h0, ce_Ma h0_cells h0_tree (u.1.1, r2, u.1.2.2.1, f4, u.1.2.2.2.2.1, u.1.2.2.2.2.2)), (h1, ce_In h1_words u3.1), (h1_words, .inl (c1_words, 60, .inl u3.2))]) [0, 1, 2] rfl
    have hD9 := hD.sub (ws' := [(h0, ce_Ma h0_cells h0_tree (u.1.1, r2, u.1.2.2.1, f4, u.1.2.2.2.2.1, u.1.2.2.2.2.2)), (h1, ce_In h1_words u3.1), (h1_words, .inl (c1_words, 60, .inl u3.2))]) [0, 1, 2] (by decide) rfl
    have hK9 := hK.sub (tys' := [(c1_words, .int)]) [0] rfl
    exact W.zret (v := 1) hx hb hr rfl (fun t ht hW => ⟨⟨1, ((u.1.1, r2, u.1.2.2.1, f4, u.1.2.2.2.2.1, u.1.2.2.2.2.2), u3.1, u3.2), rfl, hw, by rw [ht]; exact hP9, va_K.moved hW.alike hK9, hD9⟩, hS.F ht⟩) hS.2.2 dMa_takeWord_33
  · have hw := hw.2 cc1
    refine lv_iconst (v := 0) hx hb dMa_takeWord_8 (by decide) ?_
    have hP9 := hP.sub (ws' := [(h0, ce_Ma h0_cells h0_tree u.1), (h1, ce_In h1_words u.2.1), (h1_words, .inl (c1_words, 60, .inl u.2.2))]) [0, 1, 2] rfl
    have hD9 := hD.sub (ws' := [(h0, ce_Ma h0_cells h0_tree u.1), (h1, ce_In h1_words u.2.1), (h1_words, .inl (c1_words, 60, .inl u.2.2))]) [0, 1, 2] (by decide) rfl
    have hK9 := hK.sub (tys' := [(c1_words, .int)]) [0] rfl
    exact W.zret (v := 0) hx hb hr rfl (fun t ht hW => ⟨⟨0, (u.1, u.2.1, u.2.2), rfl, hw, by rw [ht]; exact hP9, va_K.moved hW.alike hK9, hD9⟩, hS.F ht⟩) hS.2.2 dMa_takeWord_9
abbrev ww_Ma_makePayment (h0 h0_cells h0_tree : Nat) (u : ct_Ma) : va_W := [(h0, ce_Ma h0_cells h0_tree u)]
def wp_Ma_makePayment (post : Int32 → ct_Ma → Prop) (u : ct_Ma) : Prop := ((u.2.2.2.2.1 = 30 → (post 0 u)) ∧ (¬ u.2.2.2.2.1 = 30 → (wp_Ma_receiver (fun r2 u3 => (wp_Mi_mix (fun r4 u5 => (wp_Mi_mix (fun r6 u7 => (∀ f8 : Int32, f8 = (u3.2.2.2.2.1 + 1) → (post 1 (u3.1, u3.2.1, u3.2.2.1, u3.2.2.2.1, f8, r6)))) () r4 (u3.2.1.toInt64) )) () u.2.2.2.2.2 (r2.toInt64) )) u )))
set_option maxHeartbeats 4000000 in
set_option maxRecDepth 100000 in
theorem mt_Ma_makePayment (l : Launch) (dC : Nat → ClassId) (dI : Nat → Nat → Nat) (h0 h0_cells h0_tree : Nat) (sz : Nat) (post : Int32 → ct_Ma → Prop) (u : ct_Ma) (hw : wp_Ma_makePayment post u) : Met l yMa_makePayment wsMa_makePayment ({ frames := 1, cells := 0, slots := 0, locals := 25 }) (kp_P dC dI [.ref h0] sz (ww_Ma_makePayment h0 h0_cells h0_tree u) []) (va_Qi post (fun u9 => kp_B dC dI (va_A (ww_Ma_makePayment h0 h0_cells h0_tree u) sz) (ww_Ma_makePayment h0 h0_cells h0_tree u9) []) (va_A (ww_Ma_makePayment h0 h0_cells h0_tree u) sz)) 0 0 (va_A (ww_Ma_makePayment h0 h0_cells h0_tree u) sz) := by
  refine Met.ofW (cc := cMa_makePayment) (maxL := 1) (ret := (some .boolean)) (by decide) rfl ?_
  intro p e s m args below meth c s₁ B hml hv
  obtain ⟨rfl, hsz, hP, hK, hD0, hZ⟩ := hv
  have hx := B.exec
  have hb := B.bytes
  have hr := B.returns
  have hq : ∀ w ∈ wz, w.before _ s = true := fun w h => atoms_spec (ws := wsMa_makePayment) B.pre w (List.mem_cons_of_mem _ h)
  have hown : s.vm.findClass "StepCourt$Machine" = some m.cls := findClass_of_methodNamed B.named
  have hlocks := B.notSynchronized
  subst hsz
  have hD := hD0.self (sz := s.heap.size)
  generalize hAe : va_A (ww_Ma_makePayment h0 h0_cells h0_tree u) s.heap.size = A at hD ⊢
  have hA : ∀ q : Nat, s.heap.size ≤ q → A q := fun q h => by rw [← hAe]; exact Or.inr h
  have hS : va_S A s.heap s.heap [] := va_S.rf
  have hP : va_P (dC, dI) vwCl [(h0, ce_Ma h0_cells h0_tree u)] s.heap := hP
  have hD : va_D A [(h0, ce_Ma h0_cells h0_tree u)] := hD
  have hl := lv_entry ([.ref h0]) (n := 1) (Nat.le_of_ble_eq_true rfl)
  rw [lg_entry_eq]
  generalize (lg_sl ([.ref h0]) ++ List.replicate (1 - (lg_sl ([.ref h0])).length) Slot.unset).toArray = ls at hl ⊢
  have hl : lv_has ls 1 [(0, .ref h0)] := hl
  skip
  refine lv_aload_n hx hb dMa_makePayment_0 rfl (lv_at hl 0 rfl) ?_
  refine va_get (D := (dC, dI)) (ci := 4) (v := .int u.2.2.2.2.1) (C := "StepCourt$Machine") (T := TMa) (N := 8) hx hb hq inMa hown hK hP 0 rfl rfl 6 (by decide) (hq _ wt_81) (fun _ h9 => h9) rfl dMa_makePayment_1 ?_
  refine lv_bipush (v := 30) hx hb dMa_makePayment_4 (by decide) ?_
  refine lv_icmp_ne (tgt := 11) hx hb dMa_makePayment_6 (by decide) (fun cc1 => ?_) (fun cc1 => ?_)
  · have hw := hw.2 cc1
    refine lv_aload_n hx hb dMa_makePayment_11 rfl (lv_at hl 0 rfl) ?_
    refine lv_aload_n hx hb dMa_makePayment_12 rfl (lv_at hl 0 rfl) ?_
    refine va_get (D := (dC, dI)) (ci := 4) (v := .long u.2.2.2.2.2) (C := "StepCourt$Machine") (T := TMa) (N := 8) hx hb hq inMa hown hK hP 0 rfl rfl 7 (by decide) (hq _ wt_84) (fun _ h9 => h9) rfl dMa_makePayment_13 ?_
    refine lv_aload_n hx hb dMa_makePayment_16 rfl (lv_at hl 0 rfl) ?_
    have hPc := hP.sub (ws' := [(h0, ce_Ma h0_cells h0_tree u)]) [0] rfl
    have hDc := hD.sub (ws' := [(h0, ce_Ma h0_cells h0_tree u)]) [0] (by decide) rfl
    have hKc := hK.sub (tys' := []) [] rfl
    have hFc := va_free (wc := [(h0, ce_Ma h0_cells h0_tree u)]) hD hS hA [0] rfl
    refine va_calli (va_runV (As := []) (rest := [.long u.2.2.2.2.2, .ref h0]) ⟨hx, hb, hml, hown, hq⟩ (mt_Ma_receiver l dC dI h0 h0_cells h0_tree s.heap.size _ u hw) ⟨cq_B 0 hq wt_368 wt_365 wt_4 rfl rfl hd_Ma_receiver ⟨Nat.le_of_ble_eq_true rfl, Nat.le_of_ble_eq_true rfl⟩, (hq _ wt_366), (hq _ wt_367)⟩ ⟨kp_bl, va_recv hKc hPc (ci := 4) (q0 := 0) rfl rfl, kp_at hPc hKc hDc hZ⟩ rfl rfl hl.1 rfl (lv_room (Nat.le_of_ble_eq_true rfl)) dMa_makePayment_17 ⟨(by decide), (by decide)⟩) hS (fun q _ h => hFc q h) hFc (fun r2 u3 t H1 locs ht hvm hw hB hz1 hk1 hS => ?_)
    obtain ⟨hP1, hK1, hD1⟩ := hB
    rw [ht] at hP1
    have hK1 := va_K.moved hvm.symm hK1
    obtain ⟨hP, hD⟩ := va_join (wr := []) (w1 := [(h0, ce_Ma h0_cells h0_tree u3)]) hP hD [0] [] rfl rfl (by decide) (by decide) hk1 hFc hP1 hD1
    have hK := (hK.sub (tys' := []) [] rfl).app hK1
    generalize H1 = H at hP hS ⊢
    have hP : va_P (dC, dI) vwCl [(h0, ce_Ma h0_cells h0_tree u3)] H := hP
    have hD : va_D A [(h0, ce_Ma h0_cells h0_tree u3)] := hD
    have hK : va_K (dC, dI) vwCl [] s := hK
    refine lv_i2l (v := r2.toInt64) hx hb dMa_makePayment_20 rfl ?_
    have hPc := hP.sub (ws' := []) [] rfl
    have hDc := hD.sub (ws' := []) [] (by decide) rfl
    have hKc := hK.sub (tys' := []) [] rfl
    have hFc := va_free (wc := []) hD hS hA [] rfl
    refine va_calll (va_runS (As := [.long u.2.2.2.2.2, .long (r2.toInt64)]) (rest := [.ref h0]) ⟨hx, hb, hml, hown, hq⟩ (mt_Mi_mix l dC dI H.size _ () u.2.2.2.2.2 (r2.toInt64) hw) ⟨cq_B 2 hq wt_241 wt_253 wt_9 rfl rfl hd_Mi_mix ⟨Nat.le_of_ble_eq_true rfl, Nat.le_of_ble_eq_true rfl⟩, (hq _ wt_240)⟩ ⟨kp_bl, kp_at hPc hKc hDc hZ⟩ rfl rfl hl.1 rfl (lv_room (Nat.le_of_ble_eq_true rfl)) dMa_makePayment_21 ⟨(by decide), (by decide)⟩) hS (fun q _ h => hFc q h) hFc (fun r4 u5 t H1 locs ht hvm hw hB hz1 hk1 hS => ?_)
    obtain ⟨hP1, hK1, hD1⟩ := hB
    rw [ht] at hP1
    have hK1 := va_K.moved hvm.symm hK1
    obtain ⟨hP, hD⟩ := va_join (wr := [(h0, ce_Ma h0_cells h0_tree u3)]) (w1 := []) hP hD [] [0] rfl rfl (by decide) (by decide) hk1 hFc hP1 hD1
    have hK := (hK.sub (tys' := []) [] rfl).app hK1
    generalize H1 = H at hP hS ⊢
    have hP : va_P (dC, dI) vwCl [(h0, ce_Ma h0_cells h0_tree u3)] H := hP
    have hD : va_D A [(h0, ce_Ma h0_cells h0_tree u3)] := hD
    have hK : va_K (dC, dI) vwCl [] s := hK
    refine lv_aload_n hx hb dMa_makePayment_24 rfl (lv_at hl 0 rfl) ?_
    refine va_get (D := (dC, dI)) (ci := 4) (v := .int u3.2.1) (C := "StepCourt$Machine") (T := TMa) (N := 8) hx hb hq inMa hown hK hP 0 rfl rfl 3 (by decide) (hq _ wt_72) (fun _ h9 => h9) rfl dMa_makePayment_25 ?_
    refine lv_i2l (v := u3.2.1.toInt64) hx hb dMa_makePayment_28 rfl ?_
    have hPc := hP.sub (ws' := []) [] rfl
    have hDc := hD.sub (ws' := []) [] (by decide) rfl
    have hKc := hK.sub (tys' := []) [] rfl
    have hFc := va_free (wc := []) hD hS hA [] rfl
    refine va_calll (va_runS (As := [.long r4, .long (u3.2.1.toInt64)]) (rest := [.ref h0]) ⟨hx, hb, hml, hown, hq⟩ (mt_Mi_mix l dC dI H.size _ () r4 (u3.2.1.toInt64) hw) ⟨cq_B 2 hq wt_241 wt_253 wt_9 rfl rfl hd_Mi_mix ⟨Nat.le_of_ble_eq_true rfl, Nat.le_of_ble_eq_true rfl⟩, (hq _ wt_240)⟩ ⟨kp_bl, kp_at hPc hKc hDc hZ⟩ rfl rfl hl.1 rfl (lv_room (Nat.le_of_ble_eq_true rfl)) dMa_makePayment_29 ⟨(by decide), (by decide)⟩) hS (fun q _ h => hFc q h) hFc (fun r6 u7 t H1 locs ht hvm hw hB hz1 hk1 hS => ?_)
    obtain ⟨hP1, hK1, hD1⟩ := hB
    rw [ht] at hP1
    have hK1 := va_K.moved hvm.symm hK1
    obtain ⟨hP, hD⟩ := va_join (wr := [(h0, ce_Ma h0_cells h0_tree u3)]) (w1 := []) hP hD [] [0] rfl rfl (by decide) (by decide) hk1 hFc hP1 hD1
    have hK := (hK.sub (tys' := []) [] rfl).app hK1
    generalize H1 = H at hP hS ⊢
    have hP : va_P (dC, dI) vwCl [(h0, ce_Ma h0_cells h0_tree u3)] H := hP
    have hD : va_D A [(h0, ce_Ma h0_cells h0_tree u3)] := hD
    have hK : va_K (dC, dI) vwCl [] s := hK
    refine va_put (D := (dC, dI)) (ci := 4) (v := .long r6) (ty := .long) (C := "StepCourt$Machine") (T := TMa) (N := 8) hx hb hq inMa tyMa tyMa_ok nmMa hown hK hP hD hS 0 rfl rfl 7 (by decide) (hq _ wt_84) (fun _ h9 => h9) rfl (by decide +kernel) rfl rfl (Nat.le_of_ble_eq_true rfl) dMa_makePayment_32 (fun H locs hP hD hS => ?_)
    have hP : va_P (dC, dI) vwCl [(h0, ce_Ma h0_cells h0_tree (u3.1, u3.2.1, u3.2.2.1, u3.2.2.2.1, u3.2.2.2.2.1, r6))] H := hP
    have hD : va_D A [(h0, ce_Ma h0_cells h0_tree (u3.1, u3.2.1, u3.2.2.1, u3.2.2.2.1, u3.2.2.2.2.1, r6))] := hD
    refine lv_aload_n hx hb dMa_makePayment_35 rfl (lv_at hl 0 rfl) ?_
    refine lv_dup hx hb dMa_makePayment_36 rfl ?_
    refine va_get (D := (dC, dI)) (ci := 4) (v := .int u3.2.2.2.2.1) (C := "StepCourt$Machine") (T := TMa) (N := 8) hx hb hq inMa hown hK hP 0 rfl rfl 6 (by decide) (hq _ wt_81) (fun _ h9 => h9) rfl dMa_makePayment_37 ?_
    refine lv_iconst (v := 1) hx hb dMa_makePayment_40 (by decide) ?_
    refine lv_iadd hx hb dMa_makePayment_41 ?_
    refine lv_topi (fun f8 ef8 => ?_)
    have hw := hw f8 ef8
    refine va_put (D := (dC, dI)) (ci := 4) (v := .int f8) (ty := .int) (C := "StepCourt$Machine") (T := TMa) (N := 8) hx hb hq inMa tyMa tyMa_ok nmMa hown hK hP hD hS 0 rfl rfl 6 (by decide) (hq _ wt_81) (fun _ h9 => h9) rfl (by decide +kernel) rfl rfl (Nat.le_of_ble_eq_true rfl) dMa_makePayment_42 (fun H locs hP hD hS => ?_)
    have hP : va_P (dC, dI) vwCl [(h0, ce_Ma h0_cells h0_tree (u3.1, u3.2.1, u3.2.2.1, u3.2.2.2.1, f8, r6))] H := hP
    have hD : va_D A [(h0, ce_Ma h0_cells h0_tree (u3.1, u3.2.1, u3.2.2.1, u3.2.2.2.1, f8, r6))] := hD
    refine lv_iconst (v := 1) hx hb dMa_makePayment_45 (by decide) ?_
    have hP9 := hP.sub (ws' := [(h0, ce_Ma h0_cells h0_tree (u3.1, u3.2.1, u3.2.2.1, u3.2.2.2.1, f8, r6))]) [0] rfl
    have hD9 := hD.sub (ws' := [(h0, ce_Ma h0_cells h0_tree (u3.1, u3.2.1, u3.2.2.1, u3.2.2.2.1, f8, r6))]) [0] (by decide) rfl
    have hK9 := hK.sub (tys' := []) [] rfl
    exact W.zret (v := 1) hx hb hr rfl (fun t ht hW => ⟨⟨1, (u3.1, u3.2.1, u3.2.2.1, u3.2.2.2.1, f8, r6), rfl, hw, by rw [ht]; exact hP9, va_K.moved hW.alike hK9, hD9⟩, hS.F ht⟩) hS.2.2 dMa_makePayment_46
  · have hw := hw.1 cc1
    refine lv_iconst (v := 0) hx hb dMa_makePayment_9 (by decide) ?_
    have hP9 := hP.sub (ws' := [(h0, ce_Ma h0_cells h0_tree u)]) [0] rfl
    have hD9 := hD.sub (ws' := [(h0, ce_Ma h0_cells h0_tree u)]) [0] (by decide) rfl
    have hK9 := hK.sub (tys' := []) [] rfl
    exact W.zret (v := 0) hx hb hr rfl (fun t ht hW => ⟨⟨0, u, rfl, hw, by rw [ht]; exact hP9, va_K.moved hW.alike hK9, hD9⟩, hS.F ht⟩) hS.2.2 dMa_makePayment_10
abbrev ww_Ma_step (h0 h0_cells h1 h1_ops h1_arguments h2 h2_words h0_tree : Nat) (c0_cells c1_ops c1_arguments c2_words : ClassId) (u : ct_Ma × (Nat → Int32) × (Nat → Int32) × (Nat → Int32) × ct_In × (Nat → Int32)) : va_W := [(h0, ce_Ma h0_cells h0_tree u.1), (h0_cells, .inl (c0_cells, 8, .inl u.2.1)), (h1, ce_Co h1_ops h1_arguments), (h1_ops, .inl (c1_ops, 16, .inl u.2.2.1)), (h1_arguments, .inl (c1_arguments, 16, .inl u.2.2.2.1)), (h2, ce_In h2_words u.2.2.2.2.1), (h2_words, .inl (c2_words, 60, .inl u.2.2.2.2.2))]
def wp_Ma_step (post : (ct_Ma × (Nat → Int32) × (Nat → Int32) × (Nat → Int32) × ct_In × (Nat → Int32)) → Prop) (u : ct_Ma × (Nat → Int32) × (Nat → Int32) × (Nat → Int32) × ct_In × (Nat → Int32)) (k3 : Int32) : Prop := ∀ y1 : Int32, y1 = (u.1.1 &&& 15) → (vp_in y1 16 ∧ (∀ y3 : Int32, y3 = (u.2.2.2.1 y1.toNatClampNeg) → (∀ y4 : Int32, y4 = ((y1 + 1) &&& 15) → (∀ y5 : Int32, y5 = (y3 &&& 15) → (vp_in y1 16 ∧ (∀ kk7 : Int32, kk7 = (u.2.2.1 y1.toNatClampNeg) → (((kk7 < 0 → (post ((y4, u.1.2.1, u.1.2.2.1, u.1.2.2.2.1, u.1.2.2.2.2.1, u.1.2.2.2.2.2), u.2.1, u.2.2.1, u.2.2.2.1, u.2.2.2.2.1, u.2.2.2.2.2))) ∧ (¬ kk7 < 0 → (((13 < kk7 → (post ((y4, u.1.2.1, u.1.2.2.1, u.1.2.2.2.1, u.1.2.2.2.2.1, u.1.2.2.2.2.2), u.2.1, u.2.2.1, u.2.2.2.1, u.2.2.2.2.1, u.2.2.2.2.2))) ∧ (¬ 13 < kk7 → (((kk7 = 0 → (post ((y1, u.1.2.1, u.1.2.2.1, u.1.2.2.2.1, u.1.2.2.2.2.1, u.1.2.2.2.2.2), u.2.1, u.2.2.1, u.2.2.2.1, u.2.2.2.2.1, u.2.2.2.2.2))) ∧ (¬ kk7 = 0 → (((kk7 = 1 → (post ((y4, y3, u.1.2.2.1, u.1.2.2.2.1, u.1.2.2.2.2.1, u.1.2.2.2.2.2), u.2.1, u.2.2.1, u.2.2.2.1, u.2.2.2.2.1, u.2.2.2.2.2))) ∧ (¬ kk7 = 1 → (((kk7 = 2 → (post ((y4, u.1.2.1, y3, u.1.2.2.2.1, u.1.2.2.2.2.1, u.1.2.2.2.2.2), u.2.1, u.2.2.1, u.2.2.2.1, u.2.2.2.2.1, u.2.2.2.2.2))) ∧ (¬ kk7 = 2 → (((kk7 = 3 → (wp_Ma_exchange (fun u15 => (post ((y4, u15.2.1, u15.2.2.1, u15.2.2.2.1, u15.2.2.2.2.1, u15.2.2.2.2.2), u.2.1, u.2.2.1, u.2.2.2.1, u.2.2.2.2.1, u.2.2.2.2.2))) u.1 )) ∧ (¬ kk7 = 3 → (((kk7 = 4 → (∀ f17 : Int32, f17 = (u.1.2.1 + u.1.2.2.1) → (post ((y4, f17, u.1.2.2.1, u.1.2.2.2.1, u.1.2.2.2.2.1, u.1.2.2.2.2.2), u.2.1, u.2.2.1, u.2.2.2.1, u.2.2.2.2.1, u.2.2.2.2.2)))) ∧ (¬ kk7 = 4 → (((kk7 = 5 → (∀ f19 : Int32, f19 = (u.1.2.1 - u.1.2.2.1) → (post ((y4, f19, u.1.2.2.1, u.1.2.2.2.1, u.1.2.2.2.2.1, u.1.2.2.2.2.2), u.2.1, u.2.2.1, u.2.2.2.1, u.2.2.2.2.1, u.2.2.2.2.2)))) ∧ (¬ kk7 = 5 → (((kk7 = 6 → (∀ f21 : Int32, f21 = (u.1.2.1 * u.1.2.2.1) → (post ((y4, f21, u.1.2.2.1, u.1.2.2.2.1, u.1.2.2.2.2.1, u.1.2.2.2.2.2), u.2.1, u.2.2.1, u.2.2.2.1, u.2.2.2.2.1, u.2.2.2.2.2)))) ∧ (¬ kk7 = 6 → (((kk7 = 7 → (wp_Ma_cellPlace (fun r23 u24 => (vp_in r23 8 ∧ (∀ f26 : Int32, f26 = (u.2.1 r23.toNatClampNeg) → (post ((y4, f26, u24.2.2.1, u24.2.2.2.1, u24.2.2.2.2.1, u24.2.2.2.2.2), u.2.1, u.2.2.1, u.2.2.2.1, u.2.2.2.2.1, u.2.2.2.2.2))))) u.1 )) ∧ (¬ kk7 = 7 → (((kk7 = 8 → (wp_Ma_cellPlace (fun r28 u29 => (vp_in r28 8 ∧ (post ((y4, u29.2.1, u29.2.2.1, u29.2.2.2.1, u29.2.2.2.2.1, u29.2.2.2.2.2), (upd u.2.1 r28.toNatClampNeg u29.2.1), u.2.2.1, u.2.2.2.1, u.2.2.2.2.1, u.2.2.2.2.2)))) u.1 )) ∧ (¬ kk7 = 8 → (((kk7 = 9 → (wp_Ma_takeWord (fun r32 u33 => (((r32 = 0 → (post ((y1, u33.1.2.1, u33.1.2.2.1, u33.1.2.2.2.1, u33.1.2.2.2.2.1, u33.1.2.2.2.2.2), u.2.1, u.2.2.1, u.2.2.2.1, u33.2.1, u33.2.2))) ∧ (¬ r32 = 0 → (post ((y4, u33.1.2.1, u33.1.2.2.1, u33.1.2.2.2.1, u33.1.2.2.2.2.1, u33.1.2.2.2.2.2), u.2.1, u.2.2.1, u.2.2.2.1, u33.2.1, u33.2.2)))))) (u.1, u.2.2.2.2.1, u.2.2.2.2.2) k3 )) ∧ (¬ kk7 = 9 → (((kk7 = 10 → (post ((y5, u.1.2.1, u.1.2.2.1, u.1.2.2.2.1, u.1.2.2.2.2.1, u.1.2.2.2.2.2), u.2.1, u.2.2.1, u.2.2.2.1, u.2.2.2.2.1, u.2.2.2.2.2))) ∧ (¬ kk7 = 10 → (((kk7 = 11 → (((u.1.2.1 = 0 → (post ((y5, u.1.2.1, u.1.2.2.1, u.1.2.2.2.1, u.1.2.2.2.2.1, u.1.2.2.2.2.2), u.2.1, u.2.2.1, u.2.2.2.1, u.2.2.2.2.1, u.2.2.2.2.2))) ∧ (¬ u.1.2.1 = 0 → (post ((y4, u.1.2.1, u.1.2.2.1, u.1.2.2.2.1, u.1.2.2.2.2.1, u.1.2.2.2.2.2), u.2.1, u.2.2.1, u.2.2.2.1, u.2.2.2.2.1, u.2.2.2.2.2)))))) ∧ (¬ kk7 = 11 → (((kk7 = 12 → (((0 ≤ u.1.2.1 → (post ((y4, u.1.2.1, u.1.2.2.1, u.1.2.2.2.1, u.1.2.2.2.2.1, u.1.2.2.2.2.2), u.2.1, u.2.2.1, u.2.2.2.1, u.2.2.2.2.1, u.2.2.2.2.2))) ∧ (¬ 0 ≤ u.1.2.1 → (post ((y5, u.1.2.1, u.1.2.2.1, u.1.2.2.2.1, u.1.2.2.2.2.1, u.1.2.2.2.2.2), u.2.1, u.2.2.1, u.2.2.2.1, u.2.2.2.2.1, u.2.2.2.2.2)))))) ∧ (¬ kk7 = 12 → (((kk7 = 13 → (wp_Ma_makePayment (fun r41 u42 => (((r41 = 0 → (post ((y1, u42.2.1, u42.2.2.1, u42.2.2.2.1, u42.2.2.2.2.1, u42.2.2.2.2.2), u.2.1, u.2.2.1, u.2.2.2.1, u.2.2.2.2.1, u.2.2.2.2.2))) ∧ (¬ r41 = 0 → (post ((y4, u42.2.1, u42.2.2.1, u42.2.2.2.1, u42.2.2.2.2.1, u42.2.2.2.2.2), u.2.1, u.2.2.1, u.2.2.2.1, u.2.2.2.2.1, u.2.2.2.2.2)))))) u.1 )) ∧ (¬ kk7 = 13 → (True)))))))))))))))))))))))))))))))))))))))))))))))))))))))
set_option maxHeartbeats 4000000 in
set_option maxRecDepth 100000 in
theorem mt_Ma_step (l : Launch) (dC : Nat → ClassId) (dI : Nat → Nat → Nat) (h0 h0_cells h1 h1_ops h1_arguments h2 h2_words h0_tree : Nat) (c0_cells c1_ops c1_arguments c2_words : ClassId) (sz : Nat) (post : (ct_Ma × (Nat → Int32) × (Nat → Int32) × (Nat → Int32) × ct_In × (Nat → Int32)) → Prop) (u : ct_Ma × (Nat → Int32) × (Nat → Int32) × (Nat → Int32) × ct_In × (Nat → Int32)) (k3 : Int32) (hw : wp_Ma_step post u k3) : Met l yMa_step wsMa_step ({ frames := 2, cells := 0, slots := 0, locals := 45 }) (kp_P dC dI [.ref h0, .ref h1, .ref h2, .int k3] sz (ww_Ma_step h0 h0_cells h1 h1_ops h1_arguments h2 h2_words h0_tree c0_cells c1_ops c1_arguments c2_words u) [(c0_cells, .int), (c1_ops, .int), (c1_arguments, .int), (c2_words, .int)]) (va_Qv post (fun u9 => kp_B dC dI (va_A (ww_Ma_step h0 h0_cells h1 h1_ops h1_arguments h2 h2_words h0_tree c0_cells c1_ops c1_arguments c2_words u) sz) (ww_Ma_step h0 h0_cells h1 h1_ops h1_arguments h2 h2_words h0_tree c0_cells c1_ops c1_arguments c2_words u9) [(c0_cells, .int), (c1_ops, .int), (c1_arguments, .int), (c2_words, .int)]) (va_A (ww_Ma_step h0 h0_cells h1 h1_ops h1_arguments h2 h2_words h0_tree c0_cells c1_ops c1_arguments c2_words u) sz)) 0 0 (va_A (ww_Ma_step h0 h0_cells h1 h1_ops h1_arguments h2 h2_words h0_tree c0_cells c1_ops c1_arguments c2_words u) sz) := by
  refine Met.ofW (cc := cMa_step) (maxL := 8) (ret := none) (by decide) rfl ?_
  intro p e s m args below meth c s₁ B hml hv
  obtain ⟨rfl, hsz, hP, hK, hD0, hZ⟩ := hv
  have hx := B.exec
  have hb := B.bytes
  have hr := B.returns
  have hq : ∀ w ∈ wz, w.before _ s = true := fun w h => atoms_spec (ws := wsMa_step) B.pre w (List.mem_cons_of_mem _ h)
  have hown : s.vm.findClass "StepCourt$Machine" = some m.cls := findClass_of_methodNamed B.named
  have hlocks := B.notSynchronized
  subst hsz
  have hD := hD0.self (sz := s.heap.size)
  generalize hAe : va_A (ww_Ma_step h0 h0_cells h1 h1_ops h1_arguments h2 h2_words h0_tree c0_cells c1_ops c1_arguments c2_words u) s.heap.size = A at hD ⊢
  have hA : ∀ q : Nat, s.heap.size ≤ q → A q := fun q h => by rw [← hAe]; exact Or.inr h
  have hS : va_S A s.heap s.heap [] := va_S.rf
  have hP : va_P (dC, dI) vwCl [(h0, ce_Ma h0_cells h0_tree u.1), (h0_cells, .inl (c0_cells, 8, .inl u.2.1)), (h1, ce_Co h1_ops h1_arguments), (h1_ops, .inl (c1_ops, 16, .inl u.2.2.1)), (h1_arguments, .inl (c1_arguments, 16, .inl u.2.2.2.1)), (h2, ce_In h2_words u.2.2.2.2.1), (h2_words, .inl (c2_words, 60, .inl u.2.2.2.2.2))] s.heap := hP
  have hD : va_D A [(h0, ce_Ma h0_cells h0_tree u.1), (h0_cells, .inl (c0_cells, 8, .inl u.2.1)), (h1, ce_Co h1_ops h1_arguments), (h1_ops, .inl (c1_ops, 16, .inl u.2.2.1)), (h1_arguments, .inl (c1_arguments, 16, .inl u.2.2.2.1)), (h2, ce_In h2_words u.2.2.2.2.1), (h2_words, .inl (c2_words, 60, .inl u.2.2.2.2.2))] := hD
  have hl := lv_entry ([.ref h0, .ref h1, .ref h2, .int k3]) (n := 8) (Nat.le_of_ble_eq_true rfl)
  rw [lg_entry_eq]
  generalize (lg_sl ([.ref h0, .ref h1, .ref h2, .int k3]) ++ List.replicate (8 - (lg_sl ([.ref h0, .ref h1, .ref h2, .int k3])).length) Slot.unset).toArray = ls at hl ⊢
  have hl : lv_has ls 8 [(0, .ref h0), (1, .ref h1), (2, .ref h2), (3, .int k3)] := hl
  skip
  refine lv_aload_n hx hb dMa_step_0 rfl (lv_at hl 0 rfl) ?_
  refine va_get (D := (dC, dI)) (ci := 4) (v := .int u.1.1) (C := "StepCourt$Machine") (T := TMa) (N := 8) hx hb hq inMa hown hK hP 0 rfl rfl 2 (by decide) (hq _ wt_69) (fun _ h9 => h9) rfl dMa_step_1 ?_
  refine lv_bipush (v := 15) hx hb dMa_step_4 (by decide) ?_
  refine lv_iand hx hb dMa_step_6 ?_
  refine lv_topi (fun y1 ey1 => ?_)
  have hw := hw y1 ey1
  refine lv_istore (lv' := [(4, .int y1), (0, .ref h0), (1, .ref h1), (2, .ref h2), (3, .int k3)]) hx hb dMa_step_7 hl (by decide) rfl (fun ls hl => ?_)
  refine lv_aload_n hx hb dMa_step_9 rfl (lv_at hl 2 rfl) ?_
  refine va_getN (D := (dC, dI)) (ci := 1) (v := .ref h1_arguments) (C := "StepCourt$Code") (T := TCo) (N := 2) hx hb hq inCo hown hK hP 2 rfl rfl 1 (by decide) (va_Nw.use rfl (hZ.1 _ zt_38)) (fun _ h9 => h9) rfl dMa_step_10 ?_
  refine lv_iload hx hb dMa_step_13 (lv_at hl 0 rfl) ?_
  obtain ⟨hh2, hw⟩ := hw
  refine va_iald hx hb hK hP 4 2 rfl rfl hh2 dMa_step_15 ?_
  refine lv_topi (fun y3 ey3 => ?_)
  have hw := hw y3 ey3
  refine lv_istore (lv' := [(5, .int y3), (4, .int y1), (0, .ref h0), (1, .ref h1), (2, .ref h2), (3, .int k3)]) hx hb dMa_step_16 hl (by decide) rfl (fun ls hl => ?_)
  refine lv_iload hx hb dMa_step_18 (lv_at hl 1 rfl) ?_
  refine lv_iconst (v := 1) hx hb dMa_step_20 (by decide) ?_
  refine lv_iadd hx hb dMa_step_21 ?_
  refine lv_bipush (v := 15) hx hb dMa_step_22 (by decide) ?_
  refine lv_iand hx hb dMa_step_24 ?_
  refine lv_topi (fun y4 ey4 => ?_)
  have hw := hw y4 ey4
  refine lv_istore (lv' := [(6, .int y4), (5, .int y3), (4, .int y1), (0, .ref h0), (1, .ref h1), (2, .ref h2), (3, .int k3)]) hx hb dMa_step_25 hl (by decide) rfl (fun ls hl => ?_)
  refine lv_iload hx hb dMa_step_27 (lv_at hl 1 rfl) ?_
  refine lv_bipush (v := 15) hx hb dMa_step_29 (by decide) ?_
  refine lv_iand hx hb dMa_step_31 ?_
  refine lv_topi (fun y5 ey5 => ?_)
  have hw := hw y5 ey5
  refine lv_istore (lv' := [(7, .int y5), (6, .int y4), (5, .int y3), (4, .int y1), (0, .ref h0), (1, .ref h1), (2, .ref h2), (3, .int k3)]) hx hb dMa_step_32 hl (by decide) rfl (fun ls hl => ?_)
  refine lv_aload_n hx hb dMa_step_34 rfl (lv_at hl 5 rfl) ?_
  refine va_getN (D := (dC, dI)) (ci := 1) (v := .ref h1_ops) (C := "StepCourt$Code") (T := TCo) (N := 2) hx hb hq inCo hown hK hP 2 rfl rfl 0 (by decide) (va_Nw.use rfl (hZ.1 _ zt_35)) (fun _ h9 => h9) rfl dMa_step_35 ?_
  refine lv_iload hx hb dMa_step_38 (lv_at hl 3 rfl) ?_
  obtain ⟨hh6, hw⟩ := hw
  refine va_iald hx hb hK hP 3 1 rfl rfl hh6 dMa_step_40 ?_
  refine lv_topi (fun kk7 ekk7 => ?_)
  have hw := hw kk7 ekk7
  by_cases cc8 : kk7 < 0
  · have hw := hw.1 cc8
    refine lv_tableOut (tgt := 309) hx hb dMa_step_41 (Or.inl (by have q := Int32.lt_iff_toInt_lt.mp cc8; rw [show (0 : Int32).toInt = 0 by decide] at q; exact q)) (by decide) ?_
    refine lv_aload_n hx hb dMa_step_309 rfl (lv_at hl 4 rfl) ?_
    refine lv_iload hx hb dMa_step_310 (lv_at hl 1 rfl) ?_
    refine va_put (D := (dC, dI)) (ci := 4) (v := .int y4) (ty := .int) (C := "StepCourt$Machine") (T := TMa) (N := 8) hx hb hq inMa tyMa tyMa_ok nmMa hown hK hP hD hS 0 rfl rfl 2 (by decide) (hq _ wt_69) (fun _ h9 => h9) rfl (by decide +kernel) rfl rfl (Nat.le_of_ble_eq_true rfl) dMa_step_312 (fun H locs hP hD hS => ?_)
    have hP : va_P (dC, dI) vwCl [(h0, ce_Ma h0_cells h0_tree (y4, u.1.2.1, u.1.2.2.1, u.1.2.2.2.1, u.1.2.2.2.2.1, u.1.2.2.2.2.2)), (h0_cells, .inl (c0_cells, 8, .inl u.2.1)), (h1, ce_Co h1_ops h1_arguments), (h1_ops, .inl (c1_ops, 16, .inl u.2.2.1)), (h1_arguments, .inl (c1_arguments, 16, .inl u.2.2.2.1)), (h2, ce_In h2_words u.2.2.2.2.1), (h2_words, .inl (c2_words, 60, .inl u.2.2.2.2.2))] H := hP
    have hD : va_D A [(h0, ce_Ma h0_cells h0_tree (y4, u.1.2.1, u.1.2.2.1, u.1.2.2.2.1, u.1.2.2.2.2.1, u.1.2.2.2.2.2)), (h0_cells, .inl (c0_cells, 8, .inl u.2.1)), (h1, ce_Co h1_ops h1_arguments), (h1_ops, .inl (c1_ops, 16, .inl u.2.2.1)), (h1_arguments, .inl (c1_arguments, 16, .inl u.2.2.2.1)), (h2, ce_In h2_words u.2.2.2.2.1), (h2_words, .inl (c2_words, 60, .inl u.2.2.2.2.2))] := hD
    have hP9 := hP.sub (ws' := [(h0, ce_Ma h0_cells h0_tree (y4, u.1.2.1, u.1.2.2.1, u.1.2.2.2.1, u.1.2.2.2.2.1, u.1.2.2.2.2.2)), (h0_cells, .inl (c0_cells, 8, .inl u.2.1)), (h1, ce_Co h1_ops h1_arguments), (h1_ops, .inl (c1_ops, 16, .inl u.2.2.1)), (h1_arguments, .inl (c1_arguments, 16, .inl u.2.2.2.1)), (h2, ce_In h2_words u.2.2.2.2.1), (h2_words, .inl (c2_words, 60, .inl u.2.2.2.2.2))]) [0, 1, 2, 3, 4, 5, 6] rfl
    have hD9 := hD.sub (ws' := [(h0, ce_Ma h0_cells h0_tree (y4, u.1.2.1, u.1.2.2.1, u.1.2.2.2.1, u.1.2.2.2.2.1, u.1.2.2.2.2.2)), (h0_cells, .inl (c0_cells, 8, .inl u.2.1)), (h1, ce_Co h1_ops h1_arguments), (h1_ops, .inl (c1_ops, 16, .inl u.2.2.1)), (h1_arguments, .inl (c1_arguments, 16, .inl u.2.2.2.1)), (h2, ce_In h2_words u.2.2.2.2.1), (h2_words, .inl (c2_words, 60, .inl u.2.2.2.2.2))]) [0, 1, 2, 3, 4, 5, 6] (by decide) rfl
    have hK9 := hK.sub (tys' := [(c0_cells, .int), (c1_ops, .int), (c1_arguments, .int), (c2_words, .int)]) [0, 1, 2, 3] rfl
    exact W.vret hx hb hr (fun t ht hW => ⟨⟨((y4, u.1.2.1, u.1.2.2.1, u.1.2.2.2.1, u.1.2.2.2.2.1, u.1.2.2.2.2.2), u.2.1, u.2.2.1, u.2.2.2.1, u.2.2.2.2.1, u.2.2.2.2.2), rfl, hw, by rw [ht]; exact hP9, va_K.moved hW.alike hK9, hD9⟩, hS.F ht⟩) hS.2.2 dMa_step_315
  have hw := hw.2 cc8
  by_cases cc9 : 13 < kk7
  · have hw := hw.1 cc9
    refine lv_tableOut (tgt := 309) hx hb dMa_step_41 (Or.inr (by have q := Int32.lt_iff_toInt_lt.mp cc9; rw [show (13 : Int32).toInt = 13 by decide] at q; exact q)) (by decide) ?_
    refine lv_aload_n hx hb dMa_step_309 rfl (lv_at hl 4 rfl) ?_
    refine lv_iload hx hb dMa_step_310 (lv_at hl 1 rfl) ?_
    refine va_put (D := (dC, dI)) (ci := 4) (v := .int y4) (ty := .int) (C := "StepCourt$Machine") (T := TMa) (N := 8) hx hb hq inMa tyMa tyMa_ok nmMa hown hK hP hD hS 0 rfl rfl 2 (by decide) (hq _ wt_69) (fun _ h9 => h9) rfl (by decide +kernel) rfl rfl (Nat.le_of_ble_eq_true rfl) dMa_step_312 (fun H locs hP hD hS => ?_)
    have hP : va_P (dC, dI) vwCl [(h0, ce_Ma h0_cells h0_tree (y4, u.1.2.1, u.1.2.2.1, u.1.2.2.2.1, u.1.2.2.2.2.1, u.1.2.2.2.2.2)), (h0_cells, .inl (c0_cells, 8, .inl u.2.1)), (h1, ce_Co h1_ops h1_arguments), (h1_ops, .inl (c1_ops, 16, .inl u.2.2.1)), (h1_arguments, .inl (c1_arguments, 16, .inl u.2.2.2.1)), (h2, ce_In h2_words u.2.2.2.2.1), (h2_words, .inl (c2_words, 60, .inl u.2.2.2.2.2))] H := hP
    have hD : va_D A [(h0, ce_Ma h0_cells h0_tree (y4, u.1.2.1, u.1.2.2.1, u.1.2.2.2.1, u.1.2.2.2.2.1, u.1.2.2.2.2.2)), (h0_cells, .inl (c0_cells, 8, .inl u.2.1)), (h1, ce_Co h1_ops h1_arguments), (h1_ops, .inl (c1_ops, 16, .inl u.2.2.1)), (h1_arguments, .inl (c1_arguments, 16, .inl u.2.2.2.1)), (h2, ce_In h2_words u.2.2.2.2.1), (h2_words, .inl (c2_words, 60, .inl u.2.2.2.2.2))] := hD
    have hP9 := hP.sub (ws' := [(h0, ce_Ma h0_cells h0_tree (y4, u.1.2.1, u.1.2.2.1, u.1.2.2.2.1, u.1.2.2.2.2.1, u.1.2.2.2.2.2)), (h0_cells, .inl (c0_cells, 8, .inl u.2.1)), (h1, ce_Co h1_ops h1_arguments), (h1_ops, .inl (c1_ops, 16, .inl u.2.2.1)), (h1_arguments, .inl (c1_arguments, 16, .inl u.2.2.2.1)), (h2, ce_In h2_words u.2.2.2.2.1), (h2_words, .inl (c2_words, 60, .inl u.2.2.2.2.2))]) [0, 1, 2, 3, 4, 5, 6] rfl
    have hD9 := hD.sub (ws' := [(h0, ce_Ma h0_cells h0_tree (y4, u.1.2.1, u.1.2.2.1, u.1.2.2.2.1, u.1.2.2.2.2.1, u.1.2.2.2.2.2)), (h0_cells, .inl (c0_cells, 8, .inl u.2.1)), (h1, ce_Co h1_ops h1_arguments), (h1_ops, .inl (c1_ops, 16, .inl u.2.2.1)), (h1_arguments, .inl (c1_arguments, 16, .inl u.2.2.2.1)), (h2, ce_In h2_words u.2.2.2.2.1), (h2_words, .inl (c2_words, 60, .inl u.2.2.2.2.2))]) [0, 1, 2, 3, 4, 5, 6] (by decide) rfl
    have hK9 := hK.sub (tys' := [(c0_cells, .int), (c1_ops, .int), (c1_arguments, .int), (c2_words, .int)]) [0, 1, 2, 3] rfl
    exact W.vret hx hb hr (fun t ht hW => ⟨⟨((y4, u.1.2.1, u.1.2.2.1, u.1.2.2.2.1, u.1.2.2.2.2.1, u.1.2.2.2.2.2), u.2.1, u.2.2.1, u.2.2.2.1, u.2.2.2.2.1, u.2.2.2.2.2), rfl, hw, by rw [ht]; exact hP9, va_K.moved hW.alike hK9, hD9⟩, hS.F ht⟩) hS.2.2 dMa_step_315
  have hw := hw.2 cc9
  by_cases cc10 : kk7 = 0
  · have hw := hw.1 cc10
    refine lv_tableIn (off := 71) (tgt := 112) hx hb dMa_step_41 (by rw [cc10]; decide) (by rw [cc10]; decide) (by rw [cc10]; decide) (by decide) ?_
    refine lv_iload hx hb dMa_step_112 (lv_at hl 3 rfl) ?_
    refine lv_istore (lv' := [(6, .int y1), (7, .int y5), (5, .int y3), (4, .int y1), (0, .ref h0), (1, .ref h1), (2, .ref h2), (3, .int k3)]) hx hb dMa_step_114 hl (by decide) rfl (fun ls hl => ?_)
    refine lv_goto (tgt := 309) hx hb dMa_step_116 (by decide) ?_
    refine lv_aload_n hx hb dMa_step_309 rfl (lv_at hl 4 rfl) ?_
    refine lv_iload hx hb dMa_step_310 (lv_at hl 0 rfl) ?_
    refine va_put (D := (dC, dI)) (ci := 4) (v := .int y1) (ty := .int) (C := "StepCourt$Machine") (T := TMa) (N := 8) hx hb hq inMa tyMa tyMa_ok nmMa hown hK hP hD hS 0 rfl rfl 2 (by decide) (hq _ wt_69) (fun _ h9 => h9) rfl (by decide +kernel) rfl rfl (Nat.le_of_ble_eq_true rfl) dMa_step_312 (fun H locs hP hD hS => ?_)
    have hP : va_P (dC, dI) vwCl [(h0, ce_Ma h0_cells h0_tree (y1, u.1.2.1, u.1.2.2.1, u.1.2.2.2.1, u.1.2.2.2.2.1, u.1.2.2.2.2.2)), (h0_cells, .inl (c0_cells, 8, .inl u.2.1)), (h1, ce_Co h1_ops h1_arguments), (h1_ops, .inl (c1_ops, 16, .inl u.2.2.1)), (h1_arguments, .inl (c1_arguments, 16, .inl u.2.2.2.1)), (h2, ce_In h2_words u.2.2.2.2.1), (h2_words, .inl (c2_words, 60, .inl u.2.2.2.2.2))] H := hP
    have hD : va_D A [(h0, ce_Ma h0_cells h0_tree (y1, u.1.2.1, u.1.2.2.1, u.1.2.2.2.1, u.1.2.2.2.2.1, u.1.2.2.2.2.2)), (h0_cells, .inl (c0_cells, 8, .inl u.2.1)), (h1, ce_Co h1_ops h1_arguments), (h1_ops, .inl (c1_ops, 16, .inl u.2.2.1)), (h1_arguments, .inl (c1_arguments, 16, .inl u.2.2.2.1)), (h2, ce_In h2_words u.2.2.2.2.1), (h2_words, .inl (c2_words, 60, .inl u.2.2.2.2.2))] := hD
    have hP9 := hP.sub (ws' := [(h0, ce_Ma h0_cells h0_tree (y1, u.1.2.1, u.1.2.2.1, u.1.2.2.2.1, u.1.2.2.2.2.1, u.1.2.2.2.2.2)), (h0_cells, .inl (c0_cells, 8, .inl u.2.1)), (h1, ce_Co h1_ops h1_arguments), (h1_ops, .inl (c1_ops, 16, .inl u.2.2.1)), (h1_arguments, .inl (c1_arguments, 16, .inl u.2.2.2.1)), (h2, ce_In h2_words u.2.2.2.2.1), (h2_words, .inl (c2_words, 60, .inl u.2.2.2.2.2))]) [0, 1, 2, 3, 4, 5, 6] rfl
    have hD9 := hD.sub (ws' := [(h0, ce_Ma h0_cells h0_tree (y1, u.1.2.1, u.1.2.2.1, u.1.2.2.2.1, u.1.2.2.2.2.1, u.1.2.2.2.2.2)), (h0_cells, .inl (c0_cells, 8, .inl u.2.1)), (h1, ce_Co h1_ops h1_arguments), (h1_ops, .inl (c1_ops, 16, .inl u.2.2.1)), (h1_arguments, .inl (c1_arguments, 16, .inl u.2.2.2.1)), (h2, ce_In h2_words u.2.2.2.2.1), (h2_words, .inl (c2_words, 60, .inl u.2.2.2.2.2))]) [0, 1, 2, 3, 4, 5, 6] (by decide) rfl
    have hK9 := hK.sub (tys' := [(c0_cells, .int), (c1_ops, .int), (c1_arguments, .int), (c2_words, .int)]) [0, 1, 2, 3] rfl
    exact W.vret hx hb hr (fun t ht hW => ⟨⟨((y1, u.1.2.1, u.1.2.2.1, u.1.2.2.2.1, u.1.2.2.2.2.1, u.1.2.2.2.2.2), u.2.1, u.2.2.1, u.2.2.2.1, u.2.2.2.2.1, u.2.2.2.2.2), rfl, hw, by rw [ht]; exact hP9, va_K.moved hW.alike hK9, hD9⟩, hS.F ht⟩) hS.2.2 dMa_step_315
  have hw := hw.2 cc10
  by_cases cc11 : kk7 = 1
  · have hw := hw.1 cc11
    refine lv_tableIn (off := 78) (tgt := 119) hx hb dMa_step_41 (by rw [cc11]; decide) (by rw [cc11]; decide) (by rw [cc11]; decide) (by decide) ?_
    refine lv_aload_n hx hb dMa_step_119 rfl (lv_at hl 4 rfl) ?_
    refine lv_iload hx hb dMa_step_120 (lv_at hl 2 rfl) ?_
    refine va_put (D := (dC, dI)) (ci := 4) (v := .int y3) (ty := .int) (C := "StepCourt$Machine") (T := TMa) (N := 8) hx hb hq inMa tyMa tyMa_ok nmMa hown hK hP hD hS 0 rfl rfl 3 (by decide) (hq _ wt_72) (fun _ h9 => h9) rfl (by decide +kernel) rfl rfl (Nat.le_of_ble_eq_true rfl) dMa_step_122 (fun H locs hP hD hS => ?_)
    have hP : va_P (dC, dI) vwCl [(h0, ce_Ma h0_cells h0_tree (u.1.1, y3, u.1.2.2.1, u.1.2.2.2.1, u.1.2.2.2.2.1, u.1.2.2.2.2.2)), (h0_cells, .inl (c0_cells, 8, .inl u.2.1)), (h1, ce_Co h1_ops h1_arguments), (h1_ops, .inl (c1_ops, 16, .inl u.2.2.1)), (h1_arguments, .inl (c1_arguments, 16, .inl u.2.2.2.1)), (h2, ce_In h2_words u.2.2.2.2.1), (h2_words, .inl (c2_words, 60, .inl u.2.2.2.2.2))] H := hP
    have hD : va_D A [(h0, ce_Ma h0_cells h0_tree (u.1.1, y3, u.1.2.2.1, u.1.2.2.2.1, u.1.2.2.2.2.1, u.1.2.2.2.2.2)), (h0_cells, .inl (c0_cells, 8, .inl u.2.1)), (h1, ce_Co h1_ops h1_arguments), (h1_ops, .inl (c1_ops, 16, .inl u.2.2.1)), (h1_arguments, .inl (c1_arguments, 16, .inl u.2.2.2.1)), (h2, ce_In h2_words u.2.2.2.2.1), (h2_words, .inl (c2_words, 60, .inl u.2.2.2.2.2))] := hD
    refine lv_goto (tgt := 309) hx hb dMa_step_125 (by decide) ?_
    refine lv_aload_n hx hb dMa_step_309 rfl (lv_at hl 4 rfl) ?_
    refine lv_iload hx hb dMa_step_310 (lv_at hl 1 rfl) ?_
    refine va_put (D := (dC, dI)) (ci := 4) (v := .int y4) (ty := .int) (C := "StepCourt$Machine") (T := TMa) (N := 8) hx hb hq inMa tyMa tyMa_ok nmMa hown hK hP hD hS 0 rfl rfl 2 (by decide) (hq _ wt_69) (fun _ h9 => h9) rfl (by decide +kernel) rfl rfl (Nat.le_of_ble_eq_true rfl) dMa_step_312 (fun H locs hP hD hS => ?_)
    have hP : va_P (dC, dI) vwCl [(h0, ce_Ma h0_cells h0_tree (y4, y3, u.1.2.2.1, u.1.2.2.2.1, u.1.2.2.2.2.1, u.1.2.2.2.2.2)), (h0_cells, .inl (c0_cells, 8, .inl u.2.1)), (h1, ce_Co h1_ops h1_arguments), (h1_ops, .inl (c1_ops, 16, .inl u.2.2.1)), (h1_arguments, .inl (c1_arguments, 16, .inl u.2.2.2.1)), (h2, ce_In h2_words u.2.2.2.2.1), (h2_words, .inl (c2_words, 60, .inl u.2.2.2.2.2))] H := hP
    have hD : va_D A [(h0, ce_Ma h0_cells h0_tree (y4, y3, u.1.2.2.1, u.1.2.2.2.1, u.1.2.2.2.2.1, u.1.2.2.2.2.2)), (h0_cells, .inl (c0_cells, 8, .inl u.2.1)), (h1, ce_Co h1_ops h1_arguments), (h1_ops, .inl (c1_ops, 16, .inl u.2.2.1)), (h1_arguments, .inl (c1_arguments, 16, .inl u.2.2.2.1)), (h2, ce_In h2_words u.2.2.2.2.1), (h2_words, .inl (c2_words, 60, .inl u.2.2.2.2.2))] := hD
    have hP9 := hP.sub (ws' := [(h0, ce_Ma h0_cells h0_tree (y4, y3, u.1.2.2.1, u.1.2.2.2.1, u.1.2.2.2.2.1, u.1.2.2.2.2.2)), (h0_cells, .inl (c0_cells, 8, .inl u.2.1)), (h1, ce_Co h1_ops h1_arguments), (h1_ops, .inl (c1_ops, 16, .inl u.2.2.1)), (h1_arguments, .inl (c1_arguments, 16, .inl u.2.2.2.1)), (h2, ce_In h2_words u.2.2.2.2.1), (h2_words, .inl (c2_words, 60, .inl u.2.2.2.2.2))]) [0, 1, 2, 3, 4, 5, 6] rfl
    have hD9 := hD.sub (ws' := [(h0, ce_Ma h0_cells h0_tree (y4, y3, u.1.2.2.1, u.1.2.2.2.1, u.1.2.2.2.2.1, u.1.2.2.2.2.2)), (h0_cells, .inl (c0_cells, 8, .inl u.2.1)), (h1, ce_Co h1_ops h1_arguments), (h1_ops, .inl (c1_ops, 16, .inl u.2.2.1)), (h1_arguments, .inl (c1_arguments, 16, .inl u.2.2.2.1)), (h2, ce_In h2_words u.2.2.2.2.1), (h2_words, .inl (c2_words, 60, .inl u.2.2.2.2.2))]) [0, 1, 2, 3, 4, 5, 6] (by decide) rfl
    have hK9 := hK.sub (tys' := [(c0_cells, .int), (c1_ops, .int), (c1_arguments, .int), (c2_words, .int)]) [0, 1, 2, 3] rfl
    exact W.vret hx hb hr (fun t ht hW => ⟨⟨((y4, y3, u.1.2.2.1, u.1.2.2.2.1, u.1.2.2.2.2.1, u.1.2.2.2.2.2), u.2.1, u.2.2.1, u.2.2.2.1, u.2.2.2.2.1, u.2.2.2.2.2), rfl, hw, by rw [ht]; exact hP9, va_K.moved hW.alike hK9, hD9⟩, hS.F ht⟩) hS.2.2 dMa_step_315
  have hw := hw.2 cc11
  by_cases cc12 : kk7 = 2
  · have hw := hw.1 cc12
    refine lv_tableIn (off := 87) (tgt := 128) hx hb dMa_step_41 (by rw [cc12]; decide) (by rw [cc12]; decide) (by rw [cc12]; decide) (by decide) ?_
    refine lv_aload_n hx hb dMa_step_128 rfl (lv_at hl 4 rfl) ?_
    refine lv_iload hx hb dMa_step_129 (lv_at hl 2 rfl) ?_
    refine va_put (D := (dC, dI)) (ci := 4) (v := .int y3) (ty := .int) (C := "StepCourt$Machine") (T := TMa) (N := 8) hx hb hq inMa tyMa tyMa_ok nmMa hown hK hP hD hS 0 rfl rfl 4 (by decide) (hq _ wt_75) (fun _ h9 => h9) rfl (by decide +kernel) rfl rfl (Nat.le_of_ble_eq_true rfl) dMa_step_131 (fun H locs hP hD hS => ?_)
    have hP : va_P (dC, dI) vwCl [(h0, ce_Ma h0_cells h0_tree (u.1.1, u.1.2.1, y3, u.1.2.2.2.1, u.1.2.2.2.2.1, u.1.2.2.2.2.2)), (h0_cells, .inl (c0_cells, 8, .inl u.2.1)), (h1, ce_Co h1_ops h1_arguments), (h1_ops, .inl (c1_ops, 16, .inl u.2.2.1)), (h1_arguments, .inl (c1_arguments, 16, .inl u.2.2.2.1)), (h2, ce_In h2_words u.2.2.2.2.1), (h2_words, .inl (c2_words, 60, .inl u.2.2.2.2.2))] H := hP
    have hD : va_D A [(h0, ce_Ma h0_cells h0_tree (u.1.1, u.1.2.1, y3, u.1.2.2.2.1, u.1.2.2.2.2.1, u.1.2.2.2.2.2)), (h0_cells, .inl (c0_cells, 8, .inl u.2.1)), (h1, ce_Co h1_ops h1_arguments), (h1_ops, .inl (c1_ops, 16, .inl u.2.2.1)), (h1_arguments, .inl (c1_arguments, 16, .inl u.2.2.2.1)), (h2, ce_In h2_words u.2.2.2.2.1), (h2_words, .inl (c2_words, 60, .inl u.2.2.2.2.2))] := hD
    refine lv_goto (tgt := 309) hx hb dMa_step_134 (by decide) ?_
    refine lv_aload_n hx hb dMa_step_309 rfl (lv_at hl 4 rfl) ?_
    refine lv_iload hx hb dMa_step_310 (lv_at hl 1 rfl) ?_
    refine va_put (D := (dC, dI)) (ci := 4) (v := .int y4) (ty := .int) (C := "StepCourt$Machine") (T := TMa) (N := 8) hx hb hq inMa tyMa tyMa_ok nmMa hown hK hP hD hS 0 rfl rfl 2 (by decide) (hq _ wt_69) (fun _ h9 => h9) rfl (by decide +kernel) rfl rfl (Nat.le_of_ble_eq_true rfl) dMa_step_312 (fun H locs hP hD hS => ?_)
    have hP : va_P (dC, dI) vwCl [(h0, ce_Ma h0_cells h0_tree (y4, u.1.2.1, y3, u.1.2.2.2.1, u.1.2.2.2.2.1, u.1.2.2.2.2.2)), (h0_cells, .inl (c0_cells, 8, .inl u.2.1)), (h1, ce_Co h1_ops h1_arguments), (h1_ops, .inl (c1_ops, 16, .inl u.2.2.1)), (h1_arguments, .inl (c1_arguments, 16, .inl u.2.2.2.1)), (h2, ce_In h2_words u.2.2.2.2.1), (h2_words, .inl (c2_words, 60, .inl u.2.2.2.2.2))] H := hP
    have hD : va_D A [(h0, ce_Ma h0_cells h0_tree (y4, u.1.2.1, y3, u.1.2.2.2.1, u.1.2.2.2.2.1, u.1.2.2.2.2.2)), (h0_cells, .inl (c0_cells, 8, .inl u.2.1)), (h1, ce_Co h1_ops h1_arguments), (h1_ops, .inl (c1_ops, 16, .inl u.2.2.1)), (h1_arguments, .inl (c1_arguments, 16, .inl u.2.2.2.1)), (h2, ce_In h2_words u.2.2.2.2.1), (h2_words, .inl (c2_words, 60, .inl u.2.2.2.2.2))] := hD
    have hP9 := hP.sub (ws' := [(h0, ce_Ma h0_cells h0_tree (y4, u.1.2.1, y3, u.1.2.2.2.1, u.1.2.2.2.2.1, u.1.2.2.2.2.2)), (h0_cells, .inl (c0_cells, 8, .inl u.2.1)), (h1, ce_Co h1_ops h1_arguments), (h1_ops, .inl (c1_ops, 16, .inl u.2.2.1)), (h1_arguments, .inl (c1_arguments, 16, .inl u.2.2.2.1)), (h2, ce_In h2_words u.2.2.2.2.1), (h2_words, .inl (c2_words, 60, .inl u.2.2.2.2.2))]) [0, 1, 2, 3, 4, 5, 6] rfl
    have hD9 := hD.sub (ws' := [(h0, ce_Ma h0_cells h0_tree (y4, u.1.2.1, y3, u.1.2.2.2.1, u.1.2.2.2.2.1, u.1.2.2.2.2.2)), (h0_cells, .inl (c0_cells, 8, .inl u.2.1)), (h1, ce_Co h1_ops h1_arguments), (h1_ops, .inl (c1_ops, 16, .inl u.2.2.1)), (h1_arguments, .inl (c1_arguments, 16, .inl u.2.2.2.1)), (h2, ce_In h2_words u.2.2.2.2.1), (h2_words, .inl (c2_words, 60, .inl u.2.2.2.2.2))]) [0, 1, 2, 3, 4, 5, 6] (by decide) rfl
    have hK9 := hK.sub (tys' := [(c0_cells, .int), (c1_ops, .int), (c1_arguments, .int), (c2_words, .int)]) [0, 1, 2, 3] rfl
    exact W.vret hx hb hr (fun t ht hW => ⟨⟨((y4, u.1.2.1, y3, u.1.2.2.2.1, u.1.2.2.2.2.1, u.1.2.2.2.2.2), u.2.1, u.2.2.1, u.2.2.2.1, u.2.2.2.2.1, u.2.2.2.2.2), rfl, hw, by rw [ht]; exact hP9, va_K.moved hW.alike hK9, hD9⟩, hS.F ht⟩) hS.2.2 dMa_step_315
  have hw := hw.2 cc12
  by_cases cc13 : kk7 = 3
  · have hw := hw.1 cc13
    refine lv_tableIn (off := 96) (tgt := 137) hx hb dMa_step_41 (by rw [cc13]; decide) (by rw [cc13]; decide) (by rw [cc13]; decide) (by decide) ?_
    refine lv_aload_n hx hb dMa_step_137 rfl (lv_at hl 4 rfl) ?_
    have hPc := hP.sub (ws' := [(h0, ce_Ma h0_cells h0_tree u.1)]) [0] rfl
    have hDc := hD.sub (ws' := [(h0, ce_Ma h0_cells h0_tree u.1)]) [0] (by decide) rfl
    have hKc := hK.sub (tys' := []) [] rfl
    have hFc := va_free (wc := [(h0, ce_Ma h0_cells h0_tree u.1)]) hD hS hA [0] rfl
    refine va_callv (va_runV (As := []) (rest := []) ⟨hx, hb, hml, hown, hq⟩ (mt_Ma_exchange l dC dI h0 h0_cells h0_tree s.heap.size _ u.1 hw) ⟨cq_B 0 hq wt_348 wt_345 wt_4 rfl rfl hd_Ma_exchange ⟨Nat.le_of_ble_eq_true rfl, Nat.le_of_ble_eq_true rfl⟩, (hq _ wt_347), (hq _ wv_8)⟩ ⟨kp_bl, va_recv hKc hPc (ci := 4) (q0 := 0) rfl rfl, kp_at hPc hKc hDc hZ⟩ rfl rfl hl.1 rfl (lv_room (Nat.le_of_ble_eq_true rfl)) dMa_step_138 ⟨(by decide), (by decide)⟩) hS (fun q _ h => hFc q h) hFc (fun u15 t H1 locs ht hvm hw hB hz1 hk1 hS => ?_)
    obtain ⟨hP1, hK1, hD1⟩ := hB
    rw [ht] at hP1
    have hK1 := va_K.moved hvm.symm hK1
    obtain ⟨hP, hD⟩ := va_join (wr := [(h0_cells, .inl (c0_cells, 8, .inl u.2.1)), (h1, ce_Co h1_ops h1_arguments), (h1_ops, .inl (c1_ops, 16, .inl u.2.2.1)), (h1_arguments, .inl (c1_arguments, 16, .inl u.2.2.2.1)), (h2, ce_In h2_words u.2.2.2.2.1), (h2_words, .inl (c2_words, 60, .inl u.2.2.2.2.2))]) (w1 := [(h0, ce_Ma h0_cells h0_tree u15)]) hP hD [0] [1, 2, 3, 4, 5, 6] rfl rfl (by decide) (by decide) hk1 hFc hP1 hD1
    have hK := (hK.sub (tys' := [(c0_cells, .int), (c1_ops, .int), (c1_arguments, .int), (c2_words, .int)]) [0, 1, 2, 3] rfl).app hK1
    generalize H1 = H at hP hS ⊢
    have hP : va_P (dC, dI) vwCl [(h0_cells, .inl (c0_cells, 8, .inl u.2.1)), (h1, ce_Co h1_ops h1_arguments), (h1_ops, .inl (c1_ops, 16, .inl u.2.2.1)), (h1_arguments, .inl (c1_arguments, 16, .inl u.2.2.2.1)), (h2, ce_In h2_words u.2.2.2.2.1), (h2_words, .inl (c2_words, 60, .inl u.2.2.2.2.2)), (h0, ce_Ma h0_cells h0_tree u15)] H := hP
    have hD : va_D A [(h0_cells, .inl (c0_cells, 8, .inl u.2.1)), (h1, ce_Co h1_ops h1_arguments), (h1_ops, .inl (c1_ops, 16, .inl u.2.2.1)), (h1_arguments, .inl (c1_arguments, 16, .inl u.2.2.2.1)), (h2, ce_In h2_words u.2.2.2.2.1), (h2_words, .inl (c2_words, 60, .inl u.2.2.2.2.2)), (h0, ce_Ma h0_cells h0_tree u15)] := hD
    have hK : va_K (dC, dI) vwCl [(c0_cells, .int), (c1_ops, .int), (c1_arguments, .int), (c2_words, .int)] s := hK
    refine lv_goto (tgt := 309) hx hb dMa_step_141 (by decide) ?_
    refine lv_aload_n hx hb dMa_step_309 rfl (lv_at hl 4 rfl) ?_
    refine lv_iload hx hb dMa_step_310 (lv_at hl 1 rfl) ?_
    refine va_put (D := (dC, dI)) (ci := 4) (v := .int y4) (ty := .int) (C := "StepCourt$Machine") (T := TMa) (N := 8) hx hb hq inMa tyMa tyMa_ok nmMa hown hK hP hD hS 6 rfl rfl 2 (by decide) (hq _ wt_69) (fun _ h9 => h9) rfl (by decide +kernel) rfl rfl (Nat.le_of_ble_eq_true rfl) dMa_step_312 (fun H locs hP hD hS => ?_)
    have hP : va_P (dC, dI) vwCl [(h0_cells, .inl (c0_cells, 8, .inl u.2.1)), (h1, ce_Co h1_ops h1_arguments), (h1_ops, .inl (c1_ops, 16, .inl u.2.2.1)), (h1_arguments, .inl (c1_arguments, 16, .inl u.2.2.2.1)), (h2, ce_In h2_words u.2.2.2.2.1), (h2_words, .inl (c2_words, 60, .inl u.2.2.2.2.2)), (h0, ce_Ma h0_cells h0_tree (y4, u15.2.1, u15.2.2.1, u15.2.2.2.1, u15.2.2.2.2.1, u15.2.2.2.2.2))] H := hP
    have hD : va_D A [(h0_cells, .inl (c0_cells, 8, .inl u.2.1)), (h1, ce_Co h1_ops h1_arguments), (h1_ops, .inl (c1_ops, 16, .inl u.2.2.1)), (h1_arguments, .inl (c1_arguments, 16, .inl u.2.2.2.1)), (h2, ce_In h2_words u.2.2.2.2.1), (h2_words, .inl (c2_words, 60, .inl u.2.2.2.2.2)), (h0, ce_Ma h0_cells h0_tree (y4, u15.2.1, u15.2.2.1, u15.2.2.2.1, u15.2.2.2.2.1, u15.2.2.2.2.2))] := hD
    have hP9 := hP.sub (ws' := [(h0, ce_Ma h0_cells h0_tree (y4, u15.2.1, u15.2.2.1, u15.2.2.2.1, u15.2.2.2.2.1, u15.2.2.2.2.2)), (h0_cells, .inl (c0_cells, 8, .inl u.2.1)), (h1, ce_Co h1_ops h1_arguments), (h1_ops, .inl (c1_ops, 16, .inl u.2.2.1)), (h1_arguments, .inl (c1_arguments, 16, .inl u.2.2.2.1)), (h2, ce_In h2_words u.2.2.2.2.1), (h2_words, .inl (c2_words, 60, .inl u.2.2.2.2.2))]) [6, 0, 1, 2, 3, 4, 5] rfl
    have hD9 := hD.sub (ws' := [(h0, ce_Ma h0_cells h0_tree (y4, u15.2.1, u15.2.2.1, u15.2.2.2.1, u15.2.2.2.2.1, u15.2.2.2.2.2)), (h0_cells, .inl (c0_cells, 8, .inl u.2.1)), (h1, ce_Co h1_ops h1_arguments), (h1_ops, .inl (c1_ops, 16, .inl u.2.2.1)), (h1_arguments, .inl (c1_arguments, 16, .inl u.2.2.2.1)), (h2, ce_In h2_words u.2.2.2.2.1), (h2_words, .inl (c2_words, 60, .inl u.2.2.2.2.2))]) [6, 0, 1, 2, 3, 4, 5] (by decide) rfl
    have hK9 := hK.sub (tys' := [(c0_cells, .int), (c1_ops, .int), (c1_arguments, .int), (c2_words, .int)]) [0, 1, 2, 3] rfl
    exact W.vret hx hb hr (fun t ht hW => ⟨⟨((y4, u15.2.1, u15.2.2.1, u15.2.2.2.1, u15.2.2.2.2.1, u15.2.2.2.2.2), u.2.1, u.2.2.1, u.2.2.2.1, u.2.2.2.2.1, u.2.2.2.2.2), rfl, hw, by rw [ht]; exact hP9, va_K.moved hW.alike hK9, hD9⟩, hS.F ht⟩) hS.2.2 dMa_step_315
  have hw := hw.2 cc13
  by_cases cc16 : kk7 = 4
  · have hw := hw.1 cc16
    refine lv_tableIn (off := 103) (tgt := 144) hx hb dMa_step_41 (by rw [cc16]; decide) (by rw [cc16]; decide) (by rw [cc16]; decide) (by decide) ?_
    refine lv_aload_n hx hb dMa_step_144 rfl (lv_at hl 4 rfl) ?_
    refine lv_aload_n hx hb dMa_step_145 rfl (lv_at hl 4 rfl) ?_
    refine va_get (D := (dC, dI)) (ci := 4) (v := .int u.1.2.1) (C := "StepCourt$Machine") (T := TMa) (N := 8) hx hb hq inMa hown hK hP 0 rfl rfl 3 (by decide) (hq _ wt_72) (fun _ h9 => h9) rfl dMa_step_146 ?_
    refine lv_aload_n hx hb dMa_step_149 rfl (lv_at hl 4 rfl) ?_
    refine va_get (D := (dC, dI)) (ci := 4) (v := .int u.1.2.2.1) (C := "StepCourt$Machine") (T := TMa) (N := 8) hx hb hq inMa hown hK hP 0 rfl rfl 4 (by decide) (hq _ wt_75) (fun _ h9 => h9) rfl dMa_step_150 ?_
    refine lv_iadd hx hb dMa_step_153 ?_
    refine lv_topi (fun f17 ef17 => ?_)
    have hw := hw f17 ef17
    refine va_put (D := (dC, dI)) (ci := 4) (v := .int f17) (ty := .int) (C := "StepCourt$Machine") (T := TMa) (N := 8) hx hb hq inMa tyMa tyMa_ok nmMa hown hK hP hD hS 0 rfl rfl 3 (by decide) (hq _ wt_72) (fun _ h9 => h9) rfl (by decide +kernel) rfl rfl (Nat.le_of_ble_eq_true rfl) dMa_step_154 (fun H locs hP hD hS => ?_)
    have hP : va_P (dC, dI) vwCl [(h0, ce_Ma h0_cells h0_tree (u.1.1, f17, u.1.2.2.1, u.1.2.2.2.1, u.1.2.2.2.2.1, u.1.2.2.2.2.2)), (h0_cells, .inl (c0_cells, 8, .inl u.2.1)), (h1, ce_Co h1_ops h1_arguments), (h1_ops, .inl (c1_ops, 16, .inl u.2.2.1)), (h1_arguments, .inl (c1_arguments, 16, .inl u.2.2.2.1)), (h2, ce_In h2_words u.2.2.2.2.1), (h2_words, .inl (c2_words, 60, .inl u.2.2.2.2.2))] H := hP
    have hD : va_D A [(h0, ce_Ma h0_cells h0_tree (u.1.1, f17, u.1.2.2.1, u.1.2.2.2.1, u.1.2.2.2.2.1, u.1.2.2.2.2.2)), (h0_cells, .inl (c0_cells, 8, .inl u.2.1)), (h1, ce_Co h1_ops h1_arguments), (h1_ops, .inl (c1_ops, 16, .inl u.2.2.1)), (h1_arguments, .inl (c1_arguments, 16, .inl u.2.2.2.1)), (h2, ce_In h2_words u.2.2.2.2.1), (h2_words, .inl (c2_words, 60, .inl u.2.2.2.2.2))] := hD
    refine lv_goto (tgt := 309) hx hb dMa_step_157 (by decide) ?_
    refine lv_aload_n hx hb dMa_step_309 rfl (lv_at hl 4 rfl) ?_
    refine lv_iload hx hb dMa_step_310 (lv_at hl 1 rfl) ?_
    refine va_put (D := (dC, dI)) (ci := 4) (v := .int y4) (ty := .int) (C := "StepCourt$Machine") (T := TMa) (N := 8) hx hb hq inMa tyMa tyMa_ok nmMa hown hK hP hD hS 0 rfl rfl 2 (by decide) (hq _ wt_69) (fun _ h9 => h9) rfl (by decide +kernel) rfl rfl (Nat.le_of_ble_eq_true rfl) dMa_step_312 (fun H locs hP hD hS => ?_)
    have hP : va_P (dC, dI) vwCl [(h0, ce_Ma h0_cells h0_tree (y4, f17, u.1.2.2.1, u.1.2.2.2.1, u.1.2.2.2.2.1, u.1.2.2.2.2.2)), (h0_cells, .inl (c0_cells, 8, .inl u.2.1)), (h1, ce_Co h1_ops h1_arguments), (h1_ops, .inl (c1_ops, 16, .inl u.2.2.1)), (h1_arguments, .inl (c1_arguments, 16, .inl u.2.2.2.1)), (h2, ce_In h2_words u.2.2.2.2.1), (h2_words, .inl (c2_words, 60, .inl u.2.2.2.2.2))] H := hP
    have hD : va_D A [(h0, ce_Ma h0_cells h0_tree (y4, f17, u.1.2.2.1, u.1.2.2.2.1, u.1.2.2.2.2.1, u.1.2.2.2.2.2)), (h0_cells, .inl (c0_cells, 8, .inl u.2.1)), (h1, ce_Co h1_ops h1_arguments), (h1_ops, .inl (c1_ops, 16, .inl u.2.2.1)), (h1_arguments, .inl (c1_arguments, 16, .inl u.2.2.2.1)), (h2, ce_In h2_words u.2.2.2.2.1), (h2_words, .inl (c2_words, 60, .inl u.2.2.2.2.2))] := hD
    have hP9 := hP.sub (ws' := [(h0, ce_Ma h0_cells h0_tree (y4, f17, u.1.2.2.1, u.1.2.2.2.1, u.1.2.2.2.2.1, u.1.2.2.2.2.2)), (h0_cells, .inl (c0_cells, 8, .inl u.2.1)), (h1, ce_Co h1_ops h1_arguments), (h1_ops, .inl (c1_ops, 16, .inl u.2.2.1)), (h1_arguments, .inl (c1_arguments, 16, .inl u.2.2.2.1)), (h2, ce_In h2_words u.2.2.2.2.1), (h2_words, .inl (c2_words, 60, .inl u.2.2.2.2.2))]) [0, 1, 2, 3, 4, 5, 6] rfl
    have hD9 := hD.sub (ws' := [(h0, ce_Ma h0_cells h0_tree (y4, f17, u.1.2.2.1, u.1.2.2.2.1, u.1.2.2.2.2.1, u.1.2.2.2.2.2)), (h0_cells, .inl (c0_cells, 8, .inl u.2.1)), (h1, ce_Co h1_ops h1_arguments), (h1_ops, .inl (c1_ops, 16, .inl u.2.2.1)), (h1_arguments, .inl (c1_arguments, 16, .inl u.2.2.2.1)), (h2, ce_In h2_words u.2.2.2.2.1), (h2_words, .inl (c2_words, 60, .inl u.2.2.2.2.2))]) [0, 1, 2, 3, 4, 5, 6] (by decide) rfl
    have hK9 := hK.sub (tys' := [(c0_cells, .int), (c1_ops, .int), (c1_arguments, .int), (c2_words, .int)]) [0, 1, 2, 3] rfl
    exact W.vret hx hb hr (fun t ht hW => ⟨⟨((y4, f17, u.1.2.2.1, u.1.2.2.2.1, u.1.2.2.2.2.1, u.1.2.2.2.2.2), u.2.1, u.2.2.1, u.2.2.2.1, u.2.2.2.2.1, u.2.2.2.2.2), rfl, hw, by rw [ht]; exact hP9, va_K.moved hW.alike hK9, hD9⟩, hS.F ht⟩) hS.2.2 dMa_step_315
  have hw := hw.2 cc16
  by_cases cc18 : kk7 = 5
  · have hw := hw.1 cc18
    refine lv_tableIn (off := 119) (tgt := 160) hx hb dMa_step_41 (by rw [cc18]; decide) (by rw [cc18]; decide) (by rw [cc18]; decide) (by decide) ?_
    refine lv_aload_n hx hb dMa_step_160 rfl (lv_at hl 4 rfl) ?_
    refine lv_aload_n hx hb dMa_step_161 rfl (lv_at hl 4 rfl) ?_
    refine va_get (D := (dC, dI)) (ci := 4) (v := .int u.1.2.1) (C := "StepCourt$Machine") (T := TMa) (N := 8) hx hb hq inMa hown hK hP 0 rfl rfl 3 (by decide) (hq _ wt_72) (fun _ h9 => h9) rfl dMa_step_162 ?_
    refine lv_aload_n hx hb dMa_step_165 rfl (lv_at hl 4 rfl) ?_
    refine va_get (D := (dC, dI)) (ci := 4) (v := .int u.1.2.2.1) (C := "StepCourt$Machine") (T := TMa) (N := 8) hx hb hq inMa hown hK hP 0 rfl rfl 4 (by decide) (hq _ wt_75) (fun _ h9 => h9) rfl dMa_step_166 ?_
    refine lv_isub hx hb dMa_step_169 ?_
    refine lv_topi (fun f19 ef19 => ?_)
    have hw := hw f19 ef19
    refine va_put (D := (dC, dI)) (ci := 4) (v := .int f19) (ty := .int) (C := "StepCourt$Machine") (T := TMa) (N := 8) hx hb hq inMa tyMa tyMa_ok nmMa hown hK hP hD hS 0 rfl rfl 3 (by decide) (hq _ wt_72) (fun _ h9 => h9) rfl (by decide +kernel) rfl rfl (Nat.le_of_ble_eq_true rfl) dMa_step_170 (fun H locs hP hD hS => ?_)
    have hP : va_P (dC, dI) vwCl [(h0, ce_Ma h0_cells h0_tree (u.1.1, f19, u.1.2.2.1, u.1.2.2.2.1, u.1.2.2.2.2.1, u.1.2.2.2.2.2)), (h0_cells, .inl (c0_cells, 8, .inl u.2.1)), (h1, ce_Co h1_ops h1_arguments), (h1_ops, .inl (c1_ops, 16, .inl u.2.2.1)), (h1_arguments, .inl (c1_arguments, 16, .inl u.2.2.2.1)), (h2, ce_In h2_words u.2.2.2.2.1), (h2_words, .inl (c2_words, 60, .inl u.2.2.2.2.2))] H := hP
    have hD : va_D A [(h0, ce_Ma h0_cells h0_tree (u.1.1, f19, u.1.2.2.1, u.1.2.2.2.1, u.1.2.2.2.2.1, u.1.2.2.2.2.2)), (h0_cells, .inl (c0_cells, 8, .inl u.2.1)), (h1, ce_Co h1_ops h1_arguments), (h1_ops, .inl (c1_ops, 16, .inl u.2.2.1)), (h1_arguments, .inl (c1_arguments, 16, .inl u.2.2.2.1)), (h2, ce_In h2_words u.2.2.2.2.1), (h2_words, .inl (c2_words, 60, .inl u.2.2.2.2.2))] := hD
    refine lv_goto (tgt := 309) hx hb dMa_step_173 (by decide) ?_
    refine lv_aload_n hx hb dMa_step_309 rfl (lv_at hl 4 rfl) ?_
    refine lv_iload hx hb dMa_step_310 (lv_at hl 1 rfl) ?_
    refine va_put (D := (dC, dI)) (ci := 4) (v := .int y4) (ty := .int) (C := "StepCourt$Machine") (T := TMa) (N := 8) hx hb hq inMa tyMa tyMa_ok nmMa hown hK hP hD hS 0 rfl rfl 2 (by decide) (hq _ wt_69) (fun _ h9 => h9) rfl (by decide +kernel) rfl rfl (Nat.le_of_ble_eq_true rfl) dMa_step_312 (fun H locs hP hD hS => ?_)
    have hP : va_P (dC, dI) vwCl [(h0, ce_Ma h0_cells h0_tree (y4, f19, u.1.2.2.1, u.1.2.2.2.1, u.1.2.2.2.2.1, u.1.2.2.2.2.2)), (h0_cells, .inl (c0_cells, 8, .inl u.2.1)), (h1, ce_Co h1_ops h1_arguments), (h1_ops, .inl (c1_ops, 16, .inl u.2.2.1)), (h1_arguments, .inl (c1_arguments, 16, .inl u.2.2.2.1)), (h2, ce_In h2_words u.2.2.2.2.1), (h2_words, .inl (c2_words, 60, .inl u.2.2.2.2.2))] H := hP
    have hD : va_D A [(h0, ce_Ma h0_cells h0_tree (y4, f19, u.1.2.2.1, u.1.2.2.2.1, u.1.2.2.2.2.1, u.1.2.2.2.2.2)), (h0_cells, .inl (c0_cells, 8, .inl u.2.1)), (h1, ce_Co h1_ops h1_arguments), (h1_ops, .inl (c1_ops, 16, .inl u.2.2.1)), (h1_arguments, .inl (c1_arguments, 16, .inl u.2.2.2.1)), (h2, ce_In h2_words u.2.2.2.2.1), (h2_words, .inl (c2_words, 60, .inl u.2.2.2.2.2))] := hD
    have hP9 := hP.sub (ws' := [(h0, ce_Ma h0_cells h0_tree (y4, f19, u.1.2.2.1, u.1.2.2.2.1, u.1.2.2.2.2.1, u.1.2.2.2.2.2)), (h0_cells, .inl (c0_cells, 8, .inl u.2.1)), (h1, ce_Co h1_ops h1_arguments), (h1_ops, .inl (c1_ops, 16, .inl u.2.2.1)), (h1_arguments, .inl (c1_arguments, 16, .inl u.2.2.2.1)), (h2, ce_In h2_words u.2.2.2.2.1), (h2_words, .inl (c2_words, 60, .inl u.2.2.2.2.2))]) [0, 1, 2, 3, 4, 5, 6] rfl
    have hD9 := hD.sub (ws' := [(h0, ce_Ma h0_cells h0_tree (y4, f19, u.1.2.2.1, u.1.2.2.2.1, u.1.2.2.2.2.1, u.1.2.2.2.2.2)), (h0_cells, .inl (c0_cells, 8, .inl u.2.1)), (h1, ce_Co h1_ops h1_arguments), (h1_ops, .inl (c1_ops, 16, .inl u.2.2.1)), (h1_arguments, .inl (c1_arguments, 16, .inl u.2.2.2.1)), (h2, ce_In h2_words u.2.2.2.2.1), (h2_words, .inl (c2_words, 60, .inl u.2.2.2.2.2))]) [0, 1, 2, 3, 4, 5, 6] (by decide) rfl
    have hK9 := hK.sub (tys' := [(c0_cells, .int), (c1_ops, .int), (c1_arguments, .int), (c2_words, .int)]) [0, 1, 2, 3] rfl
    exact W.vret hx hb hr (fun t ht hW => ⟨⟨((y4, f19, u.1.2.2.1, u.1.2.2.2.1, u.1.2.2.2.2.1, u.1.2.2.2.2.2), u.2.1, u.2.2.1, u.2.2.2.1, u.2.2.2.2.1, u.2.2.2.2.2), rfl, hw, by rw [ht]; exact hP9, va_K.moved hW.alike hK9, hD9⟩, hS.F ht⟩) hS.2.2 dMa_step_315
  have hw := hw.2 cc18
  by_cases cc20 : kk7 = 6
  · have hw := hw.1 cc20
    refine lv_tableIn (off := 135) (tgt := 176) hx hb dMa_step_41 (by rw [cc20]; decide) (by rw [cc20]; decide) (by rw [cc20]; decide) (by decide) ?_
    refine lv_aload_n hx hb dMa_step_176 rfl (lv_at hl 4 rfl) ?_
    refine lv_aload_n hx hb dMa_step_177 rfl (lv_at hl 4 rfl) ?_
    refine va_get (D := (dC, dI)) (ci := 4) (v := .int u.1.2.1) (C := "StepCourt$Machine") (T := TMa) (N := 8) hx hb hq inMa hown hK hP 0 rfl rfl 3 (by decide) (hq _ wt_72) (fun _ h9 => h9) rfl dMa_step_178 ?_
    refine lv_aload_n hx hb dMa_step_181 rfl (lv_at hl 4 rfl) ?_
    refine va_get (D := (dC, dI)) (ci := 4) (v := .int u.1.2.2.1) (C := "StepCourt$Machine") (T := TMa) (N := 8) hx hb hq inMa hown hK hP 0 rfl rfl 4 (by decide) (hq _ wt_75) (fun _ h9 => h9) rfl dMa_step_182 ?_
    refine lv_imul hx hb dMa_step_185 ?_
    refine lv_topi (fun f21 ef21 => ?_)
    have hw := hw f21 ef21
    refine va_put (D := (dC, dI)) (ci := 4) (v := .int f21) (ty := .int) (C := "StepCourt$Machine") (T := TMa) (N := 8) hx hb hq inMa tyMa tyMa_ok nmMa hown hK hP hD hS 0 rfl rfl 3 (by decide) (hq _ wt_72) (fun _ h9 => h9) rfl (by decide +kernel) rfl rfl (Nat.le_of_ble_eq_true rfl) dMa_step_186 (fun H locs hP hD hS => ?_)
    have hP : va_P (dC, dI) vwCl [(h0, ce_Ma h0_cells h0_tree (u.1.1, f21, u.1.2.2.1, u.1.2.2.2.1, u.1.2.2.2.2.1, u.1.2.2.2.2.2)), (h0_cells, .inl (c0_cells, 8, .inl u.2.1)), (h1, ce_Co h1_ops h1_arguments), (h1_ops, .inl (c1_ops, 16, .inl u.2.2.1)), (h1_arguments, .inl (c1_arguments, 16, .inl u.2.2.2.1)), (h2, ce_In h2_words u.2.2.2.2.1), (h2_words, .inl (c2_words, 60, .inl u.2.2.2.2.2))] H := hP
    have hD : va_D A [(h0, ce_Ma h0_cells h0_tree (u.1.1, f21, u.1.2.2.1, u.1.2.2.2.1, u.1.2.2.2.2.1, u.1.2.2.2.2.2)), (h0_cells, .inl (c0_cells, 8, .inl u.2.1)), (h1, ce_Co h1_ops h1_arguments), (h1_ops, .inl (c1_ops, 16, .inl u.2.2.1)), (h1_arguments, .inl (c1_arguments, 16, .inl u.2.2.2.1)), (h2, ce_In h2_words u.2.2.2.2.1), (h2_words, .inl (c2_words, 60, .inl u.2.2.2.2.2))] := hD
    refine lv_goto (tgt := 309) hx hb dMa_step_189 (by decide) ?_
    refine lv_aload_n hx hb dMa_step_309 rfl (lv_at hl 4 rfl) ?_
    refine lv_iload hx hb dMa_step_310 (lv_at hl 1 rfl) ?_
    refine va_put (D := (dC, dI)) (ci := 4) (v := .int y4) (ty := .int) (C := "StepCourt$Machine") (T := TMa) (N := 8) hx hb hq inMa tyMa tyMa_ok nmMa hown hK hP hD hS 0 rfl rfl 2 (by decide) (hq _ wt_69) (fun _ h9 => h9) rfl (by decide +kernel) rfl rfl (Nat.le_of_ble_eq_true rfl) dMa_step_312 (fun H locs hP hD hS => ?_)
    have hP : va_P (dC, dI) vwCl [(h0, ce_Ma h0_cells h0_tree (y4, f21, u.1.2.2.1, u.1.2.2.2.1, u.1.2.2.2.2.1, u.1.2.2.2.2.2)), (h0_cells, .inl (c0_cells, 8, .inl u.2.1)), (h1, ce_Co h1_ops h1_arguments), (h1_ops, .inl (c1_ops, 16, .inl u.2.2.1)), (h1_arguments, .inl (c1_arguments, 16, .inl u.2.2.2.1)), (h2, ce_In h2_words u.2.2.2.2.1), (h2_words, .inl (c2_words, 60, .inl u.2.2.2.2.2))] H := hP
    have hD : va_D A [(h0, ce_Ma h0_cells h0_tree (y4, f21, u.1.2.2.1, u.1.2.2.2.1, u.1.2.2.2.2.1, u.1.2.2.2.2.2)), (h0_cells, .inl (c0_cells, 8, .inl u.2.1)), (h1, ce_Co h1_ops h1_arguments), (h1_ops, .inl (c1_ops, 16, .inl u.2.2.1)), (h1_arguments, .inl (c1_arguments, 16, .inl u.2.2.2.1)), (h2, ce_In h2_words u.2.2.2.2.1), (h2_words, .inl (c2_words, 60, .inl u.2.2.2.2.2))] := hD
    have hP9 := hP.sub (ws' := [(h0, ce_Ma h0_cells h0_tree (y4, f21, u.1.2.2.1, u.1.2.2.2.1, u.1.2.2.2.2.1, u.1.2.2.2.2.2)), (h0_cells, .inl (c0_cells, 8, .inl u.2.1)), (h1, ce_Co h1_ops h1_arguments), (h1_ops, .inl (c1_ops, 16, .inl u.2.2.1)), (h1_arguments, .inl (c1_arguments, 16, .inl u.2.2.2.1)), (h2, ce_In h2_words u.2.2.2.2.1), (h2_words, .inl (c2_words, 60, .inl u.2.2.2.2.2))]) [0, 1, 2, 3, 4, 5, 6] rfl
    have hD9 := hD.sub (ws' := [(h0, ce_Ma h0_cells h0_tree (y4, f21, u.1.2.2.1, u.1.2.2.2.1, u.1.2.2.2.2.1, u.1.2.2.2.2.2)), (h0_cells, .inl (c0_cells, 8, .inl u.2.1)), (h1, ce_Co h1_ops h1_arguments), (h1_ops, .inl (c1_ops, 16, .inl u.2.2.1)), (h1_arguments, .inl (c1_arguments, 16, .inl u.2.2.2.1)), (h2, ce_In h2_words u.2.2.2.2.1), (h2_words, .inl (c2_words, 60, .inl u.2.2.2.2.2))]) [0, 1, 2, 3, 4, 5, 6] (by decide) rfl
    have hK9 := hK.sub (tys' := [(c0_cells, .int), (c1_ops, .int), (c1_arguments, .int), (c2_words, .int)]) [0, 1, 2, 3] rfl
    exact W.vret hx hb hr (fun t ht hW => ⟨⟨((y4, f21, u.1.2.2.1, u.1.2.2.2.1, u.1.2.2.2.2.1, u.1.2.2.2.2.2), u.2.1, u.2.2.1, u.2.2.2.1, u.2.2.2.2.1, u.2.2.2.2.2), rfl, hw, by rw [ht]; exact hP9, va_K.moved hW.alike hK9, hD9⟩, hS.F ht⟩) hS.2.2 dMa_step_315
  have hw := hw.2 cc20
  by_cases cc22 : kk7 = 7
  · have hw := hw.1 cc22
    refine lv_tableIn (off := 151) (tgt := 192) hx hb dMa_step_41 (by rw [cc22]; decide) (by rw [cc22]; decide) (by rw [cc22]; decide) (by decide) ?_
    refine lv_aload_n hx hb dMa_step_192 rfl (lv_at hl 4 rfl) ?_
    refine lv_aload_n hx hb dMa_step_193 rfl (lv_at hl 4 rfl) ?_
    refine va_get (D := (dC, dI)) (ci := 4) (v := .ref h0_cells) (C := "StepCourt$Machine") (T := TMa) (N := 8) hx hb hq inMa hown hK hP 0 rfl rfl 0 (by decide) (hq _ wt_65) (fun _ h9 => h9) rfl dMa_step_194 ?_
    refine lv_aload_n hx hb dMa_step_197 rfl (lv_at hl 4 rfl) ?_
    have hPc := hP.sub (ws' := [(h0, ce_Ma h0_cells h0_tree u.1)]) [0] rfl
    have hDc := hD.sub (ws' := [(h0, ce_Ma h0_cells h0_tree u.1)]) [0] (by decide) rfl
    have hKc := hK.sub (tys' := []) [] rfl
    have hFc := va_free (wc := [(h0, ce_Ma h0_cells h0_tree u.1)]) hD hS hA [0] rfl
    refine va_calli (va_runV (As := []) (rest := [.ref h0_cells, .ref h0]) ⟨hx, hb, hml, hown, hq⟩ (mt_Ma_cellPlace l dC dI h0 h0_cells h0_tree s.heap.size _ u.1 hw) ⟨cq_B 0 hq wt_352 wt_349 wt_4 rfl rfl hd_Ma_cellPlace ⟨Nat.le_of_ble_eq_true rfl, Nat.le_of_ble_eq_true rfl⟩, (hq _ wt_350), (hq _ wt_351)⟩ ⟨kp_bl, va_recv hKc hPc (ci := 4) (q0 := 0) rfl rfl, kp_at hPc hKc hDc hZ⟩ rfl rfl hl.1 rfl (lv_room (Nat.le_of_ble_eq_true rfl)) dMa_step_198 ⟨(by decide), (by decide)⟩) hS (fun q _ h => hFc q h) hFc (fun r23 u24 t H1 locs ht hvm hw hB hz1 hk1 hS => ?_)
    obtain ⟨hP1, hK1, hD1⟩ := hB
    rw [ht] at hP1
    have hK1 := va_K.moved hvm.symm hK1
    obtain ⟨hP, hD⟩ := va_join (wr := [(h0_cells, .inl (c0_cells, 8, .inl u.2.1)), (h1, ce_Co h1_ops h1_arguments), (h1_ops, .inl (c1_ops, 16, .inl u.2.2.1)), (h1_arguments, .inl (c1_arguments, 16, .inl u.2.2.2.1)), (h2, ce_In h2_words u.2.2.2.2.1), (h2_words, .inl (c2_words, 60, .inl u.2.2.2.2.2))]) (w1 := [(h0, ce_Ma h0_cells h0_tree u24)]) hP hD [0] [1, 2, 3, 4, 5, 6] rfl rfl (by decide) (by decide) hk1 hFc hP1 hD1
    have hK := (hK.sub (tys' := [(c0_cells, .int), (c1_ops, .int), (c1_arguments, .int), (c2_words, .int)]) [0, 1, 2, 3] rfl).app hK1
    generalize H1 = H at hP hS ⊢
    have hP : va_P (dC, dI) vwCl [(h0_cells, .inl (c0_cells, 8, .inl u.2.1)), (h1, ce_Co h1_ops h1_arguments), (h1_ops, .inl (c1_ops, 16, .inl u.2.2.1)), (h1_arguments, .inl (c1_arguments, 16, .inl u.2.2.2.1)), (h2, ce_In h2_words u.2.2.2.2.1), (h2_words, .inl (c2_words, 60, .inl u.2.2.2.2.2)), (h0, ce_Ma h0_cells h0_tree u24)] H := hP
    have hD : va_D A [(h0_cells, .inl (c0_cells, 8, .inl u.2.1)), (h1, ce_Co h1_ops h1_arguments), (h1_ops, .inl (c1_ops, 16, .inl u.2.2.1)), (h1_arguments, .inl (c1_arguments, 16, .inl u.2.2.2.1)), (h2, ce_In h2_words u.2.2.2.2.1), (h2_words, .inl (c2_words, 60, .inl u.2.2.2.2.2)), (h0, ce_Ma h0_cells h0_tree u24)] := hD
    have hK : va_K (dC, dI) vwCl [(c0_cells, .int), (c1_ops, .int), (c1_arguments, .int), (c2_words, .int)] s := hK
    obtain ⟨hh25, hw⟩ := hw
    refine va_iald hx hb hK hP 0 0 rfl rfl hh25 dMa_step_201 ?_
    refine lv_topi (fun f26 ef26 => ?_)
    have hw := hw f26 ef26
    refine va_put (D := (dC, dI)) (ci := 4) (v := .int f26) (ty := .int) (C := "StepCourt$Machine") (T := TMa) (N := 8) hx hb hq inMa tyMa tyMa_ok nmMa hown hK hP hD hS 6 rfl rfl 3 (by decide) (hq _ wt_72) (fun _ h9 => h9) rfl (by decide +kernel) rfl rfl (Nat.le_of_ble_eq_true rfl) dMa_step_202 (fun H locs hP hD hS => ?_)
    have hP : va_P (dC, dI) vwCl [(h0_cells, .inl (c0_cells, 8, .inl u.2.1)), (h1, ce_Co h1_ops h1_arguments), (h1_ops, .inl (c1_ops, 16, .inl u.2.2.1)), (h1_arguments, .inl (c1_arguments, 16, .inl u.2.2.2.1)), (h2, ce_In h2_words u.2.2.2.2.1), (h2_words, .inl (c2_words, 60, .inl u.2.2.2.2.2)), (h0, ce_Ma h0_cells h0_tree (u24.1, f26, u24.2.2.1, u24.2.2.2.1, u24.2.2.2.2.1, u24.2.2.2.2.2))] H := hP
    have hD : va_D A [(h0_cells, .inl (c0_cells, 8, .inl u.2.1)), (h1, ce_Co h1_ops h1_arguments), (h1_ops, .inl (c1_ops, 16, .inl u.2.2.1)), (h1_arguments, .inl (c1_arguments, 16, .inl u.2.2.2.1)), (h2, ce_In h2_words u.2.2.2.2.1), (h2_words, .inl (c2_words, 60, .inl u.2.2.2.2.2)), (h0, ce_Ma h0_cells h0_tree (u24.1, f26, u24.2.2.1, u24.2.2.2.1, u24.2.2.2.2.1, u24.2.2.2.2.2))] := hD
    refine lv_goto (tgt := 309) hx hb dMa_step_205 (by decide) ?_
    refine lv_aload_n hx hb dMa_step_309 rfl (lv_at hl 4 rfl) ?_
    refine lv_iload hx hb dMa_step_310 (lv_at hl 1 rfl) ?_
    refine va_put (D := (dC, dI)) (ci := 4) (v := .int y4) (ty := .int) (C := "StepCourt$Machine") (T := TMa) (N := 8) hx hb hq inMa tyMa tyMa_ok nmMa hown hK hP hD hS 6 rfl rfl 2 (by decide) (hq _ wt_69) (fun _ h9 => h9) rfl (by decide +kernel) rfl rfl (Nat.le_of_ble_eq_true rfl) dMa_step_312 (fun H locs hP hD hS => ?_)
    have hP : va_P (dC, dI) vwCl [(h0_cells, .inl (c0_cells, 8, .inl u.2.1)), (h1, ce_Co h1_ops h1_arguments), (h1_ops, .inl (c1_ops, 16, .inl u.2.2.1)), (h1_arguments, .inl (c1_arguments, 16, .inl u.2.2.2.1)), (h2, ce_In h2_words u.2.2.2.2.1), (h2_words, .inl (c2_words, 60, .inl u.2.2.2.2.2)), (h0, ce_Ma h0_cells h0_tree (y4, f26, u24.2.2.1, u24.2.2.2.1, u24.2.2.2.2.1, u24.2.2.2.2.2))] H := hP
    have hD : va_D A [(h0_cells, .inl (c0_cells, 8, .inl u.2.1)), (h1, ce_Co h1_ops h1_arguments), (h1_ops, .inl (c1_ops, 16, .inl u.2.2.1)), (h1_arguments, .inl (c1_arguments, 16, .inl u.2.2.2.1)), (h2, ce_In h2_words u.2.2.2.2.1), (h2_words, .inl (c2_words, 60, .inl u.2.2.2.2.2)), (h0, ce_Ma h0_cells h0_tree (y4, f26, u24.2.2.1, u24.2.2.2.1, u24.2.2.2.2.1, u24.2.2.2.2.2))] := hD
    have hP9 := hP.sub (ws' := [(h0, ce_Ma h0_cells h0_tree (y4, f26, u24.2.2.1, u24.2.2.2.1, u24.2.2.2.2.1, u24.2.2.2.2.2)), (h0_cells, .inl (c0_cells, 8, .inl u.2.1)), (h1, ce_Co h1_ops h1_arguments), (h1_ops, .inl (c1_ops, 16, .inl u.2.2.1)), (h1_arguments, .inl (c1_arguments, 16, .inl u.2.2.2.1)), (h2, ce_In h2_words u.2.2.2.2.1), (h2_words, .inl (c2_words, 60, .inl u.2.2.2.2.2))]) [6, 0, 1, 2, 3, 4, 5] rfl
    have hD9 := hD.sub (ws' := [(h0, ce_Ma h0_cells h0_tree (y4, f26, u24.2.2.1, u24.2.2.2.1, u24.2.2.2.2.1, u24.2.2.2.2.2)), (h0_cells, .inl (c0_cells, 8, .inl u.2.1)), (h1, ce_Co h1_ops h1_arguments), (h1_ops, .inl (c1_ops, 16, .inl u.2.2.1)), (h1_arguments, .inl (c1_arguments, 16, .inl u.2.2.2.1)), (h2, ce_In h2_words u.2.2.2.2.1), (h2_words, .inl (c2_words, 60, .inl u.2.2.2.2.2))]) [6, 0, 1, 2, 3, 4, 5] (by decide) rfl
    have hK9 := hK.sub (tys' := [(c0_cells, .int), (c1_ops, .int), (c1_arguments, .int), (c2_words, .int)]) [0, 1, 2, 3] rfl
    exact W.vret hx hb hr (fun t ht hW => ⟨⟨((y4, f26, u24.2.2.1, u24.2.2.2.1, u24.2.2.2.2.1, u24.2.2.2.2.2), u.2.1, u.2.2.1, u.2.2.2.1, u.2.2.2.2.1, u.2.2.2.2.2), rfl, hw, by rw [ht]; exact hP9, va_K.moved hW.alike hK9, hD9⟩, hS.F ht⟩) hS.2.2 dMa_step_315
  have hw := hw.2 cc22
  by_cases cc27 : kk7 = 8
  · have hw := hw.1 cc27
    refine lv_tableIn (off := 167) (tgt := 208) hx hb dMa_step_41 (by rw [cc27]; decide) (by rw [cc27]; decide) (by rw [cc27]; decide) (by decide) ?_
    refine lv_aload_n hx hb dMa_step_208 rfl (lv_at hl 4 rfl) ?_
    refine va_get (D := (dC, dI)) (ci := 4) (v := .ref h0_cells) (C := "StepCourt$Machine") (T := TMa) (N := 8) hx hb hq inMa hown hK hP 0 rfl rfl 0 (by decide) (hq _ wt_65) (fun _ h9 => h9) rfl dMa_step_209 ?_
    refine lv_aload_n hx hb dMa_step_212 rfl (lv_at hl 4 rfl) ?_
    have hPc := hP.sub (ws' := [(h0, ce_Ma h0_cells h0_tree u.1)]) [0] rfl
    have hDc := hD.sub (ws' := [(h0, ce_Ma h0_cells h0_tree u.1)]) [0] (by decide) rfl
    have hKc := hK.sub (tys' := []) [] rfl
    have hFc := va_free (wc := [(h0, ce_Ma h0_cells h0_tree u.1)]) hD hS hA [0] rfl
    refine va_calli (va_runV (As := []) (rest := [.ref h0_cells]) ⟨hx, hb, hml, hown, hq⟩ (mt_Ma_cellPlace l dC dI h0 h0_cells h0_tree s.heap.size _ u.1 hw) ⟨cq_B 0 hq wt_352 wt_349 wt_4 rfl rfl hd_Ma_cellPlace ⟨Nat.le_of_ble_eq_true rfl, Nat.le_of_ble_eq_true rfl⟩, (hq _ wt_350), (hq _ wt_351)⟩ ⟨kp_bl, va_recv hKc hPc (ci := 4) (q0 := 0) rfl rfl, kp_at hPc hKc hDc hZ⟩ rfl rfl hl.1 rfl (lv_room (Nat.le_of_ble_eq_true rfl)) dMa_step_213 ⟨(by decide), (by decide)⟩) hS (fun q _ h => hFc q h) hFc (fun r28 u29 t H1 locs ht hvm hw hB hz1 hk1 hS => ?_)
    obtain ⟨hP1, hK1, hD1⟩ := hB
    rw [ht] at hP1
    have hK1 := va_K.moved hvm.symm hK1
    obtain ⟨hP, hD⟩ := va_join (wr := [(h0_cells, .inl (c0_cells, 8, .inl u.2.1)), (h1, ce_Co h1_ops h1_arguments), (h1_ops, .inl (c1_ops, 16, .inl u.2.2.1)), (h1_arguments, .inl (c1_arguments, 16, .inl u.2.2.2.1)), (h2, ce_In h2_words u.2.2.2.2.1), (h2_words, .inl (c2_words, 60, .inl u.2.2.2.2.2))]) (w1 := [(h0, ce_Ma h0_cells h0_tree u29)]) hP hD [0] [1, 2, 3, 4, 5, 6] rfl rfl (by decide) (by decide) hk1 hFc hP1 hD1
    have hK := (hK.sub (tys' := [(c0_cells, .int), (c1_ops, .int), (c1_arguments, .int), (c2_words, .int)]) [0, 1, 2, 3] rfl).app hK1
    generalize H1 = H at hP hS ⊢
    have hP : va_P (dC, dI) vwCl [(h0_cells, .inl (c0_cells, 8, .inl u.2.1)), (h1, ce_Co h1_ops h1_arguments), (h1_ops, .inl (c1_ops, 16, .inl u.2.2.1)), (h1_arguments, .inl (c1_arguments, 16, .inl u.2.2.2.1)), (h2, ce_In h2_words u.2.2.2.2.1), (h2_words, .inl (c2_words, 60, .inl u.2.2.2.2.2)), (h0, ce_Ma h0_cells h0_tree u29)] H := hP
    have hD : va_D A [(h0_cells, .inl (c0_cells, 8, .inl u.2.1)), (h1, ce_Co h1_ops h1_arguments), (h1_ops, .inl (c1_ops, 16, .inl u.2.2.1)), (h1_arguments, .inl (c1_arguments, 16, .inl u.2.2.2.1)), (h2, ce_In h2_words u.2.2.2.2.1), (h2_words, .inl (c2_words, 60, .inl u.2.2.2.2.2)), (h0, ce_Ma h0_cells h0_tree u29)] := hD
    have hK : va_K (dC, dI) vwCl [(c0_cells, .int), (c1_ops, .int), (c1_arguments, .int), (c2_words, .int)] s := hK
    refine lv_aload_n hx hb dMa_step_216 rfl (lv_at hl 4 rfl) ?_
    refine va_get (D := (dC, dI)) (ci := 4) (v := .int u29.2.1) (C := "StepCourt$Machine") (T := TMa) (N := 8) hx hb hq inMa hown hK hP 6 rfl rfl 3 (by decide) (hq _ wt_72) (fun _ h9 => h9) rfl dMa_step_217 ?_
    obtain ⟨hh30, hw⟩ := hw
    refine va_iast hx hb hK hP hD hS 0 0 rfl rfl hh30 dMa_step_220 (fun H locs hP hD hS => ?_)
    have hP : va_P (dC, dI) vwCl [(h0_cells, .inl (c0_cells, 8, .inl (upd u.2.1 r28.toNatClampNeg u29.2.1))), (h1, ce_Co h1_ops h1_arguments), (h1_ops, .inl (c1_ops, 16, .inl u.2.2.1)), (h1_arguments, .inl (c1_arguments, 16, .inl u.2.2.2.1)), (h2, ce_In h2_words u.2.2.2.2.1), (h2_words, .inl (c2_words, 60, .inl u.2.2.2.2.2)), (h0, ce_Ma h0_cells h0_tree u29)] H := hP
    have hD : va_D A [(h0_cells, .inl (c0_cells, 8, .inl (upd u.2.1 r28.toNatClampNeg u29.2.1))), (h1, ce_Co h1_ops h1_arguments), (h1_ops, .inl (c1_ops, 16, .inl u.2.2.1)), (h1_arguments, .inl (c1_arguments, 16, .inl u.2.2.2.1)), (h2, ce_In h2_words u.2.2.2.2.1), (h2_words, .inl (c2_words, 60, .inl u.2.2.2.2.2)), (h0, ce_Ma h0_cells h0_tree u29)] := hD
    refine lv_goto (tgt := 309) hx hb dMa_step_221 (by decide) ?_
    refine lv_aload_n hx hb dMa_step_309 rfl (lv_at hl 4 rfl) ?_
    refine lv_iload hx hb dMa_step_310 (lv_at hl 1 rfl) ?_
    refine va_put (D := (dC, dI)) (ci := 4) (v := .int y4) (ty := .int) (C := "StepCourt$Machine") (T := TMa) (N := 8) hx hb hq inMa tyMa tyMa_ok nmMa hown hK hP hD hS 6 rfl rfl 2 (by decide) (hq _ wt_69) (fun _ h9 => h9) rfl (by decide +kernel) rfl rfl (Nat.le_of_ble_eq_true rfl) dMa_step_312 (fun H locs hP hD hS => ?_)
    have hP : va_P (dC, dI) vwCl [(h0_cells, .inl (c0_cells, 8, .inl (upd u.2.1 r28.toNatClampNeg u29.2.1))), (h1, ce_Co h1_ops h1_arguments), (h1_ops, .inl (c1_ops, 16, .inl u.2.2.1)), (h1_arguments, .inl (c1_arguments, 16, .inl u.2.2.2.1)), (h2, ce_In h2_words u.2.2.2.2.1), (h2_words, .inl (c2_words, 60, .inl u.2.2.2.2.2)), (h0, ce_Ma h0_cells h0_tree (y4, u29.2.1, u29.2.2.1, u29.2.2.2.1, u29.2.2.2.2.1, u29.2.2.2.2.2))] H := hP
    have hD : va_D A [(h0_cells, .inl (c0_cells, 8, .inl (upd u.2.1 r28.toNatClampNeg u29.2.1))), (h1, ce_Co h1_ops h1_arguments), (h1_ops, .inl (c1_ops, 16, .inl u.2.2.1)), (h1_arguments, .inl (c1_arguments, 16, .inl u.2.2.2.1)), (h2, ce_In h2_words u.2.2.2.2.1), (h2_words, .inl (c2_words, 60, .inl u.2.2.2.2.2)), (h0, ce_Ma h0_cells h0_tree (y4, u29.2.1, u29.2.2.1, u29.2.2.2.1, u29.2.2.2.2.1, u29.2.2.2.2.2))] := hD
    have hP9 := hP.sub (ws' := [(h0, ce_Ma h0_cells h0_tree (y4, u29.2.1, u29.2.2.1, u29.2.2.2.1, u29.2.2.2.2.1, u29.2.2.2.2.2)), (h0_cells, .inl (c0_cells, 8, .inl (upd u.2.1 r28.toNatClampNeg u29.2.1))), (h1, ce_Co h1_ops h1_arguments), (h1_ops, .inl (c1_ops, 16, .inl u.2.2.1)), (h1_arguments, .inl (c1_arguments, 16, .inl u.2.2.2.1)), (h2, ce_In h2_words u.2.2.2.2.1), (h2_words, .inl (c2_words, 60, .inl u.2.2.2.2.2))]) [6, 0, 1, 2, 3, 4, 5] rfl
    have hD9 := hD.sub (ws' := [(h0, ce_Ma h0_cells h0_tree (y4, u29.2.1, u29.2.2.1, u29.2.2.2.1, u29.2.2.2.2.1, u29.2.2.2.2.2)), (h0_cells, .inl (c0_cells, 8, .inl (upd u.2.1 r28.toNatClampNeg u29.2.1))), (h1, ce_Co h1_ops h1_arguments), (h1_ops, .inl (c1_ops, 16, .inl u.2.2.1)), (h1_arguments, .inl (c1_arguments, 16, .inl u.2.2.2.1)), (h2, ce_In h2_words u.2.2.2.2.1), (h2_words, .inl (c2_words, 60, .inl u.2.2.2.2.2))]) [6, 0, 1, 2, 3, 4, 5] (by decide) rfl
    have hK9 := hK.sub (tys' := [(c0_cells, .int), (c1_ops, .int), (c1_arguments, .int), (c2_words, .int)]) [0, 1, 2, 3] rfl
    exact W.vret hx hb hr (fun t ht hW => ⟨⟨((y4, u29.2.1, u29.2.2.1, u29.2.2.2.1, u29.2.2.2.2.1, u29.2.2.2.2.2), (upd u.2.1 r28.toNatClampNeg u29.2.1), u.2.2.1, u.2.2.2.1, u.2.2.2.2.1, u.2.2.2.2.2), rfl, hw, by rw [ht]; exact hP9, va_K.moved hW.alike hK9, hD9⟩, hS.F ht⟩) hS.2.2 dMa_step_315
  have hw := hw.2 cc27
  by_cases cc31 : kk7 = 9
  · have hw := hw.1 cc31
    refine lv_tableIn (off := 183) (tgt := 224) hx hb dMa_step_41 (by rw [cc31]; decide) (by rw [cc31]; decide) (by rw [cc31]; decide) (by decide) ?_
    refine lv_aload_n hx hb dMa_step_224 rfl (lv_at hl 4 rfl) ?_
    refine lv_aload_n hx hb dMa_step_225 rfl (lv_at hl 6 rfl) ?_
    refine lv_iload_n hx hb dMa_step_226 rfl (lv_at hl 7 rfl) ?_
    have hPc := hP.sub (ws' := [(h0, ce_Ma h0_cells h0_tree u.1), (h2, ce_In h2_words u.2.2.2.2.1), (h2_words, .inl (c2_words, 60, .inl u.2.2.2.2.2))]) [0, 5, 6] rfl
    have hDc := hD.sub (ws' := [(h0, ce_Ma h0_cells h0_tree u.1), (h2, ce_In h2_words u.2.2.2.2.1), (h2_words, .inl (c2_words, 60, .inl u.2.2.2.2.2))]) [0, 5, 6] (by decide) rfl
    have hKc := hK.sub (tys' := [(c2_words, .int)]) [3] rfl
    have hFc := va_free (wc := [(h0, ce_Ma h0_cells h0_tree u.1), (h2, ce_In h2_words u.2.2.2.2.1), (h2_words, .inl (c2_words, 60, .inl u.2.2.2.2.2))]) hD hS hA [0, 5, 6] rfl
    refine va_calli (va_runV (As := [.ref h2, .int k3]) (rest := []) ⟨hx, hb, hml, hown, hq⟩ (mt_Ma_takeWord l dC dI h0 h2 h2_words h0_cells h0_tree c2_words s.heap.size _ (u.1, u.2.2.2.2.1, u.2.2.2.2.2) k3 hw) ⟨cq_B 2 hq wt_356 wt_353 wt_4 rfl rfl hd_Ma_takeWord ⟨Nat.le_of_ble_eq_true rfl, Nat.le_of_ble_eq_true rfl⟩, (hq _ wt_355), (hq _ wv_9)⟩ ⟨kp_bl, va_recv hKc hPc (ci := 4) (q0 := 0) rfl rfl, kp_at hPc hKc hDc hZ⟩ rfl rfl hl.1 rfl (lv_room (Nat.le_of_ble_eq_true rfl)) dMa_step_227 ⟨(by decide), (by decide)⟩) hS (fun q _ h => hFc q h) hFc (fun r32 u33 t H1 locs ht hvm hw hB hz1 hk1 hS => ?_)
    obtain ⟨hP1, hK1, hD1⟩ := hB
    rw [ht] at hP1
    have hK1 := va_K.moved hvm.symm hK1
    obtain ⟨hP, hD⟩ := va_join (wr := [(h0_cells, .inl (c0_cells, 8, .inl u.2.1)), (h1, ce_Co h1_ops h1_arguments), (h1_ops, .inl (c1_ops, 16, .inl u.2.2.1)), (h1_arguments, .inl (c1_arguments, 16, .inl u.2.2.2.1))]) (w1 := [(h0, ce_Ma h0_cells h0_tree u33.1), (h2, ce_In h2_words u33.2.1), (h2_words, .inl (c2_words, 60, .inl u33.2.2))]) hP hD [0, 5, 6] [1, 2, 3, 4] rfl rfl (by decide) (by decide) hk1 hFc hP1 hD1
    have hK := (hK.sub (tys' := [(c0_cells, .int), (c1_ops, .int), (c1_arguments, .int)]) [0, 1, 2] rfl).app hK1
    generalize H1 = H at hP hS ⊢
    have hP : va_P (dC, dI) vwCl [(h0_cells, .inl (c0_cells, 8, .inl u.2.1)), (h1, ce_Co h1_ops h1_arguments), (h1_ops, .inl (c1_ops, 16, .inl u.2.2.1)), (h1_arguments, .inl (c1_arguments, 16, .inl u.2.2.2.1)), (h0, ce_Ma h0_cells h0_tree u33.1), (h2, ce_In h2_words u33.2.1), (h2_words, .inl (c2_words, 60, .inl u33.2.2))] H := hP
    have hD : va_D A [(h0_cells, .inl (c0_cells, 8, .inl u.2.1)), (h1, ce_Co h1_ops h1_arguments), (h1_ops, .inl (c1_ops, 16, .inl u.2.2.1)), (h1_arguments, .inl (c1_arguments, 16, .inl u.2.2.2.1)), (h0, ce_Ma h0_cells h0_tree u33.1), (h2, ce_In h2_words u33.2.1), (h2_words, .inl (c2_words, 60, .inl u33.2.2))] := hD
    have hK : va_K (dC, dI) vwCl [(c0_cells, .int), (c1_ops, .int), (c1_arguments, .int), (c2_words, .int)] s := hK
    refine lv_if_eq (tgt := 238) hx hb dMa_step_230 (by decide) (fun cc34 => ?_) (fun cc34 => ?_)
    · have hw := hw.1 cc34
      refine lv_iload hx hb dMa_step_238 (lv_at hl 3 rfl) ?_
      refine lv_istore (lv' := [(6, .int y1), (7, .int y5), (5, .int y3), (4, .int y1), (0, .ref h0), (1, .ref h1), (2, .ref h2), (3, .int k3)]) hx hb dMa_step_240 hl (by decide) rfl (fun ls hl => ?_)
      refine lv_goto (tgt := 309) hx hb dMa_step_242 (by decide) ?_
      refine lv_aload_n hx hb dMa_step_309 rfl (lv_at hl 4 rfl) ?_
      refine lv_iload hx hb dMa_step_310 (lv_at hl 0 rfl) ?_
      refine va_put (D := (dC, dI)) (ci := 4) (v := .int y1) (ty := .int) (C := "StepCourt$Machine") (T := TMa) (N := 8) hx hb hq inMa tyMa tyMa_ok nmMa hown hK hP hD hS 4 rfl rfl 2 (by decide) (hq _ wt_69) (fun _ h9 => h9) rfl (by decide +kernel) rfl rfl (Nat.le_of_ble_eq_true rfl) dMa_step_312 (fun H locs hP hD hS => ?_)
      have hP : va_P (dC, dI) vwCl [(h0_cells, .inl (c0_cells, 8, .inl u.2.1)), (h1, ce_Co h1_ops h1_arguments), (h1_ops, .inl (c1_ops, 16, .inl u.2.2.1)), (h1_arguments, .inl (c1_arguments, 16, .inl u.2.2.2.1)), (h0, ce_Ma h0_cells h0_tree (y1, u33.1.2.1, u33.1.2.2.1, u33.1.2.2.2.1, u33.1.2.2.2.2.1, u33.1.2.2.2.2.2)), (h2, ce_In h2_words u33.2.1), (h2_words, .inl (c2_words, 60, .inl u33.2.2))] H := hP
      have hD : va_D A [(h0_cells, .inl (c0_cells, 8, .inl u.2.1)), (h1, ce_Co h1_ops h1_arguments), (h1_ops, .inl (c1_ops, 16, .inl u.2.2.1)), (h1_arguments, .inl (c1_arguments, 16, .inl u.2.2.2.1)), (h0, ce_Ma h0_cells h0_tree (y1, u33.1.2.1, u33.1.2.2.1, u33.1.2.2.2.1, u33.1.2.2.2.2.1, u33.1.2.2.2.2.2)), (h2, ce_In h2_words u33.2.1), (h2_words, .inl (c2_words, 60, .inl u33.2.2))] := hD
      have hP9 := hP.sub (ws' := [(h0, ce_Ma h0_cells h0_tree (y1, u33.1.2.1, u33.1.2.2.1, u33.1.2.2.2.1, u33.1.2.2.2.2.1, u33.1.2.2.2.2.2)), (h0_cells, .inl (c0_cells, 8, .inl u.2.1)), (h1, ce_Co h1_ops h1_arguments), (h1_ops, .inl (c1_ops, 16, .inl u.2.2.1)), (h1_arguments, .inl (c1_arguments, 16, .inl u.2.2.2.1)), (h2, ce_In h2_words u33.2.1), (h2_words, .inl (c2_words, 60, .inl u33.2.2))]) [4, 0, 1, 2, 3, 5, 6] rfl
      have hD9 := hD.sub (ws' := [(h0, ce_Ma h0_cells h0_tree (y1, u33.1.2.1, u33.1.2.2.1, u33.1.2.2.2.1, u33.1.2.2.2.2.1, u33.1.2.2.2.2.2)), (h0_cells, .inl (c0_cells, 8, .inl u.2.1)), (h1, ce_Co h1_ops h1_arguments), (h1_ops, .inl (c1_ops, 16, .inl u.2.2.1)), (h1_arguments, .inl (c1_arguments, 16, .inl u.2.2.2.1)), (h2, ce_In h2_words u33.2.1), (h2_words, .inl (c2_words, 60, .inl u33.2.2))]) [4, 0, 1, 2, 3, 5, 6] (by decide) rfl
      have hK9 := hK.sub (tys' := [(c0_cells, .int), (c1_ops, .int), (c1_arguments, .int), (c2_words, .int)]) [0, 1, 2, 3] rfl
      exact W.vret hx hb hr (fun t ht hW => ⟨⟨((y1, u33.1.2.1, u33.1.2.2.1, u33.1.2.2.2.1, u33.1.2.2.2.2.1, u33.1.2.2.2.2.2), u.2.1, u.2.2.1, u.2.2.2.1, u33.2.1, u33.2.2), rfl, hw, by rw [ht]; exact hP9, va_K.moved hW.alike hK9, hD9⟩, hS.F ht⟩) hS.2.2 dMa_step_315
    · have hw := hw.2 cc34
      refine lv_iload hx hb dMa_step_233 (lv_at hl 1 rfl) ?_
      refine lv_goto (tgt := 240) hx hb dMa_step_235 (by decide) ?_
      refine lv_istore (lv' := [(6, .int y4), (7, .int y5), (5, .int y3), (4, .int y1), (0, .ref h0), (1, .ref h1), (2, .ref h2), (3, .int k3)]) hx hb dMa_step_240 hl (by decide) rfl (fun ls hl => ?_)
      refine lv_goto (tgt := 309) hx hb dMa_step_242 (by decide) ?_
      refine lv_aload_n hx hb dMa_step_309 rfl (lv_at hl 4 rfl) ?_
      refine lv_iload hx hb dMa_step_310 (lv_at hl 0 rfl) ?_
      refine va_put (D := (dC, dI)) (ci := 4) (v := .int y4) (ty := .int) (C := "StepCourt$Machine") (T := TMa) (N := 8) hx hb hq inMa tyMa tyMa_ok nmMa hown hK hP hD hS 4 rfl rfl 2 (by decide) (hq _ wt_69) (fun _ h9 => h9) rfl (by decide +kernel) rfl rfl (Nat.le_of_ble_eq_true rfl) dMa_step_312 (fun H locs hP hD hS => ?_)
      have hP : va_P (dC, dI) vwCl [(h0_cells, .inl (c0_cells, 8, .inl u.2.1)), (h1, ce_Co h1_ops h1_arguments), (h1_ops, .inl (c1_ops, 16, .inl u.2.2.1)), (h1_arguments, .inl (c1_arguments, 16, .inl u.2.2.2.1)), (h0, ce_Ma h0_cells h0_tree (y4, u33.1.2.1, u33.1.2.2.1, u33.1.2.2.2.1, u33.1.2.2.2.2.1, u33.1.2.2.2.2.2)), (h2, ce_In h2_words u33.2.1), (h2_words, .inl (c2_words, 60, .inl u33.2.2))] H := hP
      have hD : va_D A [(h0_cells, .inl (c0_cells, 8, .inl u.2.1)), (h1, ce_Co h1_ops h1_arguments), (h1_ops, .inl (c1_ops, 16, .inl u.2.2.1)), (h1_arguments, .inl (c1_arguments, 16, .inl u.2.2.2.1)), (h0, ce_Ma h0_cells h0_tree (y4, u33.1.2.1, u33.1.2.2.1, u33.1.2.2.2.1, u33.1.2.2.2.2.1, u33.1.2.2.2.2.2)), (h2, ce_In h2_words u33.2.1), (h2_words, .inl (c2_words, 60, .inl u33.2.2))] := hD
      have hP9 := hP.sub (ws' := [(h0, ce_Ma h0_cells h0_tree (y4, u33.1.2.1, u33.1.2.2.1, u33.1.2.2.2.1, u33.1.2.2.2.2.1, u33.1.2.2.2.2.2)), (h0_cells, .inl (c0_cells, 8, .inl u.2.1)), (h1, ce_Co h1_ops h1_arguments), (h1_ops, .inl (c1_ops, 16, .inl u.2.2.1)), (h1_arguments, .inl (c1_arguments, 16, .inl u.2.2.2.1)), (h2, ce_In h2_words u33.2.1), (h2_words, .inl (c2_words, 60, .inl u33.2.2))]) [4, 0, 1, 2, 3, 5, 6] rfl
      have hD9 := hD.sub (ws' := [(h0, ce_Ma h0_cells h0_tree (y4, u33.1.2.1, u33.1.2.2.1, u33.1.2.2.2.1, u33.1.2.2.2.2.1, u33.1.2.2.2.2.2)), (h0_cells, .inl (c0_cells, 8, .inl u.2.1)), (h1, ce_Co h1_ops h1_arguments), (h1_ops, .inl (c1_ops, 16, .inl u.2.2.1)), (h1_arguments, .inl (c1_arguments, 16, .inl u.2.2.2.1)), (h2, ce_In h2_words u33.2.1), (h2_words, .inl (c2_words, 60, .inl u33.2.2))]) [4, 0, 1, 2, 3, 5, 6] (by decide) rfl
      have hK9 := hK.sub (tys' := [(c0_cells, .int), (c1_ops, .int), (c1_arguments, .int), (c2_words, .int)]) [0, 1, 2, 3] rfl
      exact W.vret hx hb hr (fun t ht hW => ⟨⟨((y4, u33.1.2.1, u33.1.2.2.1, u33.1.2.2.2.1, u33.1.2.2.2.2.1, u33.1.2.2.2.2.2), u.2.1, u.2.2.1, u.2.2.2.1, u33.2.1, u33.2.2), rfl, hw, by rw [ht]; exact hP9, va_K.moved hW.alike hK9, hD9⟩, hS.F ht⟩) hS.2.2 dMa_step_315
  have hw := hw.2 cc31
  by_cases cc35 : kk7 = 10
  · have hw := hw.1 cc35
    refine lv_tableIn (off := 204) (tgt := 245) hx hb dMa_step_41 (by rw [cc35]; decide) (by rw [cc35]; decide) (by rw [cc35]; decide) (by decide) ?_
    refine lv_iload hx hb dMa_step_245 (lv_at hl 0 rfl) ?_
    refine lv_istore (lv' := [(6, .int y5), (7, .int y5), (5, .int y3), (4, .int y1), (0, .ref h0), (1, .ref h1), (2, .ref h2), (3, .int k3)]) hx hb dMa_step_247 hl (by decide) rfl (fun ls hl => ?_)
    refine lv_goto (tgt := 309) hx hb dMa_step_249 (by decide) ?_
    refine lv_aload_n hx hb dMa_step_309 rfl (lv_at hl 4 rfl) ?_
    refine lv_iload hx hb dMa_step_310 (lv_at hl 0 rfl) ?_
    refine va_put (D := (dC, dI)) (ci := 4) (v := .int y5) (ty := .int) (C := "StepCourt$Machine") (T := TMa) (N := 8) hx hb hq inMa tyMa tyMa_ok nmMa hown hK hP hD hS 0 rfl rfl 2 (by decide) (hq _ wt_69) (fun _ h9 => h9) rfl (by decide +kernel) rfl rfl (Nat.le_of_ble_eq_true rfl) dMa_step_312 (fun H locs hP hD hS => ?_)
    have hP : va_P (dC, dI) vwCl [(h0, ce_Ma h0_cells h0_tree (y5, u.1.2.1, u.1.2.2.1, u.1.2.2.2.1, u.1.2.2.2.2.1, u.1.2.2.2.2.2)), (h0_cells, .inl (c0_cells, 8, .inl u.2.1)), (h1, ce_Co h1_ops h1_arguments), (h1_ops, .inl (c1_ops, 16, .inl u.2.2.1)), (h1_arguments, .inl (c1_arguments, 16, .inl u.2.2.2.1)), (h2, ce_In h2_words u.2.2.2.2.1), (h2_words, .inl (c2_words, 60, .inl u.2.2.2.2.2))] H := hP
    have hD : va_D A [(h0, ce_Ma h0_cells h0_tree (y5, u.1.2.1, u.1.2.2.1, u.1.2.2.2.1, u.1.2.2.2.2.1, u.1.2.2.2.2.2)), (h0_cells, .inl (c0_cells, 8, .inl u.2.1)), (h1, ce_Co h1_ops h1_arguments), (h1_ops, .inl (c1_ops, 16, .inl u.2.2.1)), (h1_arguments, .inl (c1_arguments, 16, .inl u.2.2.2.1)), (h2, ce_In h2_words u.2.2.2.2.1), (h2_words, .inl (c2_words, 60, .inl u.2.2.2.2.2))] := hD
    have hP9 := hP.sub (ws' := [(h0, ce_Ma h0_cells h0_tree (y5, u.1.2.1, u.1.2.2.1, u.1.2.2.2.1, u.1.2.2.2.2.1, u.1.2.2.2.2.2)), (h0_cells, .inl (c0_cells, 8, .inl u.2.1)), (h1, ce_Co h1_ops h1_arguments), (h1_ops, .inl (c1_ops, 16, .inl u.2.2.1)), (h1_arguments, .inl (c1_arguments, 16, .inl u.2.2.2.1)), (h2, ce_In h2_words u.2.2.2.2.1), (h2_words, .inl (c2_words, 60, .inl u.2.2.2.2.2))]) [0, 1, 2, 3, 4, 5, 6] rfl
    have hD9 := hD.sub (ws' := [(h0, ce_Ma h0_cells h0_tree (y5, u.1.2.1, u.1.2.2.1, u.1.2.2.2.1, u.1.2.2.2.2.1, u.1.2.2.2.2.2)), (h0_cells, .inl (c0_cells, 8, .inl u.2.1)), (h1, ce_Co h1_ops h1_arguments), (h1_ops, .inl (c1_ops, 16, .inl u.2.2.1)), (h1_arguments, .inl (c1_arguments, 16, .inl u.2.2.2.1)), (h2, ce_In h2_words u.2.2.2.2.1), (h2_words, .inl (c2_words, 60, .inl u.2.2.2.2.2))]) [0, 1, 2, 3, 4, 5, 6] (by decide) rfl
    have hK9 := hK.sub (tys' := [(c0_cells, .int), (c1_ops, .int), (c1_arguments, .int), (c2_words, .int)]) [0, 1, 2, 3] rfl
    exact W.vret hx hb hr (fun t ht hW => ⟨⟨((y5, u.1.2.1, u.1.2.2.1, u.1.2.2.2.1, u.1.2.2.2.2.1, u.1.2.2.2.2.2), u.2.1, u.2.2.1, u.2.2.2.1, u.2.2.2.2.1, u.2.2.2.2.2), rfl, hw, by rw [ht]; exact hP9, va_K.moved hW.alike hK9, hD9⟩, hS.F ht⟩) hS.2.2 dMa_step_315
  have hw := hw.2 cc35
  by_cases cc36 : kk7 = 11
  · have hw := hw.1 cc36
    refine lv_tableIn (off := 211) (tgt := 252) hx hb dMa_step_41 (by rw [cc36]; decide) (by rw [cc36]; decide) (by rw [cc36]; decide) (by decide) ?_
    refine lv_aload_n hx hb dMa_step_252 rfl (lv_at hl 4 rfl) ?_
    refine va_get (D := (dC, dI)) (ci := 4) (v := .int u.1.2.1) (C := "StepCourt$Machine") (T := TMa) (N := 8) hx hb hq inMa hown hK hP 0 rfl rfl 3 (by decide) (hq _ wt_72) (fun _ h9 => h9) rfl dMa_step_253 ?_
    refine lv_if_ne (tgt := 264) hx hb dMa_step_256 (by decide) (fun cc37 => ?_) (fun cc37 => ?_)
    · have hw := hw.2 cc37
      refine lv_iload hx hb dMa_step_264 (lv_at hl 1 rfl) ?_
      refine lv_istore (lv' := [(6, .int y4), (7, .int y5), (5, .int y3), (4, .int y1), (0, .ref h0), (1, .ref h1), (2, .ref h2), (3, .int k3)]) hx hb dMa_step_266 hl (by decide) rfl (fun ls hl => ?_)
      refine lv_goto (tgt := 309) hx hb dMa_step_268 (by decide) ?_
      refine lv_aload_n hx hb dMa_step_309 rfl (lv_at hl 4 rfl) ?_
      refine lv_iload hx hb dMa_step_310 (lv_at hl 0 rfl) ?_
      refine va_put (D := (dC, dI)) (ci := 4) (v := .int y4) (ty := .int) (C := "StepCourt$Machine") (T := TMa) (N := 8) hx hb hq inMa tyMa tyMa_ok nmMa hown hK hP hD hS 0 rfl rfl 2 (by decide) (hq _ wt_69) (fun _ h9 => h9) rfl (by decide +kernel) rfl rfl (Nat.le_of_ble_eq_true rfl) dMa_step_312 (fun H locs hP hD hS => ?_)
      have hP : va_P (dC, dI) vwCl [(h0, ce_Ma h0_cells h0_tree (y4, u.1.2.1, u.1.2.2.1, u.1.2.2.2.1, u.1.2.2.2.2.1, u.1.2.2.2.2.2)), (h0_cells, .inl (c0_cells, 8, .inl u.2.1)), (h1, ce_Co h1_ops h1_arguments), (h1_ops, .inl (c1_ops, 16, .inl u.2.2.1)), (h1_arguments, .inl (c1_arguments, 16, .inl u.2.2.2.1)), (h2, ce_In h2_words u.2.2.2.2.1), (h2_words, .inl (c2_words, 60, .inl u.2.2.2.2.2))] H := hP
      have hD : va_D A [(h0, ce_Ma h0_cells h0_tree (y4, u.1.2.1, u.1.2.2.1, u.1.2.2.2.1, u.1.2.2.2.2.1, u.1.2.2.2.2.2)), (h0_cells, .inl (c0_cells, 8, .inl u.2.1)), (h1, ce_Co h1_ops h1_arguments), (h1_ops, .inl (c1_ops, 16, .inl u.2.2.1)), (h1_arguments, .inl (c1_arguments, 16, .inl u.2.2.2.1)), (h2, ce_In h2_words u.2.2.2.2.1), (h2_words, .inl (c2_words, 60, .inl u.2.2.2.2.2))] := hD
      have hP9 := hP.sub (ws' := [(h0, ce_Ma h0_cells h0_tree (y4, u.1.2.1, u.1.2.2.1, u.1.2.2.2.1, u.1.2.2.2.2.1, u.1.2.2.2.2.2)), (h0_cells, .inl (c0_cells, 8, .inl u.2.1)), (h1, ce_Co h1_ops h1_arguments), (h1_ops, .inl (c1_ops, 16, .inl u.2.2.1)), (h1_arguments, .inl (c1_arguments, 16, .inl u.2.2.2.1)), (h2, ce_In h2_words u.2.2.2.2.1), (h2_words, .inl (c2_words, 60, .inl u.2.2.2.2.2))]) [0, 1, 2, 3, 4, 5, 6] rfl
      have hD9 := hD.sub (ws' := [(h0, ce_Ma h0_cells h0_tree (y4, u.1.2.1, u.1.2.2.1, u.1.2.2.2.1, u.1.2.2.2.2.1, u.1.2.2.2.2.2)), (h0_cells, .inl (c0_cells, 8, .inl u.2.1)), (h1, ce_Co h1_ops h1_arguments), (h1_ops, .inl (c1_ops, 16, .inl u.2.2.1)), (h1_arguments, .inl (c1_arguments, 16, .inl u.2.2.2.1)), (h2, ce_In h2_words u.2.2.2.2.1), (h2_words, .inl (c2_words, 60, .inl u.2.2.2.2.2))]) [0, 1, 2, 3, 4, 5, 6] (by decide) rfl
      have hK9 := hK.sub (tys' := [(c0_cells, .int), (c1_ops, .int), (c1_arguments, .int), (c2_words, .int)]) [0, 1, 2, 3] rfl
      exact W.vret hx hb hr (fun t ht hW => ⟨⟨((y4, u.1.2.1, u.1.2.2.1, u.1.2.2.2.1, u.1.2.2.2.2.1, u.1.2.2.2.2.2), u.2.1, u.2.2.1, u.2.2.2.1, u.2.2.2.2.1, u.2.2.2.2.2), rfl, hw, by rw [ht]; exact hP9, va_K.moved hW.alike hK9, hD9⟩, hS.F ht⟩) hS.2.2 dMa_step_315
    · have hw := hw.1 cc37
      refine lv_iload hx hb dMa_step_259 (lv_at hl 0 rfl) ?_
      refine lv_goto (tgt := 266) hx hb dMa_step_261 (by decide) ?_
      refine lv_istore (lv' := [(6, .int y5), (7, .int y5), (5, .int y3), (4, .int y1), (0, .ref h0), (1, .ref h1), (2, .ref h2), (3, .int k3)]) hx hb dMa_step_266 hl (by decide) rfl (fun ls hl => ?_)
      refine lv_goto (tgt := 309) hx hb dMa_step_268 (by decide) ?_
      refine lv_aload_n hx hb dMa_step_309 rfl (lv_at hl 4 rfl) ?_
      refine lv_iload hx hb dMa_step_310 (lv_at hl 0 rfl) ?_
      refine va_put (D := (dC, dI)) (ci := 4) (v := .int y5) (ty := .int) (C := "StepCourt$Machine") (T := TMa) (N := 8) hx hb hq inMa tyMa tyMa_ok nmMa hown hK hP hD hS 0 rfl rfl 2 (by decide) (hq _ wt_69) (fun _ h9 => h9) rfl (by decide +kernel) rfl rfl (Nat.le_of_ble_eq_true rfl) dMa_step_312 (fun H locs hP hD hS => ?_)
      have hP : va_P (dC, dI) vwCl [(h0, ce_Ma h0_cells h0_tree (y5, u.1.2.1, u.1.2.2.1, u.1.2.2.2.1, u.1.2.2.2.2.1, u.1.2.2.2.2.2)), (h0_cells, .inl (c0_cells, 8, .inl u.2.1)), (h1, ce_Co h1_ops h1_arguments), (h1_ops, .inl (c1_ops, 16, .inl u.2.2.1)), (h1_arguments, .inl (c1_arguments, 16, .inl u.2.2.2.1)), (h2, ce_In h2_words u.2.2.2.2.1), (h2_words, .inl (c2_words, 60, .inl u.2.2.2.2.2))] H := hP
      have hD : va_D A [(h0, ce_Ma h0_cells h0_tree (y5, u.1.2.1, u.1.2.2.1, u.1.2.2.2.1, u.1.2.2.2.2.1, u.1.2.2.2.2.2)), (h0_cells, .inl (c0_cells, 8, .inl u.2.1)), (h1, ce_Co h1_ops h1_arguments), (h1_ops, .inl (c1_ops, 16, .inl u.2.2.1)), (h1_arguments, .inl (c1_arguments, 16, .inl u.2.2.2.1)), (h2, ce_In h2_words u.2.2.2.2.1), (h2_words, .inl (c2_words, 60, .inl u.2.2.2.2.2))] := hD
      have hP9 := hP.sub (ws' := [(h0, ce_Ma h0_cells h0_tree (y5, u.1.2.1, u.1.2.2.1, u.1.2.2.2.1, u.1.2.2.2.2.1, u.1.2.2.2.2.2)), (h0_cells, .inl (c0_cells, 8, .inl u.2.1)), (h1, ce_Co h1_ops h1_arguments), (h1_ops, .inl (c1_ops, 16, .inl u.2.2.1)), (h1_arguments, .inl (c1_arguments, 16, .inl u.2.2.2.1)), (h2, ce_In h2_words u.2.2.2.2.1), (h2_words, .inl (c2_words, 60, .inl u.2.2.2.2.2))]) [0, 1, 2, 3, 4, 5, 6] rfl
      have hD9 := hD.sub (ws' := [(h0, ce_Ma h0_cells h0_tree (y5, u.1.2.1, u.1.2.2.1, u.1.2.2.2.1, u.1.2.2.2.2.1, u.1.2.2.2.2.2)), (h0_cells, .inl (c0_cells, 8, .inl u.2.1)), (h1, ce_Co h1_ops h1_arguments), (h1_ops, .inl (c1_ops, 16, .inl u.2.2.1)), (h1_arguments, .inl (c1_arguments, 16, .inl u.2.2.2.1)), (h2, ce_In h2_words u.2.2.2.2.1), (h2_words, .inl (c2_words, 60, .inl u.2.2.2.2.2))]) [0, 1, 2, 3, 4, 5, 6] (by decide) rfl
      have hK9 := hK.sub (tys' := [(c0_cells, .int), (c1_ops, .int), (c1_arguments, .int), (c2_words, .int)]) [0, 1, 2, 3] rfl
      exact W.vret hx hb hr (fun t ht hW => ⟨⟨((y5, u.1.2.1, u.1.2.2.1, u.1.2.2.2.1, u.1.2.2.2.2.1, u.1.2.2.2.2.2), u.2.1, u.2.2.1, u.2.2.2.1, u.2.2.2.2.1, u.2.2.2.2.2), rfl, hw, by rw [ht]; exact hP9, va_K.moved hW.alike hK9, hD9⟩, hS.F ht⟩) hS.2.2 dMa_step_315
  have hw := hw.2 cc36
  by_cases cc38 : kk7 = 12
  · have hw := hw.1 cc38
    refine lv_tableIn (off := 230) (tgt := 271) hx hb dMa_step_41 (by rw [cc38]; decide) (by rw [cc38]; decide) (by rw [cc38]; decide) (by decide) ?_
    refine lv_aload_n hx hb dMa_step_271 rfl (lv_at hl 4 rfl) ?_
    refine va_get (D := (dC, dI)) (ci := 4) (v := .int u.1.2.1) (C := "StepCourt$Machine") (T := TMa) (N := 8) hx hb hq inMa hown hK hP 0 rfl rfl 3 (by decide) (hq _ wt_72) (fun _ h9 => h9) rfl dMa_step_272 ?_
    refine lv_if_ge (tgt := 283) hx hb dMa_step_275 (by decide) (fun cc39 => ?_) (fun cc39 => ?_)
    · have hw := hw.1 cc39
      refine lv_iload hx hb dMa_step_283 (lv_at hl 1 rfl) ?_
      refine lv_istore (lv' := [(6, .int y4), (7, .int y5), (5, .int y3), (4, .int y1), (0, .ref h0), (1, .ref h1), (2, .ref h2), (3, .int k3)]) hx hb dMa_step_285 hl (by decide) rfl (fun ls hl => ?_)
      refine lv_goto (tgt := 309) hx hb dMa_step_287 (by decide) ?_
      refine lv_aload_n hx hb dMa_step_309 rfl (lv_at hl 4 rfl) ?_
      refine lv_iload hx hb dMa_step_310 (lv_at hl 0 rfl) ?_
      refine va_put (D := (dC, dI)) (ci := 4) (v := .int y4) (ty := .int) (C := "StepCourt$Machine") (T := TMa) (N := 8) hx hb hq inMa tyMa tyMa_ok nmMa hown hK hP hD hS 0 rfl rfl 2 (by decide) (hq _ wt_69) (fun _ h9 => h9) rfl (by decide +kernel) rfl rfl (Nat.le_of_ble_eq_true rfl) dMa_step_312 (fun H locs hP hD hS => ?_)
      have hP : va_P (dC, dI) vwCl [(h0, ce_Ma h0_cells h0_tree (y4, u.1.2.1, u.1.2.2.1, u.1.2.2.2.1, u.1.2.2.2.2.1, u.1.2.2.2.2.2)), (h0_cells, .inl (c0_cells, 8, .inl u.2.1)), (h1, ce_Co h1_ops h1_arguments), (h1_ops, .inl (c1_ops, 16, .inl u.2.2.1)), (h1_arguments, .inl (c1_arguments, 16, .inl u.2.2.2.1)), (h2, ce_In h2_words u.2.2.2.2.1), (h2_words, .inl (c2_words, 60, .inl u.2.2.2.2.2))] H := hP
      have hD : va_D A [(h0, ce_Ma h0_cells h0_tree (y4, u.1.2.1, u.1.2.2.1, u.1.2.2.2.1, u.1.2.2.2.2.1, u.1.2.2.2.2.2)), (h0_cells, .inl (c0_cells, 8, .inl u.2.1)), (h1, ce_Co h1_ops h1_arguments), (h1_ops, .inl (c1_ops, 16, .inl u.2.2.1)), (h1_arguments, .inl (c1_arguments, 16, .inl u.2.2.2.1)), (h2, ce_In h2_words u.2.2.2.2.1), (h2_words, .inl (c2_words, 60, .inl u.2.2.2.2.2))] := hD
      have hP9 := hP.sub (ws' := [(h0, ce_Ma h0_cells h0_tree (y4, u.1.2.1, u.1.2.2.1, u.1.2.2.2.1, u.1.2.2.2.2.1, u.1.2.2.2.2.2)), (h0_cells, .inl (c0_cells, 8, .inl u.2.1)), (h1, ce_Co h1_ops h1_arguments), (h1_ops, .inl (c1_ops, 16, .inl u.2.2.1)), (h1_arguments, .inl (c1_arguments, 16, .inl u.2.2.2.1)), (h2, ce_In h2_words u.2.2.2.2.1), (h2_words, .inl (c2_words, 60, .inl u.2.2.2.2.2))]) [0, 1, 2, 3, 4, 5, 6] rfl
      have hD9 := hD.sub (ws' := [(h0, ce_Ma h0_cells h0_tree (y4, u.1.2.1, u.1.2.2.1, u.1.2.2.2.1, u.1.2.2.2.2.1, u.1.2.2.2.2.2)), (h0_cells, .inl (c0_cells, 8, .inl u.2.1)), (h1, ce_Co h1_ops h1_arguments), (h1_ops, .inl (c1_ops, 16, .inl u.2.2.1)), (h1_arguments, .inl (c1_arguments, 16, .inl u.2.2.2.1)), (h2, ce_In h2_words u.2.2.2.2.1), (h2_words, .inl (c2_words, 60, .inl u.2.2.2.2.2))]) [0, 1, 2, 3, 4, 5, 6] (by decide) rfl
      have hK9 := hK.sub (tys' := [(c0_cells, .int), (c1_ops, .int), (c1_arguments, .int), (c2_words, .int)]) [0, 1, 2, 3] rfl
      exact W.vret hx hb hr (fun t ht hW => ⟨⟨((y4, u.1.2.1, u.1.2.2.1, u.1.2.2.2.1, u.1.2.2.2.2.1, u.1.2.2.2.2.2), u.2.1, u.2.2.1, u.2.2.2.1, u.2.2.2.2.1, u.2.2.2.2.2), rfl, hw, by rw [ht]; exact hP9, va_K.moved hW.alike hK9, hD9⟩, hS.F ht⟩) hS.2.2 dMa_step_315
    · have hw := hw.2 cc39
      refine lv_iload hx hb dMa_step_278 (lv_at hl 0 rfl) ?_
      refine lv_goto (tgt := 285) hx hb dMa_step_280 (by decide) ?_
      refine lv_istore (lv' := [(6, .int y5), (7, .int y5), (5, .int y3), (4, .int y1), (0, .ref h0), (1, .ref h1), (2, .ref h2), (3, .int k3)]) hx hb dMa_step_285 hl (by decide) rfl (fun ls hl => ?_)
      refine lv_goto (tgt := 309) hx hb dMa_step_287 (by decide) ?_
      refine lv_aload_n hx hb dMa_step_309 rfl (lv_at hl 4 rfl) ?_
      refine lv_iload hx hb dMa_step_310 (lv_at hl 0 rfl) ?_
      refine va_put (D := (dC, dI)) (ci := 4) (v := .int y5) (ty := .int) (C := "StepCourt$Machine") (T := TMa) (N := 8) hx hb hq inMa tyMa tyMa_ok nmMa hown hK hP hD hS 0 rfl rfl 2 (by decide) (hq _ wt_69) (fun _ h9 => h9) rfl (by decide +kernel) rfl rfl (Nat.le_of_ble_eq_true rfl) dMa_step_312 (fun H locs hP hD hS => ?_)
      have hP : va_P (dC, dI) vwCl [(h0, ce_Ma h0_cells h0_tree (y5, u.1.2.1, u.1.2.2.1, u.1.2.2.2.1, u.1.2.2.2.2.1, u.1.2.2.2.2.2)), (h0_cells, .inl (c0_cells, 8, .inl u.2.1)), (h1, ce_Co h1_ops h1_arguments), (h1_ops, .inl (c1_ops, 16, .inl u.2.2.1)), (h1_arguments, .inl (c1_arguments, 16, .inl u.2.2.2.1)), (h2, ce_In h2_words u.2.2.2.2.1), (h2_words, .inl (c2_words, 60, .inl u.2.2.2.2.2))] H := hP
      have hD : va_D A [(h0, ce_Ma h0_cells h0_tree (y5, u.1.2.1, u.1.2.2.1, u.1.2.2.2.1, u.1.2.2.2.2.1, u.1.2.2.2.2.2)), (h0_cells, .inl (c0_cells, 8, .inl u.2.1)), (h1, ce_Co h1_ops h1_arguments), (h1_ops, .inl (c1_ops, 16, .inl u.2.2.1)), (h1_arguments, .inl (c1_arguments, 16, .inl u.2.2.2.1)), (h2, ce_In h2_words u.2.2.2.2.1), (h2_words, .inl (c2_words, 60, .inl u.2.2.2.2.2))] := hD
      have hP9 := hP.sub (ws' := [(h0, ce_Ma h0_cells h0_tree (y5, u.1.2.1, u.1.2.2.1, u.1.2.2.2.1, u.1.2.2.2.2.1, u.1.2.2.2.2.2)), (h0_cells, .inl (c0_cells, 8, .inl u.2.1)), (h1, ce_Co h1_ops h1_arguments), (h1_ops, .inl (c1_ops, 16, .inl u.2.2.1)), (h1_arguments, .inl (c1_arguments, 16, .inl u.2.2.2.1)), (h2, ce_In h2_words u.2.2.2.2.1), (h2_words, .inl (c2_words, 60, .inl u.2.2.2.2.2))]) [0, 1, 2, 3, 4, 5, 6] rfl
      have hD9 := hD.sub (ws' := [(h0, ce_Ma h0_cells h0_tree (y5, u.1.2.1, u.1.2.2.1, u.1.2.2.2.1, u.1.2.2.2.2.1, u.1.2.2.2.2.2)), (h0_cells, .inl (c0_cells, 8, .inl u.2.1)), (h1, ce_Co h1_ops h1_arguments), (h1_ops, .inl (c1_ops, 16, .inl u.2.2.1)), (h1_arguments, .inl (c1_arguments, 16, .inl u.2.2.2.1)), (h2, ce_In h2_words u.2.2.2.2.1), (h2_words, .inl (c2_words, 60, .inl u.2.2.2.2.2))]) [0, 1, 2, 3, 4, 5, 6] (by decide) rfl
      have hK9 := hK.sub (tys' := [(c0_cells, .int), (c1_ops, .int), (c1_arguments, .int), (c2_words, .int)]) [0, 1, 2, 3] rfl
      exact W.vret hx hb hr (fun t ht hW => ⟨⟨((y5, u.1.2.1, u.1.2.2.1, u.1.2.2.2.1, u.1.2.2.2.2.1, u.1.2.2.2.2.2), u.2.1, u.2.2.1, u.2.2.2.1, u.2.2.2.2.1, u.2.2.2.2.2), rfl, hw, by rw [ht]; exact hP9, va_K.moved hW.alike hK9, hD9⟩, hS.F ht⟩) hS.2.2 dMa_step_315
  have hw := hw.2 cc38
  by_cases cc40 : kk7 = 13
  · have hw := hw.1 cc40
    refine lv_tableIn (off := 249) (tgt := 290) hx hb dMa_step_41 (by rw [cc40]; decide) (by rw [cc40]; decide) (by rw [cc40]; decide) (by decide) ?_
    refine lv_aload_n hx hb dMa_step_290 rfl (lv_at hl 4 rfl) ?_
    have hPc := hP.sub (ws' := [(h0, ce_Ma h0_cells h0_tree u.1)]) [0] rfl
    have hDc := hD.sub (ws' := [(h0, ce_Ma h0_cells h0_tree u.1)]) [0] (by decide) rfl
    have hKc := hK.sub (tys' := []) [] rfl
    have hFc := va_free (wc := [(h0, ce_Ma h0_cells h0_tree u.1)]) hD hS hA [0] rfl
    refine va_calli (va_runV (As := []) (rest := []) ⟨hx, hb, hml, hown, hq⟩ (mt_Ma_makePayment l dC dI h0 h0_cells h0_tree s.heap.size _ u.1 hw) ⟨cq_B 0 hq wt_364 wt_361 wt_4 rfl rfl hd_Ma_makePayment ⟨Nat.le_of_ble_eq_true rfl, Nat.le_of_ble_eq_true rfl⟩, (hq _ wt_363), (hq _ wv_10)⟩ ⟨kp_bl, va_recv hKc hPc (ci := 4) (q0 := 0) rfl rfl, kp_at hPc hKc hDc hZ⟩ rfl rfl hl.1 rfl (lv_room (Nat.le_of_ble_eq_true rfl)) dMa_step_291 ⟨(by decide), (by decide)⟩) hS (fun q _ h => hFc q h) hFc (fun r41 u42 t H1 locs ht hvm hw hB hz1 hk1 hS => ?_)
    obtain ⟨hP1, hK1, hD1⟩ := hB
    rw [ht] at hP1
    have hK1 := va_K.moved hvm.symm hK1
    obtain ⟨hP, hD⟩ := va_join (wr := [(h0_cells, .inl (c0_cells, 8, .inl u.2.1)), (h1, ce_Co h1_ops h1_arguments), (h1_ops, .inl (c1_ops, 16, .inl u.2.2.1)), (h1_arguments, .inl (c1_arguments, 16, .inl u.2.2.2.1)), (h2, ce_In h2_words u.2.2.2.2.1), (h2_words, .inl (c2_words, 60, .inl u.2.2.2.2.2))]) (w1 := [(h0, ce_Ma h0_cells h0_tree u42)]) hP hD [0] [1, 2, 3, 4, 5, 6] rfl rfl (by decide) (by decide) hk1 hFc hP1 hD1
    have hK := (hK.sub (tys' := [(c0_cells, .int), (c1_ops, .int), (c1_arguments, .int), (c2_words, .int)]) [0, 1, 2, 3] rfl).app hK1
    generalize H1 = H at hP hS ⊢
    have hP : va_P (dC, dI) vwCl [(h0_cells, .inl (c0_cells, 8, .inl u.2.1)), (h1, ce_Co h1_ops h1_arguments), (h1_ops, .inl (c1_ops, 16, .inl u.2.2.1)), (h1_arguments, .inl (c1_arguments, 16, .inl u.2.2.2.1)), (h2, ce_In h2_words u.2.2.2.2.1), (h2_words, .inl (c2_words, 60, .inl u.2.2.2.2.2)), (h0, ce_Ma h0_cells h0_tree u42)] H := hP
    have hD : va_D A [(h0_cells, .inl (c0_cells, 8, .inl u.2.1)), (h1, ce_Co h1_ops h1_arguments), (h1_ops, .inl (c1_ops, 16, .inl u.2.2.1)), (h1_arguments, .inl (c1_arguments, 16, .inl u.2.2.2.1)), (h2, ce_In h2_words u.2.2.2.2.1), (h2_words, .inl (c2_words, 60, .inl u.2.2.2.2.2)), (h0, ce_Ma h0_cells h0_tree u42)] := hD
    have hK : va_K (dC, dI) vwCl [(c0_cells, .int), (c1_ops, .int), (c1_arguments, .int), (c2_words, .int)] s := hK
    refine lv_if_eq (tgt := 302) hx hb dMa_step_294 (by decide) (fun cc43 => ?_) (fun cc43 => ?_)
    · have hw := hw.1 cc43
      refine lv_iload hx hb dMa_step_302 (lv_at hl 3 rfl) ?_
      refine lv_istore (lv' := [(6, .int y1), (7, .int y5), (5, .int y3), (4, .int y1), (0, .ref h0), (1, .ref h1), (2, .ref h2), (3, .int k3)]) hx hb dMa_step_304 hl (by decide) rfl (fun ls hl => ?_)
      refine lv_goto (tgt := 309) hx hb dMa_step_306 (by decide) ?_
      refine lv_aload_n hx hb dMa_step_309 rfl (lv_at hl 4 rfl) ?_
      refine lv_iload hx hb dMa_step_310 (lv_at hl 0 rfl) ?_
      refine va_put (D := (dC, dI)) (ci := 4) (v := .int y1) (ty := .int) (C := "StepCourt$Machine") (T := TMa) (N := 8) hx hb hq inMa tyMa tyMa_ok nmMa hown hK hP hD hS 6 rfl rfl 2 (by decide) (hq _ wt_69) (fun _ h9 => h9) rfl (by decide +kernel) rfl rfl (Nat.le_of_ble_eq_true rfl) dMa_step_312 (fun H locs hP hD hS => ?_)
      have hP : va_P (dC, dI) vwCl [(h0_cells, .inl (c0_cells, 8, .inl u.2.1)), (h1, ce_Co h1_ops h1_arguments), (h1_ops, .inl (c1_ops, 16, .inl u.2.2.1)), (h1_arguments, .inl (c1_arguments, 16, .inl u.2.2.2.1)), (h2, ce_In h2_words u.2.2.2.2.1), (h2_words, .inl (c2_words, 60, .inl u.2.2.2.2.2)), (h0, ce_Ma h0_cells h0_tree (y1, u42.2.1, u42.2.2.1, u42.2.2.2.1, u42.2.2.2.2.1, u42.2.2.2.2.2))] H := hP
      have hD : va_D A [(h0_cells, .inl (c0_cells, 8, .inl u.2.1)), (h1, ce_Co h1_ops h1_arguments), (h1_ops, .inl (c1_ops, 16, .inl u.2.2.1)), (h1_arguments, .inl (c1_arguments, 16, .inl u.2.2.2.1)), (h2, ce_In h2_words u.2.2.2.2.1), (h2_words, .inl (c2_words, 60, .inl u.2.2.2.2.2)), (h0, ce_Ma h0_cells h0_tree (y1, u42.2.1, u42.2.2.1, u42.2.2.2.1, u42.2.2.2.2.1, u42.2.2.2.2.2))] := hD
      have hP9 := hP.sub (ws' := [(h0, ce_Ma h0_cells h0_tree (y1, u42.2.1, u42.2.2.1, u42.2.2.2.1, u42.2.2.2.2.1, u42.2.2.2.2.2)), (h0_cells, .inl (c0_cells, 8, .inl u.2.1)), (h1, ce_Co h1_ops h1_arguments), (h1_ops, .inl (c1_ops, 16, .inl u.2.2.1)), (h1_arguments, .inl (c1_arguments, 16, .inl u.2.2.2.1)), (h2, ce_In h2_words u.2.2.2.2.1), (h2_words, .inl (c2_words, 60, .inl u.2.2.2.2.2))]) [6, 0, 1, 2, 3, 4, 5] rfl
      have hD9 := hD.sub (ws' := [(h0, ce_Ma h0_cells h0_tree (y1, u42.2.1, u42.2.2.1, u42.2.2.2.1, u42.2.2.2.2.1, u42.2.2.2.2.2)), (h0_cells, .inl (c0_cells, 8, .inl u.2.1)), (h1, ce_Co h1_ops h1_arguments), (h1_ops, .inl (c1_ops, 16, .inl u.2.2.1)), (h1_arguments, .inl (c1_arguments, 16, .inl u.2.2.2.1)), (h2, ce_In h2_words u.2.2.2.2.1), (h2_words, .inl (c2_words, 60, .inl u.2.2.2.2.2))]) [6, 0, 1, 2, 3, 4, 5] (by decide) rfl
      have hK9 := hK.sub (tys' := [(c0_cells, .int), (c1_ops, .int), (c1_arguments, .int), (c2_words, .int)]) [0, 1, 2, 3] rfl
      exact W.vret hx hb hr (fun t ht hW => ⟨⟨((y1, u42.2.1, u42.2.2.1, u42.2.2.2.1, u42.2.2.2.2.1, u42.2.2.2.2.2), u.2.1, u.2.2.1, u.2.2.2.1, u.2.2.2.2.1, u.2.2.2.2.2), rfl, hw, by rw [ht]; exact hP9, va_K.moved hW.alike hK9, hD9⟩, hS.F ht⟩) hS.2.2 dMa_step_315
    · have hw := hw.2 cc43
      refine lv_iload hx hb dMa_step_297 (lv_at hl 1 rfl) ?_
      refine lv_goto (tgt := 304) hx hb dMa_step_299 (by decide) ?_
      refine lv_istore (lv' := [(6, .int y4), (7, .int y5), (5, .int y3), (4, .int y1), (0, .ref h0), (1, .ref h1), (2, .ref h2), (3, .int k3)]) hx hb dMa_step_304 hl (by decide) rfl (fun ls hl => ?_)
      refine lv_goto (tgt := 309) hx hb dMa_step_306 (by decide) ?_
      refine lv_aload_n hx hb dMa_step_309 rfl (lv_at hl 4 rfl) ?_
      refine lv_iload hx hb dMa_step_310 (lv_at hl 0 rfl) ?_
      refine va_put (D := (dC, dI)) (ci := 4) (v := .int y4) (ty := .int) (C := "StepCourt$Machine") (T := TMa) (N := 8) hx hb hq inMa tyMa tyMa_ok nmMa hown hK hP hD hS 6 rfl rfl 2 (by decide) (hq _ wt_69) (fun _ h9 => h9) rfl (by decide +kernel) rfl rfl (Nat.le_of_ble_eq_true rfl) dMa_step_312 (fun H locs hP hD hS => ?_)
      have hP : va_P (dC, dI) vwCl [(h0_cells, .inl (c0_cells, 8, .inl u.2.1)), (h1, ce_Co h1_ops h1_arguments), (h1_ops, .inl (c1_ops, 16, .inl u.2.2.1)), (h1_arguments, .inl (c1_arguments, 16, .inl u.2.2.2.1)), (h2, ce_In h2_words u.2.2.2.2.1), (h2_words, .inl (c2_words, 60, .inl u.2.2.2.2.2)), (h0, ce_Ma h0_cells h0_tree (y4, u42.2.1, u42.2.2.1, u42.2.2.2.1, u42.2.2.2.2.1, u42.2.2.2.2.2))] H := hP
      have hD : va_D A [(h0_cells, .inl (c0_cells, 8, .inl u.2.1)), (h1, ce_Co h1_ops h1_arguments), (h1_ops, .inl (c1_ops, 16, .inl u.2.2.1)), (h1_arguments, .inl (c1_arguments, 16, .inl u.2.2.2.1)), (h2, ce_In h2_words u.2.2.2.2.1), (h2_words, .inl (c2_words, 60, .inl u.2.2.2.2.2)), (h0, ce_Ma h0_cells h0_tree (y4, u42.2.1, u42.2.2.1, u42.2.2.2.1, u42.2.2.2.2.1, u42.2.2.2.2.2))] := hD
      have hP9 := hP.sub (ws' := [(h0, ce_Ma h0_cells h0_tree (y4, u42.2.1, u42.2.2.1, u42.2.2.2.1, u42.2.2.2.2.1, u42.2.2.2.2.2)), (h0_cells, .inl (c0_cells, 8, .inl u.2.1)), (h1, ce_Co h1_ops h1_arguments), (h1_ops, .inl (c1_ops, 16, .inl u.2.2.1)), (h1_arguments, .inl (c1_arguments, 16, .inl u.2.2.2.1)), (h2, ce_In h2_words u.2.2.2.2.1), (h2_words, .inl (c2_words, 60, .inl u.2.2.2.2.2))]) [6, 0, 1, 2, 3, 4, 5] rfl
      have hD9 := hD.sub (ws' := [(h0, ce_Ma h0_cells h0_tree (y4, u42.2.1, u42.2.2.1, u42.2.2.2.1, u42.2.2.2.2.1, u42.2.2.2.2.2)), (h0_cells, .inl (c0_cells, 8, .inl u.2.1)), (h1, ce_Co h1_ops h1_arguments), (h1_ops, .inl (c1_ops, 16, .inl u.2.2.1)), (h1_arguments, .inl (c1_arguments, 16, .inl u.2.2.2.1)), (h2, ce_In h2_words u.2.2.2.2.1), (h2_words, .inl (c2_words, 60, .inl u.2.2.2.2.2))]) [6, 0, 1, 2, 3, 4, 5] (by decide) rfl
      have hK9 := hK.sub (tys' := [(c0_cells, .int), (c1_ops, .int), (c1_arguments, .int), (c2_words, .int)]) [0, 1, 2, 3] rfl
      exact W.vret hx hb hr (fun t ht hW => ⟨⟨((y4, u42.2.1, u42.2.2.1, u42.2.2.2.1, u42.2.2.2.2.1, u42.2.2.2.2.2), u.2.1, u.2.2.1, u.2.2.2.1, u.2.2.2.2.1, u.2.2.2.2.2), rfl, hw, by rw [ht]; exact hP9, va_K.moved hW.alike hK9, hD9⟩, hS.F ht⟩) hS.2.2 dMa_step_315
  have hw := hw.2 cc40
  exfalso
  have q1 : ¬ kk7.toInt < 0 := fun q => cc8 (Int32.lt_iff_toInt_lt.mpr (by rw [show (0 : Int32).toInt = 0 by decide]; exact q))
  have q2 : ¬ 13 < kk7.toInt := fun q => cc9 (Int32.lt_iff_toInt_lt.mpr (by rw [show (13 : Int32).toInt = 13 by decide]; exact q))
  have qcc10 := lv_neT cc10 (show (0 : Int32).toInt = 0 by decide)
  have qcc11 := lv_neT cc11 (show (1 : Int32).toInt = 1 by decide)
  have qcc12 := lv_neT cc12 (show (2 : Int32).toInt = 2 by decide)
  have qcc13 := lv_neT cc13 (show (3 : Int32).toInt = 3 by decide)
  have qcc16 := lv_neT cc16 (show (4 : Int32).toInt = 4 by decide)
  have qcc18 := lv_neT cc18 (show (5 : Int32).toInt = 5 by decide)
  have qcc20 := lv_neT cc20 (show (6 : Int32).toInt = 6 by decide)
  have qcc22 := lv_neT cc22 (show (7 : Int32).toInt = 7 by decide)
  have qcc27 := lv_neT cc27 (show (8 : Int32).toInt = 8 by decide)
  have qcc31 := lv_neT cc31 (show (9 : Int32).toInt = 9 by decide)
  have qcc35 := lv_neT cc35 (show (10 : Int32).toInt = 10 by decide)
  have qcc36 := lv_neT cc36 (show (11 : Int32).toInt = 11 by decide)
  have qcc38 := lv_neT cc38 (show (12 : Int32).toInt = 12 by decide)
  have qcc40 := lv_neT cc40 (show (13 : Int32).toInt = 13 by decide)
  omega
