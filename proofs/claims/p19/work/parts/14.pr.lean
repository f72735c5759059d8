theorem dPr_takeFrom_0 : decode cPr_takeFrom 0 = .ok (.aload_n 0, 1) := by decide +kernel
theorem dPr_takeFrom_1 : decode cPr_takeFrom 1 = .ok (.getfield 12, 3) := by decide +kernel
theorem dPr_takeFrom_4 : decode cPr_takeFrom 4 = .ok (.aload_n 1, 1) := by decide +kernel
theorem dPr_takeFrom_5 : decode cPr_takeFrom 5 = .ok (.invokevirtual 22, 3) := by decide +kernel
theorem dPr_takeFrom_8 : decode cPr_takeFrom 8 = .ok (.aload_n 1, 1) := by decide +kernel
theorem dPr_takeFrom_9 : decode cPr_takeFrom 9 = .ok (.invokevirtual 26, 3) := by decide +kernel
theorem dPr_takeFrom_12 : decode cPr_takeFrom 12 = .ok (.istore_n 2, 1) := by decide +kernel
theorem dPr_takeFrom_13 : decode cPr_takeFrom 13 = .ok (.aload_n 0, 1) := by decide +kernel
theorem dPr_takeFrom_14 : decode cPr_takeFrom 14 = .ok (.aload_n 1, 1) := by decide +kernel
theorem dPr_takeFrom_15 : decode cPr_takeFrom 15 = .ok (.getfield 30, 3) := by decide +kernel
theorem dPr_takeFrom_18 : decode cPr_takeFrom 18 = .ok (.iload_n 2, 1) := by decide +kernel
theorem dPr_takeFrom_19 : decode cPr_takeFrom 19 = .ok (.iaload, 1) := by decide +kernel
theorem dPr_takeFrom_20 : decode cPr_takeFrom 20 = .ok (.putfield 34, 3) := by decide +kernel
theorem dPr_takeFrom_23 : decode cPr_takeFrom 23 = .ok (.aload_n 1, 1) := by decide +kernel
theorem dPr_takeFrom_24 : decode cPr_takeFrom 24 = .ok (.invokevirtual 38, 3) := by decide +kernel
theorem dPr_takeFrom_27 : decode cPr_takeFrom 27 = .ok (.iconst 0, 1) := by decide +kernel
theorem dPr_takeFrom_28 : decode cPr_takeFrom 28 = .ok (.istore_n 3, 1) := by decide +kernel
theorem dPr_takeFrom_29 : decode cPr_takeFrom 29 = .ok (.iload_n 3, 1) := by decide +kernel
theorem dPr_takeFrom_30 : decode cPr_takeFrom 30 = .ok (.iconst 3, 1) := by decide +kernel
theorem dPr_takeFrom_31 : decode cPr_takeFrom 31 = .ok (.if_icmp .ge 28, 3) := by decide +kernel
theorem dPr_takeFrom_34 : decode cPr_takeFrom 34 = .ok (.aload_n 0, 1) := by decide +kernel
theorem dPr_takeFrom_35 : decode cPr_takeFrom 35 = .ok (.getfield 18, 3) := by decide +kernel
theorem dPr_takeFrom_38 : decode cPr_takeFrom 38 = .ok (.iload_n 3, 1) := by decide +kernel
theorem dPr_takeFrom_39 : decode cPr_takeFrom 39 = .ok (.aload_n 1, 1) := by decide +kernel
theorem dPr_takeFrom_40 : decode cPr_takeFrom 40 = .ok (.getfield 41, 3) := by decide +kernel
theorem dPr_takeFrom_43 : decode cPr_takeFrom 43 = .ok (.bipush 8, 2) := by decide +kernel
theorem dPr_takeFrom_45 : decode cPr_takeFrom 45 = .ok (.iload_n 2, 1) := by decide +kernel
theorem dPr_takeFrom_46 : decode cPr_takeFrom 46 = .ok (.iadd, 1) := by decide +kernel
theorem dPr_takeFrom_47 : decode cPr_takeFrom 47 = .ok (.iload_n 3, 1) := by decide +kernel
theorem dPr_takeFrom_48 : decode cPr_takeFrom 48 = .ok (.ishr, 1) := by decide +kernel
theorem dPr_takeFrom_49 : decode cPr_takeFrom 49 = .ok (.iconst 1, 1) := by decide +kernel
theorem dPr_takeFrom_50 : decode cPr_takeFrom 50 = .ok (.ixor, 1) := by decide +kernel
theorem dPr_takeFrom_51 : decode cPr_takeFrom 51 = .ok (.laload, 1) := by decide +kernel
theorem dPr_takeFrom_52 : decode cPr_takeFrom 52 = .ok (.lastore, 1) := by decide +kernel
theorem dPr_takeFrom_53 : decode cPr_takeFrom 53 = .ok (.iinc 3 1, 3) := by decide +kernel
theorem dPr_takeFrom_56 : decode cPr_takeFrom 56 = .ok (.goto (-27), 3) := by decide +kernel
theorem dPr_takeFrom_59 : decode cPr_takeFrom 59 = .ok (.return_, 1) := by decide +kernel
theorem dPr_alterOther_0 : decode cPr_alterOther 0 = .ok (.iload_n 1, 1) := by decide +kernel
theorem dPr_alterOther_1 : decode cPr_alterOther 1 = .ok (.ifCond .lt 19, 3) := by decide +kernel
theorem dPr_alterOther_4 : decode cPr_alterOther 4 = .ok (.iload_n 1, 1) := by decide +kernel
theorem dPr_alterOther_5 : decode cPr_alterOther 5 = .ok (.iconst 3, 1) := by decide +kernel
theorem dPr_alterOther_6 : decode cPr_alterOther 6 = .ok (.if_icmp .ge 14, 3) := by decide +kernel
theorem dPr_alterOther_9 : decode cPr_alterOther 9 = .ok (.aload_n 0, 1) := by decide +kernel
theorem dPr_alterOther_10 : decode cPr_alterOther 10 = .ok (.getfield 18, 3) := by decide +kernel
theorem dPr_alterOther_13 : decode cPr_alterOther 13 = .ok (.iload_n 1, 1) := by decide +kernel
theorem dPr_alterOther_14 : decode cPr_alterOther 14 = .ok (.dup2, 1) := by decide +kernel
theorem dPr_alterOther_15 : decode cPr_alterOther 15 = .ok (.laload, 1) := by decide +kernel
theorem dPr_alterOther_16 : decode cPr_alterOther 16 = .ok (.iload_n 2, 1) := by decide +kernel
theorem dPr_alterOther_17 : decode cPr_alterOther 17 = .ok (.i2l, 1) := by decide +kernel
theorem dPr_alterOther_18 : decode cPr_alterOther 18 = .ok (.lxor, 1) := by decide +kernel
theorem dPr_alterOther_19 : decode cPr_alterOther 19 = .ok (.lastore, 1) := by decide +kernel
theorem dPr_alterOther_20 : decode cPr_alterOther 20 = .ok (.return_, 1) := by decide +kernel
theorem dPr_alter_0 : decode cPr_alter 0 = .ok (.iload_n 1, 1) := by decide +kernel
theorem dPr_alter_1 : decode cPr_alter 1 = .ok (.tableswitch 153 1 7 #[43, 59, 75, 91, 107, 123, 140], 43) := by decide +kernel
theorem dPr_alter_44 : decode cPr_alter 44 = .ok (.aload_n 0, 1) := by decide +kernel
theorem dPr_alter_45 : decode cPr_alter 45 = .ok (.getfield 12, 3) := by decide +kernel
theorem dPr_alter_48 : decode cPr_alter 48 = .ok (.dup, 1) := by decide +kernel
theorem dPr_alter_49 : decode cPr_alter 49 = .ok (.getfield 44, 3) := by decide +kernel
theorem dPr_alter_52 : decode cPr_alter 52 = .ok (.iload_n 2, 1) := by decide +kernel
theorem dPr_alter_53 : decode cPr_alter 53 = .ok (.ixor, 1) := by decide +kernel
theorem dPr_alter_54 : decode cPr_alter 54 = .ok (.putfield 44, 3) := by decide +kernel
theorem dPr_alter_57 : decode cPr_alter 57 = .ok (.goto 106, 3) := by decide +kernel
theorem dPr_alter_60 : decode cPr_alter 60 = .ok (.aload_n 0, 1) := by decide +kernel
theorem dPr_alter_61 : decode cPr_alter 61 = .ok (.getfield 12, 3) := by decide +kernel
theorem dPr_alter_64 : decode cPr_alter 64 = .ok (.dup, 1) := by decide +kernel
theorem dPr_alter_65 : decode cPr_alter 65 = .ok (.getfield 47, 3) := by decide +kernel
theorem dPr_alter_68 : decode cPr_alter 68 = .ok (.iload_n 2, 1) := by decide +kernel
theorem dPr_alter_69 : decode cPr_alter 69 = .ok (.ixor, 1) := by decide +kernel
theorem dPr_alter_70 : decode cPr_alter 70 = .ok (.putfield 47, 3) := by decide +kernel
theorem dPr_alter_73 : decode cPr_alter 73 = .ok (.goto 90, 3) := by decide +kernel
theorem dPr_alter_76 : decode cPr_alter 76 = .ok (.aload_n 0, 1) := by decide +kernel
theorem dPr_alter_77 : decode cPr_alter 77 = .ok (.getfield 12, 3) := by decide +kernel
theorem dPr_alter_80 : decode cPr_alter 80 = .ok (.dup, 1) := by decide +kernel
theorem dPr_alter_81 : decode cPr_alter 81 = .ok (.getfield 50, 3) := by decide +kernel
theorem dPr_alter_84 : decode cPr_alter 84 = .ok (.iload_n 2, 1) := by decide +kernel
theorem dPr_alter_85 : decode cPr_alter 85 = .ok (.ixor, 1) := by decide +kernel
theorem dPr_alter_86 : decode cPr_alter 86 = .ok (.putfield 50, 3) := by decide +kernel
theorem dPr_alter_89 : decode cPr_alter 89 = .ok (.goto 74, 3) := by decide +kernel
theorem dPr_alter_92 : decode cPr_alter 92 = .ok (.aload_n 0, 1) := by decide +kernel
theorem dPr_alter_93 : decode cPr_alter 93 = .ok (.getfield 12, 3) := by decide +kernel
theorem dPr_alter_96 : decode cPr_alter 96 = .ok (.dup, 1) := by decide +kernel
theorem dPr_alter_97 : decode cPr_alter 97 = .ok (.getfield 53, 3) := by decide +kernel
theorem dPr_alter_100 : decode cPr_alter 100 = .ok (.iload_n 2, 1) := by decide +kernel
theorem dPr_alter_101 : decode cPr_alter 101 = .ok (.ixor, 1) := by decide +kernel
theorem dPr_alter_102 : decode cPr_alter 102 = .ok (.putfield 53, 3) := by decide +kernel
theorem dPr_alter_105 : decode cPr_alter 105 = .ok (.goto 58, 3) := by decide +kernel
theorem dPr_alter_108 : decode cPr_alter 108 = .ok (.aload_n 0, 1) := by decide +kernel
theorem dPr_alter_109 : decode cPr_alter 109 = .ok (.getfield 12, 3) := by decide +kernel
theorem dPr_alter_112 : decode cPr_alter 112 = .ok (.dup, 1) := by decide +kernel
theorem dPr_alter_113 : decode cPr_alter 113 = .ok (.getfield 56, 3) := by decide +kernel
theorem dPr_alter_116 : decode cPr_alter 116 = .ok (.iload_n 2, 1) := by decide +kernel
theorem dPr_alter_117 : decode cPr_alter 117 = .ok (.ixor, 1) := by decide +kernel
theorem dPr_alter_118 : decode cPr_alter 118 = .ok (.putfield 56, 3) := by decide +kernel
theorem dPr_alter_121 : decode cPr_alter 121 = .ok (.goto 42, 3) := by decide +kernel
theorem dPr_alter_124 : decode cPr_alter 124 = .ok (.aload_n 0, 1) := by decide +kernel
theorem dPr_alter_125 : decode cPr_alter 125 = .ok (.getfield 12, 3) := by decide +kernel
theorem dPr_alter_128 : decode cPr_alter 128 = .ok (.dup, 1) := by decide +kernel
theorem dPr_alter_129 : decode cPr_alter 129 = .ok (.getfield 59, 3) := by decide +kernel
theorem dPr_alter_132 : decode cPr_alter 132 = .ok (.iload_n 2, 1) := by decide +kernel
theorem dPr_alter_133 : decode cPr_alter 133 = .ok (.i2l, 1) := by decide +kernel
theorem dPr_alter_134 : decode cPr_alter 134 = .ok (.lxor, 1) := by decide +kernel
theorem dPr_alter_135 : decode cPr_alter 135 = .ok (.putfield 59, 3) := by decide +kernel
theorem dPr_alter_138 : decode cPr_alter 138 = .ok (.goto 25, 3) := by decide +kernel
theorem dPr_alter_141 : decode cPr_alter 141 = .ok (.aload_n 0, 1) := by decide +kernel
theorem dPr_alter_142 : decode cPr_alter 142 = .ok (.dup, 1) := by decide +kernel
theorem dPr_alter_143 : decode cPr_alter 143 = .ok (.getfield 34, 3) := by decide +kernel
theorem dPr_alter_146 : decode cPr_alter 146 = .ok (.iload_n 2, 1) := by decide +kernel
theorem dPr_alter_147 : decode cPr_alter 147 = .ok (.ixor, 1) := by decide +kernel
theorem dPr_alter_148 : decode cPr_alter 148 = .ok (.putfield 34, 3) := by decide +kernel
theorem dPr_alter_151 : decode cPr_alter 151 = .ok (.goto 12, 3) := by decide +kernel
theorem dPr_alter_154 : decode cPr_alter 154 = .ok (.aload_n 0, 1) := by decide +kernel
theorem dPr_alter_155 : decode cPr_alter 155 = .ok (.iload_n 1, 1) := by decide +kernel
theorem dPr_alter_156 : decode cPr_alter 156 = .ok (.bipush 8, 2) := by decide +kernel
theorem dPr_alter_158 : decode cPr_alter 158 = .ok (.isub, 1) := by decide +kernel
theorem dPr_alter_159 : decode cPr_alter 159 = .ok (.iload_n 2, 1) := by decide +kernel
theorem dPr_alter_160 : decode cPr_alter 160 = .ok (.invokevirtual 63, 3) := by decide +kernel
theorem dPr_alter_163 : decode cPr_alter 163 = .ok (.aload_n 0, 1) := by decide +kernel
theorem dPr_alter_164 : decode cPr_alter 164 = .ok (.aload_n 0, 1) := by decide +kernel
theorem dPr_alter_165 : decode cPr_alter 165 = .ok (.getfield 12, 3) := by decide +kernel
theorem dPr_alter_168 : decode cPr_alter 168 = .ok (.invokevirtual 26, 3) := by decide +kernel
theorem dPr_alter_171 : decode cPr_alter 171 = .ok (.putfield 67, 3) := by decide +kernel
theorem dPr_alter_174 : decode cPr_alter 174 = .ok (.aload_n 0, 1) := by decide +kernel
theorem dPr_alter_175 : decode cPr_alter 175 = .ok (.getfield 12, 3) := by decide +kernel
theorem dPr_alter_178 : decode cPr_alter 178 = .ok (.getfield 30, 3) := by decide +kernel
theorem dPr_alter_181 : decode cPr_alter 181 = .ok (.aload_n 0, 1) := by decide +kernel
theorem dPr_alter_182 : decode cPr_alter 182 = .ok (.getfield 67, 3) := by decide +kernel
theorem dPr_alter_185 : decode cPr_alter 185 = .ok (.aload_n 0, 1) := by decide +kernel
theorem dPr_alter_186 : decode cPr_alter 186 = .ok (.getfield 34, 3) := by decide +kernel
theorem dPr_alter_189 : decode cPr_alter 189 = .ok (.iastore, 1) := by decide +kernel
theorem dPr_alter_190 : decode cPr_alter 190 = .ok (.return_, 1) := by decide +kernel
theorem dPr_hasPlaceInCode_0 : decode cPr_hasPlaceInCode 0 = .ok (.aload_n 0, 1) := by decide +kernel
theorem dPr_hasPlaceInCode_1 : decode cPr_hasPlaceInCode 1 = .ok (.getfield 12, 3) := by decide +kernel
theorem dPr_hasPlaceInCode_4 : decode cPr_hasPlaceInCode 4 = .ok (.getfield 44, 3) := by decide +kernel
theorem dPr_hasPlaceInCode_7 : decode cPr_hasPlaceInCode 7 = .ok (.ifCond .lt 19, 3) := by decide +kernel
theorem dPr_hasPlaceInCode_10 : decode cPr_hasPlaceInCode 10 = .ok (.aload_n 0, 1) := by decide +kernel
theorem dPr_hasPlaceInCode_11 : decode cPr_hasPlaceInCode 11 = .ok (.getfield 12, 3) := by decide +kernel
theorem dPr_hasPlaceInCode_14 : decode cPr_hasPlaceInCode 14 = .ok (.getfield 44, 3) := by decide +kernel
theorem dPr_hasPlaceInCode_17 : decode cPr_hasPlaceInCode 17 = .ok (.bipush 16, 2) := by decide +kernel
theorem dPr_hasPlaceInCode_19 : decode cPr_hasPlaceInCode 19 = .ok (.if_icmp .ge 7, 3) := by decide +kernel
theorem dPr_hasPlaceInCode_22 : decode cPr_hasPlaceInCode 22 = .ok (.iconst 1, 1) := by decide +kernel
theorem dPr_hasPlaceInCode_23 : decode cPr_hasPlaceInCode 23 = .ok (.goto 4, 3) := by decide +kernel
theorem dPr_hasPlaceInCode_26 : decode cPr_hasPlaceInCode 26 = .ok (.iconst 0, 1) := by decide +kernel
theorem dPr_hasPlaceInCode_27 : decode cPr_hasPlaceInCode 27 = .ok (.ireturn, 1) := by decide +kernel
theorem dPr_commitment_0 : decode cPr_commitment 0 = .ok (.aload_n 0, 1) := by decide +kernel
theorem dPr_commitment_1 : decode cPr_commitment 1 = .ok (.getfield 12, 3) := by decide +kernel
theorem dPr_commitment_4 : decode cPr_commitment 4 = .ok (.getfield 30, 3) := by decide +kernel
theorem dPr_commitment_7 : decode cPr_commitment 7 = .ok (.aload_n 0, 1) := by decide +kernel
theorem dPr_commitment_8 : decode cPr_commitment 8 = .ok (.getfield 67, 3) := by decide +kernel
theorem dPr_commitment_11 : decode cPr_commitment 11 = .ok (.iaload, 1) := by decide +kernel
theorem dPr_commitment_12 : decode cPr_commitment 12 = .ok (.invokestatic 70, 3) := by decide +kernel
theorem dPr_commitment_15 : decode cPr_commitment 15 = .ok (.lstore_n 1, 1) := by decide +kernel
theorem dPr_commitment_16 : decode cPr_commitment 16 = .ok (.iconst 0, 1) := by decide +kernel
theorem dPr_commitment_17 : decode cPr_commitment 17 = .ok (.istore_n 3, 1) := by decide +kernel
theorem dPr_commitment_18 : decode cPr_commitment 18 = .ok (.iload_n 3, 1) := by decide +kernel
theorem dPr_commitment_19 : decode cPr_commitment 19 = .ok (.iconst 3, 1) := by decide +kernel
theorem dPr_commitment_20 : decode cPr_commitment 20 = .ok (.if_icmp .ge 57, 3) := by decide +kernel
theorem dPr_commitment_23 : decode cPr_commitment 23 = .ok (.aload_n 0, 1) := by decide +kernel
theorem dPr_commitment_24 : decode cPr_commitment 24 = .ok (.getfield 67, 3) := by decide +kernel
theorem dPr_commitment_27 : decode cPr_commitment 27 = .ok (.iload_n 3, 1) := by decide +kernel
theorem dPr_commitment_28 : decode cPr_commitment 28 = .ok (.ishr, 1) := by decide +kernel
theorem dPr_commitment_29 : decode cPr_commitment 29 = .ok (.iconst 1, 1) := by decide +kernel
theorem dPr_commitment_30 : decode cPr_commitment 30 = .ok (.iand, 1) := by decide +kernel
theorem dPr_commitment_31 : decode cPr_commitment 31 = .ok (.iconst 1, 1) := by decide +kernel
theorem dPr_commitment_32 : decode cPr_commitment 32 = .ok (.if_icmp .ne 7, 3) := by decide +kernel
theorem dPr_commitment_35 : decode cPr_commitment 35 = .ok (.iconst 1, 1) := by decide +kernel
theorem dPr_commitment_36 : decode cPr_commitment 36 = .ok (.goto 4, 3) := by decide +kernel
theorem dPr_commitment_39 : decode cPr_commitment 39 = .ok (.iconst 0, 1) := by decide +kernel
theorem dPr_commitment_40 : decode cPr_commitment 40 = .ok (.istore 4, 2) := by decide +kernel
theorem dPr_commitment_42 : decode cPr_commitment 42 = .ok (.iload 4, 2) := by decide +kernel
theorem dPr_commitment_44 : decode cPr_commitment 44 = .ok (.ifCond .eq 16, 3) := by decide +kernel
theorem dPr_commitment_47 : decode cPr_commitment 47 = .ok (.aload_n 0, 1) := by decide +kernel
theorem dPr_commitment_48 : decode cPr_commitment 48 = .ok (.getfield 18, 3) := by decide +kernel
theorem dPr_commitment_51 : decode cPr_commitment 51 = .ok (.iload_n 3, 1) := by decide +kernel
theorem dPr_commitment_52 : decode cPr_commitment 52 = .ok (.laload, 1) := by decide +kernel
theorem dPr_commitment_53 : decode cPr_commitment 53 = .ok (.lload_n 1, 1) := by decide +kernel
theorem dPr_commitment_54 : decode cPr_commitment 54 = .ok (.invokestatic 76, 3) := by decide +kernel
theorem dPr_commitment_57 : decode cPr_commitment 57 = .ok (.goto 13, 3) := by decide +kernel
theorem dPr_commitment_60 : decode cPr_commitment 60 = .ok (.lload_n 1, 1) := by decide +kernel
theorem dPr_commitment_61 : decode cPr_commitment 61 = .ok (.aload_n 0, 1) := by decide +kernel
theorem dPr_commitment_62 : decode cPr_commitment 62 = .ok (.getfield 18, 3) := by decide +kernel
theorem dPr_commitment_65 : decode cPr_commitment 65 = .ok (.iload_n 3, 1) := by decide +kernel
theorem dPr_commitment_66 : decode cPr_commitment 66 = .ok (.laload, 1) := by decide +kernel
theorem dPr_commitment_67 : decode cPr_commitment 67 = .ok (.invokestatic 76, 3) := by decide +kernel
theorem dPr_commitment_70 : decode cPr_commitment 70 = .ok (.lstore_n 1, 1) := by decide +kernel
theorem dPr_commitment_71 : decode cPr_commitment 71 = .ok (.iinc 3 1, 3) := by decide +kernel
theorem dPr_commitment_74 : decode cPr_commitment 74 = .ok (.goto (-56), 3) := by decide +kernel
theorem dPr_commitment_77 : decode cPr_commitment 77 = .ok (.aload_n 0, 1) := by decide +kernel
theorem dPr_commitment_78 : decode cPr_commitment 78 = .ok (.getfield 12, 3) := by decide +kernel
theorem dPr_commitment_81 : decode cPr_commitment 81 = .ok (.lload_n 1, 1) := by decide +kernel
theorem dPr_commitment_82 : decode cPr_commitment 82 = .ok (.invokevirtual 80, 3) := by decide +kernel
theorem dPr_commitment_85 : decode cPr_commitment 85 = .ok (.lreturn, 1) := by decide +kernel
abbrev ww_Pr_takeFrom (h0 h0_given h0_given_cells h0_others h1 h1_cells h1_tree h0_given_tree : Nat) (c0_given_cells c0_others c1_cells c1_tree : ClassId) (u : ct_Pr × ct_Ma × (Nat → Int32) × (Nat → Int64) × ct_Ma × (Nat → Int32) × (Nat → Int64)) : va_W := [(h0, ce_Pr h0_given h0_others u.1), (h0_given, ce_Ma h0_given_cells h0_given_tree u.2.1), (h0_given_cells, .inl (c0_given_cells, 8, .inl u.2.2.1)), (h0_others, .inl (c0_others, 3, .inr (.inl u.2.2.2.1))), (h1, ce_Ma h1_cells h1_tree u.2.2.2.2.1), (h1_cells, .inl (c1_cells, 8, .inl u.2.2.2.2.2.1)), (h1_tree, .inl (c1_tree, 16, .inr (.inl u.2.2.2.2.2.2)))]
def wl_Pr_takeFrom_29 (post : (ct_Pr × ct_Ma × (Nat → Int32) × (Nat → Int64) × ct_Ma × (Nat → Int32) × (Nat → Int64)) → Prop) (u : ct_Pr × ct_Ma × (Nat → Int32) × (Nat → Int64) × ct_Ma × (Nat → Int32) × (Nat → Int64)) (u2 : ct_Ma × (Nat → Int32) × ct_Ma × (Nat → Int32)) (r3 : Int32) (f6 : Int32) (u8 : ct_Ma × (Nat → Int32) × (Nat → Int64)) : Nat → (Int32) → (Nat → Int64) → Prop
  | 0, _, _ => False
  | n13 + 1, v14, x15 => ((3 ≤ v14 → (post ((f6, u.1.2), u2.1, u2.2.1, x15, u8.1, u8.2.1, u8.2.2))) ∧ (¬ 3 ≤ v14 → (vp_in (((8 + r3) >>> (v14 &&& 31)) ^^^ 1) 16 ∧ (∀ f18 : Int64, f18 = (u8.2.2 (((8 + r3) >>> (v14 &&& 31)) ^^^ 1).toNatClampNeg) → (vp_in v14 3 ∧ (wl_Pr_takeFrom_29 post u u2 r3 f6 u8 n13 (v14 + 1) (vp_updL x15 v14.toNatClampNeg f18)))))))
def wp_Pr_takeFrom (post : (ct_Pr × ct_Ma × (Nat → Int32) × (Nat → Int64) × ct_Ma × (Nat → Int32) × (Nat → Int64)) → Prop) (u : ct_Pr × ct_Ma × (Nat → Int32) × (Nat → Int64) × ct_Ma × (Nat → Int32) × (Nat → Int64)) : Prop := wp_Ma_copyFrom (fun u2 => (wp_Ma_cellPlace (fun r3 u4 => (vp_in r3 8 ∧ (∀ f6 : Int32, f6 = (u2.2.2.2 r3.toNatClampNeg) → (wp_Ma_growTree (fun u8 => (∃ n13 : Nat, wl_Pr_takeFrom_29 post u u2 r3 f6 u8 n13 0 u.2.2.2.1)) (u4, u2.2.2.2, u.2.2.2.2.2.2) )))) u2.2.2.1 )) (u.2.1, u.2.2.1, u.2.2.2.2.1, u.2.2.2.2.2.1) 
set_option maxHeartbeats 4000000 in
set_option maxRecDepth 100000 in
theorem mt_Pr_takeFrom (l : Launch) (dC : Nat → ClassId) (dI : Nat → Nat → Nat) (h0 h0_given h0_given_cells h0_others h1 h1_cells h1_tree h0_given_tree : Nat) (c0_given_cells c0_others c1_cells c1_tree : ClassId) (sz : Nat) (post : (ct_Pr × ct_Ma × (Nat → Int32) × (Nat → Int64) × ct_Ma × (Nat → Int32) × (Nat → Int64)) → Prop) (u : ct_Pr × ct_Ma × (Nat → Int32) × (Nat → Int64) × ct_Ma × (Nat → Int32) × (Nat → Int64)) (hw : wp_Pr_takeFrom post u) : Met l yPr_takeFrom wsPr_takeFrom ({ frames := 3, cells := 0, slots := 0, locals := 69 }) (kp_P dC dI [.ref h0, .ref h1] sz (ww_Pr_takeFrom h0 h0_given h0_given_cells h0_others h1 h1_cells h1_tree h0_given_tree c0_given_cells c0_others c1_cells c1_tree u) [(c0_given_cells, .int), (c0_others, .long), (c1_cells, .int), (c1_tree, .long)]) (va_Qv post (fun u9 => kp_B dC dI (va_A (ww_Pr_takeFrom h0 h0_given h0_given_cells h0_others h1 h1_cells h1_tree h0_given_tree c0_given_cells c0_others c1_cells c1_tree u) sz) (ww_Pr_takeFrom h0 h0_given h0_given_cells h0_others h1 h1_cells h1_tree h0_given_tree c0_given_cells c0_others c1_cells c1_tree u9) [(c0_given_cells, .int), (c0_others, .long), (c1_cells, .int), (c1_tree, .long)]) (va_A (ww_Pr_takeFrom h0 h0_given h0_given_cells h0_others h1 h1_cells h1_tree h0_given_tree c0_given_cells c0_others c1_cells c1_tree u) sz)) 0 0 (va_A (ww_Pr_takeFrom h0 h0_given h0_given_cells h0_others h1 h1_cells h1_tree h0_given_tree c0_given_cells c0_others c1_cells c1_tree u) sz) := by
  refine Met.ofW (cc := cPr_takeFrom) (maxL := 4) (ret := none) (by decide) rfl ?_
  intro p e s m args below meth c s₁ B hml hv
  obtain ⟨rfl, hsz, hP, hK, hD0, hZ⟩ := hv
  have hx := B.exec
  have hb := B.bytes
  have hr := B.returns
  have hq : ∀ w ∈ wz, w.before _ s = true := fun w h => atoms_spec (ws := wsPr_takeFrom) B.pre w (List.mem_cons_of_mem _ h)
  have hown : s.vm.findClass "StepCourt$Proof" = some m.cls := findClass_of_methodNamed B.named
  have hlocks := B.notSynchronized
  subst hsz
  have hD := hD0.self (sz := s.heap.size)
  generalize hAe : va_A (ww_Pr_takeFrom h0 h0_given h0_given_cells h0_others h1 h1_cells h1_tree h0_given_tree c0_given_cells c0_others c1_cells c1_tree u) s.heap.size = A at hD ⊢
  have hA : ∀ q : Nat, s.heap.size ≤ q → A q := fun q h => by rw [← hAe]; exact Or.inr h
  have hS : va_S A s.heap s.heap [] := va_S.rf
  have hP : va_P (dC, dI) vwCl [(h0, ce_Pr h0_given h0_others u.1), (h0_given, ce_Ma h0_given_cells h0_given_tree u.2.1), (h0_given_cells, .inl (c0_given_cells, 8, .inl u.2.2.1)), (h0_others, .inl (c0_others, 3, .inr (.inl u.2.2.2.1))), (h1, ce_Ma h1_cells h1_tree u.2.2.2.2.1), (h1_cells, .inl (c1_cells, 8, .inl u.2.2.2.2.2.1)), (h1_tree, .inl (c1_tree, 16, .inr (.inl u.2.2.2.2.2.2)))] s.heap := hP
  have hD : va_D A [(h0, ce_Pr h0_given h0_others u.1), (h0_given, ce_Ma h0_given_cells h0_given_tree u.2.1), (h0_given_cells, .inl (c0_given_cells, 8, .inl u.2.2.1)), (h0_others, .inl (c0_others, 3, .inr (.inl u.2.2.2.1))), (h1, ce_Ma h1_cells h1_tree u.2.2.2.2.1), (h1_cells, .inl (c1_cells, 8, .inl u.2.2.2.2.2.1)), (h1_tree, .inl (c1_tree, 16, .inr (.inl u.2.2.2.2.2.2)))] := hD
  have hl := lv_entry ([.ref h0, .ref h1]) (n := 4) (Nat.le_of_ble_eq_true rfl)
  rw [lg_entry_eq]
  generalize (lg_sl ([.ref h0, .ref h1]) ++ List.replicate (4 - (lg_sl ([.ref h0, .ref h1])).length) Slot.unset).toArray = ls at hl ⊢
  have hl : lv_has ls 4 [(0, .ref h0), (1, .ref h1)] := hl
  skip
  refine lv_aload_n hx hb dPr_takeFrom_0 rfl (lv_at hl 0 rfl) ?_
  refine va_get (D := (dC, dI)) (ci := 6) (v := .ref h0_given) (C := "StepCourt$Proof") (T := TPr) (N := 4) hx hb hq inPr hown hK hP 0 rfl rfl 0 (by decide) (hq _ wt_137) (fun _ h9 => h9) rfl dPr_takeFrom_1 ?_
  refine lv_aload_n hx hb dPr_takeFrom_4 rfl (lv_at hl 1 rfl) ?_
  have hPc := hP.sub (ws' := [(h0_given, ce_Ma h0_given_cells h0_given_tree u.2.1), (h0_given_cells, .inl (c0_given_cells, 8, .inl u.2.2.1)), (h1, ce_Ma h1_cells h1_tree u.2.2.2.2.1), (h1_cells, .inl (c1_cells, 8, .inl u.2.2.2.2.2.1))]) [1, 2, 4, 5] rfl
  have hDc := hD.sub (ws' := [(h0_given, ce_Ma h0_given_cells h0_given_tree u.2.1), (h0_given_cells, .inl (c0_given_cells, 8, .inl u.2.2.1)), (h1, ce_Ma h1_cells h1_tree u.2.2.2.2.1), (h1_cells, .inl (c1_cells, 8, .inl u.2.2.2.2.2.1))]) [1, 2, 4, 5] (by decide) rfl
  have hKc := hK.sub (tys' := [(c0_given_cells, .int), (c1_cells, .int)]) [0, 2] rfl
  have hFc := va_free (wc := [(h0_given, ce_Ma h0_given_cells h0_given_tree u.2.1), (h0_given_cells, .inl (c0_given_cells, 8, .inl u.2.2.1)), (h1, ce_Ma h1_cells h1_tree u.2.2.2.2.1), (h1_cells, .inl (c1_cells, 8, .inl u.2.2.2.2.2.1))]) hD hS hA [1, 2, 4, 5] rfl
  refine va_callv (va_runV (As := [.ref h1]) (rest := []) ⟨hx, hb, hml, hown, hq⟩ (mt_Ma_copyFrom l dC dI h0_given h0_given_cells h1 h1_cells h0_given_tree h1_tree c0_given_cells c1_cells s.heap.size _ (u.2.1, u.2.2.1, u.2.2.2.2.1, u.2.2.2.2.2.1) hw) ⟨cq_B 1 hq wt_402 wt_666 wt_4 rfl rfl hd_Ma_copyFrom ⟨Nat.le_of_ble_eq_true rfl, Nat.le_of_ble_eq_true rfl⟩, (hq _ wt_400), (hq _ wt_401)⟩ ⟨kp_bl, va_recv hKc hPc (ci := 4) (q0 := 0) rfl rfl, kp_at hPc hKc hDc hZ⟩ rfl rfl hl.1 rfl (lv_room (Nat.le_of_ble_eq_true rfl)) dPr_takeFrom_5 ⟨(by decide), (by decide)⟩) hS (fun q _ h => hFc q h) hFc (fun u2 t H1 locs ht hvm hw hB hz1 hk1 hS => ?_)
  obtain ⟨hP1, hK1, hD1⟩ := hB
  rw [ht] at hP1
  have hK1 := va_K.moved hvm.symm hK1
  obtain ⟨hP, hD⟩ := va_join (wr := [(h0, ce_Pr h0_given h0_others u.1), (h0_others, .inl (c0_others, 3, .inr (.inl u.2.2.2.1))), (h1_tree, .inl (c1_tree, 16, .inr (.inl u.2.2.2.2.2.2)))]) (w1 := [(h0_given, ce_Ma h0_given_cells h0_given_tree u2.1), (h0_given_cells, .inl (c0_given_cells, 8, .inl u2.2.1)), (h1, ce_Ma h1_cells h1_tree u2.2.2.1), (h1_cells, .inl (c1_cells, 8, .inl u2.2.2.2))]) hP hD [1, 2, 4, 5] [0, 3, 6] rfl rfl (by decide) (by decide) hk1 hFc hP1 hD1
  have hK := (hK.sub (tys' := [(c0_others, .long), (c1_tree, .long)]) [1, 3] rfl).app hK1
  generalize H1 = H at hP hS ⊢
  have hP : va_P (dC, dI) vwCl [(h0, ce_Pr h0_given h0_others u.1), (h0_others, .inl (c0_others, 3, .inr (.inl u.2.2.2.1))), (h1_tree, .inl (c1_tree, 16, .inr (.inl u.2.2.2.2.2.2))), (h0_given, ce_Ma h0_given_cells h0_given_tree u2.1), (h0_given_cells, .inl (c0_given_cells, 8, .inl u2.2.1)), (h1, ce_Ma h1_cells h1_tree u2.2.2.1), (h1_cells, .inl (c1_cells, 8, .inl u2.2.2.2))] H := hP
  have hD : va_D A [(h0, ce_Pr h0_given h0_others u.1), (h0_others, .inl (c0_others, 3, .inr (.inl u.2.2.2.1))), (h1_tree, .inl (c1_tree, 16, .inr (.inl u.2.2.2.2.2.2))), (h0_given, ce_Ma h0_given_cells h0_given_tree u2.1), (h0_given_cells, .inl (c0_given_cells, 8, .inl u2.2.1)), (h1, ce_Ma h1_cells h1_tree u2.2.2.1), (h1_cells, .inl (c1_cells, 8, .inl u2.2.2.2))] := hD
  have hK : va_K (dC, dI) vwCl [(c0_others, .long), (c1_tree, .long), (c0_given_cells, .int), (c1_cells, .int)] s := hK
  refine lv_aload_n hx hb dPr_takeFrom_8 rfl (lv_at hl 1 rfl) ?_
  have hPc := hP.sub (ws' := [(h1, ce_Ma h1_cells h1_tree u2.2.2.1)]) [5] rfl
  have hDc := hD.sub (ws' := [(h1, ce_Ma h1_cells h1_tree u2.2.2.1)]) [5] (by decide) rfl
  have hKc := hK.sub (tys' := []) [] rfl
  have hFc := va_free (wc := [(h1, ce_Ma h1_cells h1_tree u2.2.2.1)]) hD hS hA [5] rfl
  refine va_calli (va_runV (As := []) (rest := []) ⟨hx, hb, hml, hown, hq⟩ (mt_Ma_cellPlace l dC dI h1 h1_cells h1_tree H.size _ u2.2.2.1 hw) ⟨cq_B 0 hq wt_352 wt_667 wt_4 rfl rfl hd_Ma_cellPlace ⟨Nat.le_of_ble_eq_true rfl, Nat.le_of_ble_eq_true rfl⟩, (hq _ wt_350), (hq _ wt_351)⟩ ⟨kp_bl, va_recv hKc hPc (ci := 4) (q0 := 0) rfl rfl, kp_at hPc hKc hDc hZ⟩ rfl rfl hl.1 rfl (lv_room (Nat.le_of_ble_eq_true rfl)) dPr_takeFrom_9 ⟨(by decide), (by decide)⟩) hS (fun q _ h => hFc q h) hFc (fun r3 u4 t H1 locs ht hvm hw hB hz1 hk1 hS => ?_)
  obtain ⟨hP1, hK1, hD1⟩ := hB
  rw [ht] at hP1
  have hK1 := va_K.moved hvm.symm hK1
  obtain ⟨hP, hD⟩ := va_join (wr := [(h0, ce_Pr h0_given h0_others u.1), (h0_others, .inl (c0_others, 3, .inr (.inl u.2.2.2.1))), (h1_tree, .inl (c1_tree, 16, .inr (.inl u.2.2.2.2.2.2))), (h0_given, ce_Ma h0_given_cells h0_given_tree u2.1), (h0_given_cells, .inl (c0_given_cells, 8, .inl u2.2.1)), (h1_cells, .inl (c1_cells, 8, .inl u2.2.2.2))]) (w1 := [(h1, ce_Ma h1_cells h1_tree u4)]) hP hD [5] [0, 1, 2, 3, 4, 6] rfl rfl (by decide) (by decide) hk1 hFc hP1 hD1
  have hK := (hK.sub (tys' := [(c0_others, .long), (c1_tree, .long), (c0_given_cells, .int), (c1_cells, .int)]) [0, 1, 2, 3] rfl).app hK1
  generalize H1 = H at hP hS ⊢
  have hP : va_P (dC, dI) vwCl [(h0, ce_Pr h0_given h0_others u.1), (h0_others, .inl (c0_others, 3, .inr (.inl u.2.2.2.1))), (h1_tree, .inl (c1_tree, 16, .inr (.inl u.2.2.2.2.2.2))), (h0_given, ce_Ma h0_given_cells h0_given_tree u2.1), (h0_given_cells, .inl (c0_given_cells, 8, .inl u2.2.1)), (h1_cells, .inl (c1_cells, 8, .inl u2.2.2.2)), (h1, ce_Ma h1_cells h1_tree u4)] H := hP
  have hD : va_D A [(h0, ce_Pr h0_given h0_others u.1), (h0_others, .inl (c0_others, 3, .inr (.inl u.2.2.2.1))), (h1_tree, .inl (c1_tree, 16, .inr (.inl u.2.2.2.2.2.2))), (h0_given, ce_Ma h0_given_cells h0_given_tree u2.1), (h0_given_cells, .inl (c0_given_cells, 8, .inl u2.2.1)), (h1_cells, .inl (c1_cells, 8, .inl u2.2.2.2)), (h1, ce_Ma h1_cells h1_tree u4)] := hD
  have hK : va_K (dC, dI) vwCl [(c0_others, .long), (c1_tree, .long), (c0_given_cells, .int), (c1_cells, .int)] s := hK
  refine lv_istore_n (lv' := [(2, .int r3), (0, .ref h0), (1, .ref h1)]) hx hb dPr_takeFrom_12 rfl hl (by decide) rfl (fun ls hl => ?_)
  refine lv_aload_n hx hb dPr_takeFrom_13 rfl (lv_at hl 1 rfl) ?_
  refine lv_aload_n hx hb dPr_takeFrom_14 rfl (lv_at hl 2 rfl) ?_
  refine va_getN (D := (dC, dI)) (ci := 4) (v := .ref h1_cells) (C := "StepCourt$Machine") (T := TMa) (N := 8) hx hb hq inMa hown hK hP 6 rfl rfl 0 (by decide) (va_Nw.use rfl (hZ.1 _ zt_66)) (fun _ h9 => h9) rfl dPr_takeFrom_15 ?_
  refine lv_iload_n hx hb dPr_takeFrom_18 rfl (lv_at hl 0 rfl) ?_
  obtain ⟨hh5, hw⟩ := hw
  refine va_iald hx hb hK hP 5 3 rfl rfl hh5 dPr_takeFrom_19 ?_
  refine lv_topi (fun f6 ef6 => ?_)
  have hw := hw f6 ef6
  refine va_put (D := (dC, dI)) (ci := 6) (v := .int f6) (ty := .int) (C := "StepCourt$Proof") (T := TPr) (N := 4) hx hb hq inPr tyPr tyPr_ok nmPr hown hK hP hD hS 0 rfl rfl 2 (by decide) (hq _ wt_140) (fun _ h9 => h9) rfl (by decide +kernel) rfl rfl (Nat.le_of_ble_eq_true rfl) dPr_takeFrom_20 (fun H locs hP hD hS => ?_)
  have hP : va_P (dC, dI) vwCl [(h0, ce_Pr h0_given h0_others (f6, u.1.2)), (h0_others, .inl (c0_others, 3, .inr (.inl u.2.2.2.1))), (h1_tree, .inl (c1_tree, 16, .inr (.inl u.2.2.2.2.2.2))), (h0_given, ce_Ma h0_given_cells h0_given_tree u2.1), (h0_given_cells, .inl (c0_given_cells, 8, .inl u2.2.1)), (h1_cells, .inl (c1_cells, 8, .inl u2.2.2.2)), (h1, ce_Ma h1_cells h1_tree u4)] H := hP
  have hD : va_D A [(h0, ce_Pr h0_given h0_others (f6, u.1.2)), (h0_others, .inl (c0_others, 3, .inr (.inl u.2.2.2.1))), (h1_tree, .inl (c1_tree, 16, .inr (.inl u.2.2.2.2.2.2))), (h0_given, ce_Ma h0_given_cells h0_given_tree u2.1), (h0_given_cells, .inl (c0_given_cells, 8, .inl u2.2.1)), (h1_cells, .inl (c1_cells, 8, .inl u2.2.2.2)), (h1, ce_Ma h1_cells h1_tree u4)] := hD
  refine lv_aload_n hx hb dPr_takeFrom_23 rfl (lv_at hl 2 rfl) ?_
  have hPc := hP.sub (ws' := [(h1, ce_Ma h1_cells h1_tree u4), (h1_cells, .inl (c1_cells, 8, .inl u2.2.2.2)), (h1_tree, .inl (c1_tree, 16, .inr (.inl u.2.2.2.2.2.2)))]) [6, 5, 2] rfl
  have hDc := hD.sub (ws' := [(h1, ce_Ma h1_cells h1_tree u4), (h1_cells, .inl (c1_cells, 8, .inl u2.2.2.2)), (h1_tree, .inl (c1_tree, 16, .inr (.inl u.2.2.2.2.2.2)))]) [6, 5, 2] (by decide) rfl
  have hKc := hK.sub (tys' := [(c1_cells, .int), (c1_tree, .long)]) [3, 1] rfl
  have hFc := va_free (wc := [(h1, ce_Ma h1_cells h1_tree u4), (h1_cells, .inl (c1_cells, 8, .inl u2.2.2.2)), (h1_tree, .inl (c1_tree, 16, .inr (.inl u.2.2.2.2.2.2)))]) hD hS hA [6, 5, 2] rfl
  refine va_callv (va_runV (As := []) (rest := []) ⟨hx, hb, hml, hown, hq⟩ (mt_Ma_growTree l dC dI h1 h1_cells h1_tree c1_cells c1_tree H.size _ (u4, u2.2.2.2, u.2.2.2.2.2.2) hw) ⟨cq_B 0 hq wt_235 wt_668 wt_4 rfl rfl hd_Ma_growTree ⟨Nat.le_of_ble_eq_true rfl, Nat.le_of_ble_eq_true rfl⟩, (hq _ wt_233), (hq _ wt_234)⟩ ⟨kp_bl, va_recv hKc hPc (ci := 4) (q0 := 0) rfl rfl, kp_at hPc hKc hDc hZ⟩ rfl rfl hl.1 rfl (lv_room (Nat.le_of_ble_eq_true rfl)) dPr_takeFrom_24 ⟨(by decide), (by decide)⟩) hS (fun q _ h => hFc q h) hFc (fun u8 t H1 locs ht hvm hw hB hz1 hk1 hS => ?_)
  obtain ⟨hP1, hK1, hD1⟩ := hB
  rw [ht] at hP1
  have hK1 := va_K.moved hvm.symm hK1
  obtain ⟨hP, hD⟩ := va_join (wr := [(h0, ce_Pr h0_given h0_others (f6, u.1.2)), (h0_others, .inl (c0_others, 3, .inr (.inl u.2.2.2.1))), (h0_given, ce_Ma h0_given_cells h0_given_tree u2.1), (h0_given_cells, .inl (c0_given_cells, 8, .inl u2.2.1))]) (w1 := [(h1, ce_Ma h1_cells h1_tree u8.1), (h1_cells, .inl (c1_cells, 8, .inl u8.2.1)), (h1_tree, .inl (c1_tree, 16, .inr (.inl u8.2.2)))]) hP hD [6, 5, 2] [0, 1, 3, 4] rfl rfl (by decide) (by decide) hk1 hFc hP1 hD1
  have hK := (hK.sub (tys' := [(c0_others, .long), (c0_given_cells, .int)]) [0, 2] rfl).app hK1
  generalize H1 = H at hP hS ⊢
  have hP : va_P (dC, dI) vwCl [(h0, ce_Pr h0_given h0_others (f6, u.1.2)), (h0_others, .inl (c0_others, 3, .inr (.inl u.2.2.2.1))), (h0_given, ce_Ma h0_given_cells h0_given_tree u2.1), (h0_given_cells, .inl (c0_given_cells, 8, .inl u2.2.1)), (h1, ce_Ma h1_cells h1_tree u8.1), (h1_cells, .inl (c1_cells, 8, .inl u8.2.1)), (h1_tree, .inl (c1_tree, 16, .inr (.inl u8.2.2)))] H := hP
  have hD : va_D A [(h0, ce_Pr h0_given h0_others (f6, u.1.2)), (h0_others, .inl (c0_others, 3, .inr (.inl u.2.2.2.1))), (h0_given, ce_Ma h0_given_cells h0_given_tree u2.1), (h0_given_cells, .inl (c0_given_cells, 8, .inl u2.2.1)), (h1, ce_Ma h1_cells h1_tree u8.1), (h1_cells, .inl (c1_cells, 8, .inl u8.2.1)), (h1_tree, .inl (c1_tree, 16, .inr (.inl u8.2.2)))] := hD
  have hK : va_K (dC, dI) vwCl [(c0_others, .long), (c0_given_cells, .int), (c1_cells, .int), (c1_tree, .long)] s := hK
  refine lv_iconst (v := 0) hx hb dPr_takeFrom_27 (by decide) ?_
  refine lv_istore_n (lv' := [(3, .int 0), (2, .int r3), (0, .ref h0), (1, .ref h1)]) hx hb dPr_takeFrom_28 rfl hl (by decide) rfl (fun ls hl => ?_)
  have hlp29 : ∀ (n13 : Nat) (v14 : Int32) (x15 : Nat → Int64) (H : Heap) (locs : List Loc) (ls : Array Slot), wl_Pr_takeFrom_29 post u u2 r3 f6 u8 n13 v14 x15 → va_P (dC, dI) vwCl [(h0, ce_Pr h0_given h0_others (f6, u.1.2)), (h0_others, .inl (c0_others, 3, .inr (.inl x15))), (h0_given, ce_Ma h0_given_cells h0_given_tree u2.1), (h0_given_cells, .inl (c0_given_cells, 8, .inl u2.2.1)), (h1, ce_Ma h1_cells h1_tree u8.1), (h1_cells, .inl (c1_cells, 8, .inl u8.2.1)), (h1_tree, .inl (c1_tree, 16, .inr (.inl u8.2.2)))] H → va_D A [(h0, ce_Pr h0_given h0_others (f6, u.1.2)), (h0_others, .inl (c0_others, 3, .inr (.inl x15))), (h0_given, ce_Ma h0_given_cells h0_given_tree u2.1), (h0_given_cells, .inl (c0_given_cells, 8, .inl u2.2.1)), (h1, ce_Ma h1_cells h1_tree u8.1), (h1_cells, .inl (c1_cells, 8, .inl u8.2.1)), (h1_tree, .inl (c1_tree, 16, .inr (.inl u8.2.2)))] → va_S A s.heap H locs → lv_has ls 4 [(3, .int v14), (2, .int r3), (0, .ref h0), (1, .ref h1)] → W p l e (headSpec wsPr_takeFrom ({ frames := 3, cells := 0, slots := 0, locals := 69 })).room s m ([.ref h0, .ref h1]).toArray below meth c H locs 0 0 (MQ below (va_Qv post (fun u9 => kp_B dC dI A (ww_Pr_takeFrom h0 h0_given h0_given_cells h0_others h1 h1_cells h1_tree h0_given_tree c0_given_cells c0_others c1_cells c1_tree u9) [(c0_given_cells, .int), (c0_others, .long), (c1_cells, .int), (c1_tree, .long)]) A) ([.ref h0, .ref h1]).toArray s 0 0 A) (F0 m 29 ls []) := by
    intro n13
    induction n13 with
    | zero => intro v14 x15 H locs ls hw; exact False.elim hw
    | succ n13 ih29 =>
      intro v14 x15 H locs ls hw hP hD hS hl
      refine lv_iload_n hx hb dPr_takeFrom_29 rfl (lv_at hl 0 rfl) ?_
      refine lv_iconst (v := 3) hx hb dPr_takeFrom_30 (by decide) ?_
      refine lv_icmp_ge (tgt := 59) hx hb dPr_takeFrom_31 (by decide) (fun cc16 => ?_) (fun cc16 => ?_)
      · have hw := hw.1 cc16
        have hP9 := hP.sub (ws' := [(h0, ce_Pr h0_given h0_others (f6, u.1.2)), (h0_given, ce_Ma h0_given_cells h0_given_tree u2.1), (h0_given_cells, .inl (c0_given_cells, 8, .inl u2.2.1)), (h0_others, .inl (c0_others, 3, .inr (.inl x15))), (h1, ce_Ma h1_cells h1_tree u8.1), (h1_cells, .inl (c1_cells, 8, .inl u8.2.1)), (h1_tree, .inl (c1_tree, 16, .inr (.inl u8.2.2)))]) [0, 2, 3, 1, 4, 5, 6] rfl
        have hD9 := hD.sub (ws' := [(h0, ce_Pr h0_given h0_others (f6, u.1.2)), (h0_given, ce_Ma h0_given_cells h0_given_tree u2.1), (h0_given_cells, .inl (c0_given_cells, 8, .inl u2.2.1)), (h0_others, .inl (c0_others, 3, .inr (.inl x15))), (h1, ce_Ma h1_cells h1_tree u8.1), (h1_cells, .inl (c1_cells, 8, .inl u8.2.1)), (h1_tree, .inl (c1_tree, 16, .inr (.inl u8.2.2)))]) [0, 2, 3, 1, 4, 5, 6] (by decide) rfl
        have hK9 := hK.sub (tys' := [(c0_given_cells, .int), (c0_others, .long), (c1_cells, .int), (c1_tree, .long)]) [1, 0, 2, 3] rfl
        exact W.vret hx hb hr (fun t ht hW => ⟨⟨((f6, u.1.2), u2.1, u2.2.1, x15, u8.1, u8.2.1, u8.2.2), rfl, hw, by rw [ht]; exact hP9, va_K.moved hW.alike hK9, hD9⟩, hS.F ht⟩) hS.2.2 dPr_takeFrom_59
      · have hw := hw.2 cc16
        refine lv_aload_n hx hb dPr_takeFrom_34 rfl (lv_at hl 2 rfl) ?_
        refine va_get (D := (dC, dI)) (ci := 6) (v := .ref h0_others) (C := "StepCourt$Proof") (T := TPr) (N := 4) hx hb hq inPr hown hK hP 0 rfl rfl 1 (by decide) (hq _ wt_139) (fun _ h9 => h9) rfl dPr_takeFrom_35 ?_
        refine lv_iload_n hx hb dPr_takeFrom_38 rfl (lv_at hl 0 rfl) ?_
        refine lv_aload_n hx hb dPr_takeFrom_39 rfl (lv_at hl 3 rfl) ?_
        refine va_getN (D := (dC, dI)) (ci := 4) (v := .ref h1_tree) (C := "StepCourt$Machine") (T := TMa) (N := 8) hx hb hq inMa hown hK hP 4 rfl rfl 1 (by decide) (va_Nw.use rfl (hZ.1 _ zt_68)) (fun _ h9 => h9) rfl dPr_takeFrom_40 ?_
        refine lv_bipush (v := 8) hx hb dPr_takeFrom_43 (by decide) ?_
        refine lv_iload_n hx hb dPr_takeFrom_45 rfl (lv_at hl 1 rfl) ?_
        refine lv_iadd hx hb dPr_takeFrom_46 ?_
        refine lv_iload_n hx hb dPr_takeFrom_47 rfl (lv_at hl 0 rfl) ?_
        refine lv_ishr hx hb dPr_takeFrom_48 ?_
        refine lv_iconst (v := 1) hx hb dPr_takeFrom_49 (by decide) ?_
        refine lv_ixor hx hb dPr_takeFrom_50 ?_
        obtain ⟨hh17, hw⟩ := hw
        refine va_lald hx hb hK hP 6 3 rfl rfl hh17 dPr_takeFrom_51 ?_
        refine lv_topl (fun f18 ef18 => ?_)
        have hw := hw f18 ef18
        obtain ⟨hh19, hw⟩ := hw
        refine va_last hx hb hK hP hD hS 1 0 rfl rfl hh19 dPr_takeFrom_52 (fun H locs hP hD hS => ?_)
        have hP : va_P (dC, dI) vwCl [(h0, ce_Pr h0_given h0_others (f6, u.1.2)), (h0_others, .inl (c0_others, 3, .inr (.inl (vp_updL x15 v14.toNatClampNeg f18)))), (h0_given, ce_Ma h0_given_cells h0_given_tree u2.1), (h0_given_cells, .inl (c0_given_cells, 8, .inl u2.2.1)), (h1, ce_Ma h1_cells h1_tree u8.1), (h1_cells, .inl (c1_cells, 8, .inl u8.2.1)), (h1_tree, .inl (c1_tree, 16, .inr (.inl u8.2.2)))] H := hP
        have hD : va_D A [(h0, ce_Pr h0_given h0_others (f6, u.1.2)), (h0_others, .inl (c0_others, 3, .inr (.inl (vp_updL x15 v14.toNatClampNeg f18)))), (h0_given, ce_Ma h0_given_cells h0_given_tree u2.1), (h0_given_cells, .inl (c0_given_cells, 8, .inl u2.2.1)), (h1, ce_Ma h1_cells h1_tree u8.1), (h1_cells, .inl (c1_cells, 8, .inl u8.2.1)), (h1_tree, .inl (c1_tree, 16, .inr (.inl u8.2.2)))] := hD
        refine lv_iinc (v := (v14 + 1)) (lv' := [(3, .int (v14 + 1)), (2, .int r3), (0, .ref h0), (1, .ref h1)]) hx hb dPr_takeFrom_53 hl (k := 0) rfl (by rfl) (by decide) rfl (fun ls hl => ?_)
        refine lv_goto (tgt := 29) hx hb dPr_takeFrom_56 (by decide) ?_
        exact ih29 (v14 + 1) (vp_updL x15 v14.toNatClampNeg f18) _ _ ls hw hP hD hS (lv_sub hl [0, 1, 2, 3] rfl)
  obtain ⟨n13, hw⟩ := hw
  exact hlp29 n13 0 u.2.2.2.1 _ _ ls hw hP hD hS (lv_sub hl [0, 1, 2, 3] rfl)
abbrev ww_Pr_alterOther (h0 h0_others h0_given : Nat) (c0_others : ClassId) (u : ct_Pr × (Nat → Int64)) : va_W := [(h0, ce_Pr h0_given h0_others u.1), (h0_others, .inl (c0_others, 3, .inr (.inl u.2)))]
def wp_Pr_alterOther (post : (ct_Pr × (Nat → Int64)) → Prop) (u : ct_Pr × (Nat → Int64)) (k1 : Int32) (k2 : Int32) : Prop := ((k1 < 0 → (post (u.1, u.2))) ∧ (¬ k1 < 0 → (((3 ≤ k1 → (post (u.1, u.2))) ∧ (¬ 3 ≤ k1 → (vp_in k1 3 ∧ (∀ f4 : Int64, f4 = ((u.2 k1.toNatClampNeg) ^^^ (k2.toInt64)) → (vp_in k1 3 ∧ (post (u.1, (vp_updL u.2 k1.toNatClampNeg f4)))))))))))
set_option maxHeartbeats 4000000 in
set_option maxRecDepth 100000 in
theorem mt_Pr_alterOther (l : Launch) (dC : Nat → ClassId) (dI : Nat → Nat → Nat) (h0 h0_others h0_given : Nat) (c0_others : ClassId) (sz : Nat) (post : (ct_Pr × (Nat → Int64)) → Prop) (u : ct_Pr × (Nat → Int64)) (k1 : Int32) (k2 : Int32) (hw : wp_Pr_alterOther post u k1 k2) : Met l yPr_alterOther wsPr_alterOther ({ frames := 0, cells := 0, slots := 0, locals := 0 }) (kp_P dC dI [.ref h0, .int k1, .int k2] sz (ww_Pr_alterOther h0 h0_others h0_given c0_others u) [(c0_others, .long)]) (va_Qv post (fun u9 => kp_B dC dI (va_A (ww_Pr_alterOther h0 h0_others h0_given c0_others u) sz) (ww_Pr_alterOther h0 h0_others h0_given c0_others u9) [(c0_others, .long)]) (va_A (ww_Pr_alterOther h0 h0_others h0_given c0_others u) sz)) 0 0 (va_A (ww_Pr_alterOther h0 h0_others h0_given c0_others u) sz) := by
  refine Met.ofW (cc := cPr_alterOther) (maxL := 3) (ret := none) (by decide) rfl ?_
  intro p e s m args below meth c s₁ B hml hv
  obtain ⟨rfl, hsz, hP, hK, hD0, hZ⟩ := hv
  have hx := B.exec
  have hb := B.bytes
  have hr := B.returns
  have hq : ∀ w ∈ wz, w.before _ s = true := fun w h => atoms_spec (ws := wsPr_alterOther) B.pre w (List.mem_cons_of_mem _ h)
  have hown : s.vm.findClass "StepCourt$Proof" = some m.cls := findClass_of_methodNamed B.named
  have hlocks := B.notSynchronized
  subst hsz
  have hD := hD0.self (sz := s.heap.size)
  generalize hAe : va_A (ww_Pr_alterOther h0 h0_others h0_given c0_others u) s.heap.size = A at hD ⊢
  have hA : ∀ q : Nat, s.heap.size ≤ q → A q := fun q h => by rw [← hAe]; exact Or.inr h
  have hS : va_S A s.heap s.heap [] := va_S.rf
  have hP : va_P (dC, dI) vwCl [(h0, ce_Pr h0_given h0_others u.1), (h0_others, .inl (c0_others, 3, .inr (.inl u.2)))] s.heap := hP
  have hD : va_D A [(h0, ce_Pr h0_given h0_others u.1), (h0_others, .inl (c0_others, 3, .inr (.inl u.2)))] := hD
  have hl := lv_entry ([.ref h0, .int k1, .int k2]) (n := 3) (Nat.le_of_ble_eq_true rfl)
  rw [lg_entry_eq]
  generalize (lg_sl ([.ref h0, .int k1, .int k2]) ++ List.replicate (3 - (lg_sl ([.ref h0, .int k1, .int k2])).length) Slot.unset).toArray = ls at hl ⊢
  have hl : lv_has ls 3 [(0, .ref h0), (1, .int k1), (2, .int k2)] := hl
  skip
  refine lv_iload_n hx hb dPr_alterOther_0 rfl (lv_at hl 1 rfl) ?_
  refine lv_if_lt (tgt := 20) hx hb dPr_alterOther_1 (by decide) (fun cc1 => ?_) (fun cc1 => ?_)
  · have hw := hw.1 cc1
    have hP9 := hP.sub (ws' := [(h0, ce_Pr h0_given h0_others u.1), (h0_others, .inl (c0_others, 3, .inr (.inl u.2)))]) [0, 1] rfl
    have hD9 := hD.sub (ws' := [(h0, ce_Pr h0_given h0_others u.1), (h0_others, .inl (c0_others, 3, .inr (.inl u.2)))]) [0, 1] (by decide) rfl
    have hK9 := hK.sub (tys' := [(c0_others, .long)]) [0] rfl
    exact W.vret hx hb hr (fun t ht hW => ⟨⟨(u.1, u.2), rfl, hw, by rw [ht]; exact hP9, va_K.moved hW.alike hK9, hD9⟩, hS.F ht⟩) hS.2.2 dPr_alterOther_20
  · have hw := hw.2 cc1
    refine lv_iload_n hx hb dPr_alterOther_4 rfl (lv_at hl 1 rfl) ?_
    refine lv_iconst (v := 3) hx hb dPr_alterOther_5 (by decide) ?_
    refine lv_icmp_ge (tgt := 20) hx hb dPr_alterOther_6 (by decide) (fun cc2 => ?_) (fun cc2 => ?_)
    · have hw := hw.1 cc2
      have hP9 := hP.sub (ws' := [(h0, ce_Pr h0_given h0_others u.1), (h0_others, .inl (c0_others, 3, .inr (.inl u.2)))]) [0, 1] rfl
      have hD9 := hD.sub (ws' := [(h0, ce_Pr h0_given h0_others u.1), (h0_others, .inl (c0_others, 3, .inr (.inl u.2)))]) [0, 1] (by decide) rfl
      have hK9 := hK.sub (tys' := [(c0_others, .long)]) [0] rfl
      exact W.vret hx hb hr (fun t ht hW => ⟨⟨(u.1, u.2), rfl, hw, by rw [ht]; exact hP9, va_K.moved hW.alike hK9, hD9⟩, hS.F ht⟩) hS.2.2 dPr_alterOther_20
    · have hw := hw.2 cc2
      refine lv_aload_n hx hb dPr_alterOther_9 rfl (lv_at hl 0 rfl) ?_
      refine va_get (D := (dC, dI)) (ci := 6) (v := .ref h0_others) (C := "StepCourt$Proof") (T := TPr) (N := 4) hx hb hq inPr hown hK hP 0 rfl rfl 1 (by decide) (hq _ wt_139) (fun _ h9 => h9) rfl dPr_alterOther_10 ?_
      refine lv_iload_n hx hb dPr_alterOther_13 rfl (lv_at hl 1 rfl) ?_
      refine lv_dup2_11 hx hb dPr_alterOther_14 rfl rfl ?_
      obtain ⟨hh3, hw⟩ := hw
      refine va_lald hx hb hK hP 1 0 rfl rfl hh3 dPr_alterOther_15 ?_
      refine lv_iload_n hx hb dPr_alterOther_16 rfl (lv_at hl 2 rfl) ?_
      refine lv_i2l (v := k2.toInt64) hx hb dPr_alterOther_17 rfl ?_
      refine lv_lxor hx hb dPr_alterOther_18 ?_
      refine lv_topl (fun f4 ef4 => ?_)
      have hw := hw f4 ef4
      obtain ⟨hh5, hw⟩ := hw
      refine va_last hx hb hK hP hD hS 1 0 rfl rfl hh5 dPr_alterOther_19 (fun H locs hP hD hS => ?_)
      have hP : va_P (dC, dI) vwCl [(h0, ce_Pr h0_given h0_others u.1), (h0_others, .inl (c0_others, 3, .inr (.inl (vp_updL u.2 k1.toNatClampNeg f4))))] H := hP
      have hD : va_D A [(h0, ce_Pr h0_given h0_others u.1), (h0_others, .inl (c0_others, 3, .inr (.inl (vp_updL u.2 k1.toNatClampNeg f4))))] := hD
      have hP9 := hP.sub (ws' := [(h0, ce_Pr h0_given h0_others u.1), (h0_others, .inl (c0_others, 3, .inr (.inl (vp_updL u.2 k1.toNatClampNeg f4))))]) [0, 1] rfl
      have hD9 := hD.sub (ws' := [(h0, ce_Pr h0_given h0_others u.1), (h0_others, .inl (c0_others, 3, .inr (.inl (vp_updL u.2 k1.toNatClampNeg f4))))]) [0, 1] (by decide) rfl
      have hK9 := hK.sub (tys' := [(c0_others, .long)]) [0] rfl
      exact W.vret hx hb hr (fun t ht hW => ⟨⟨(u.1, (vp_updL u.2 k1.toNatClampNeg f4)), rfl, hw, by rw [ht]; exact hP9, va_K.moved hW.alike hK9, hD9⟩, hS.F ht⟩) hS.2.2 dPr_alterOther_20
abbrev ww_Pr_alter (h0 h0_given h0_given_cells h0_others h0_given_tree : Nat) (c0_given_cells c0_others : ClassId) (u : ct_Pr × ct_Ma × (Nat → Int32) × (Nat → Int64)) : va_W := [(h0, ce_Pr h0_given h0_others u.1), (h0_given, ce_Ma h0_given_cells h0_given_tree u.2.1), (h0_given_cells, .inl (c0_given_cells, 8, .inl u.2.2.1)), (h0_others, .inl (c0_others, 3, .inr (.inl u.2.2.2)))]
def wp_Pr_alter (post : (ct_Pr × ct_Ma × (Nat → Int32) × (Nat → Int64)) → Prop) (u : ct_Pr × ct_Ma × (Nat → Int32) × (Nat → Int64)) (k1 : Int32) (k2 : Int32) : Prop := ((k1 < 1 → (wp_Pr_alterOther (fun u4 => (wp_Ma_cellPlace (fun r5 u6 => (vp_in r5 8 ∧ (post ((u4.1.1, r5), u6, (upd u.2.2.1 r5.toNatClampNeg u4.1.1), u4.2)))) u.2.1 )) (u.1, u.2.2.2) (k1 - 8) k2 )) ∧ (¬ k1 < 1 → (((7 < k1 → (wp_Pr_alterOther (fun u9 => (wp_Ma_cellPlace (fun r10 u11 => (vp_in r10 8 ∧ (post ((u9.1.1, r10), u11, (upd u.2.2.1 r10.toNatClampNeg u9.1.1), u9.2)))) u.2.1 )) (u.1, u.2.2.2) (k1 - 8) k2 )) ∧ (¬ 7 < k1 → (((k1 = 1 → (∀ f14 : Int32, f14 = (u.2.1.1 ^^^ k2) → (wp_Ma_cellPlace (fun r15 u16 => (vp_in r15 8 ∧ (post ((u.1.1, r15), u16, (upd u.2.2.1 r15.toNatClampNeg u.1.1), u.2.2.2)))) (f14, u.2.1.2.1, u.2.1.2.2.1, u.2.1.2.2.2.1, u.2.1.2.2.2.2.1, u.2.1.2.2.2.2.2) ))) ∧ (¬ k1 = 1 → (((k1 = 2 → (∀ f19 : Int32, f19 = (u.2.1.2.1 ^^^ k2) → (wp_Ma_cellPlace (fun r20 u21 => (vp_in r20 8 ∧ (post ((u.1.1, r20), u21, (upd u.2.2.1 r20.toNatClampNeg u.1.1), u.2.2.2)))) (u.2.1.1, f19, u.2.1.2.2.1, u.2.1.2.2.2.1, u.2.1.2.2.2.2.1, u.2.1.2.2.2.2.2) ))) ∧ (¬ k1 = 2 → (((k1 = 3 → (∀ f24 : Int32, f24 = (u.2.1.2.2.1 ^^^ k2) → (wp_Ma_cellPlace (fun r25 u26 => (vp_in r25 8 ∧ (post ((u.1.1, r25), u26, (upd u.2.2.1 r25.toNatClampNeg u.1.1), u.2.2.2)))) (u.2.1.1, u.2.1.2.1, f24, u.2.1.2.2.2.1, u.2.1.2.2.2.2.1, u.2.1.2.2.2.2.2) ))) ∧ (¬ k1 = 3 → (((k1 = 4 → (∀ f29 : Int32, f29 = (u.2.1.2.2.2.1 ^^^ k2) → (wp_Ma_cellPlace (fun r30 u31 => (vp_in r30 8 ∧ (post ((u.1.1, r30), u31, (upd u.2.2.1 r30.toNatClampNeg u.1.1), u.2.2.2)))) (u.2.1.1, u.2.1.2.1, u.2.1.2.2.1, f29, u.2.1.2.2.2.2.1, u.2.1.2.2.2.2.2) ))) ∧ (¬ k1 = 4 → (((k1 = 5 → (∀ f34 : Int32, f34 = (u.2.1.2.2.2.2.1 ^^^ k2) → (wp_Ma_cellPlace (fun r35 u36 => (vp_in r35 8 ∧ (post ((u.1.1, r35), u36, (upd u.2.2.1 r35.toNatClampNeg u.1.1), u.2.2.2)))) (u.2.1.1, u.2.1.2.1, u.2.1.2.2.1, u.2.1.2.2.2.1, f34, u.2.1.2.2.2.2.2) ))) ∧ (¬ k1 = 5 → (((k1 = 6 → (∀ f39 : Int64, f39 = (u.2.1.2.2.2.2.2 ^^^ (k2.toInt64)) → (wp_Ma_cellPlace (fun r40 u41 => (vp_in r40 8 ∧ (post ((u.1.1, r40), u41, (upd u.2.2.1 r40.toNatClampNeg u.1.1), u.2.2.2)))) (u.2.1.1, u.2.1.2.1, u.2.1.2.2.1, u.2.1.2.2.2.1, u.2.1.2.2.2.2.1, f39) ))) ∧ (¬ k1 = 6 → (((k1 = 7 → (∀ f44 : Int32, f44 = (u.1.1 ^^^ k2) → (wp_Ma_cellPlace (fun r45 u46 => (vp_in r45 8 ∧ (post ((f44, r45), u46, (upd u.2.2.1 r45.toNatClampNeg f44), u.2.2.2)))) u.2.1 ))) ∧ (¬ k1 = 7 → (True)))))))))))))))))))))))))))
set_option maxHeartbeats 4000000 in
set_option maxRecDepth 100000 in
theorem mt_Pr_alter (l : Launch) (dC : Nat → ClassId) (dI : Nat → Nat → Nat) (h0 h0_given h0_given_cells h0_others h0_given_tree : Nat) (c0_given_cells c0_others : ClassId) (sz : Nat) (post : (ct_Pr × ct_Ma × (Nat → Int32) × (Nat → Int64)) → Prop) (u : ct_Pr × ct_Ma × (Nat → Int32) × (Nat → Int64)) (k1 : Int32) (k2 : Int32) (hw : wp_Pr_alter post u k1 k2) : Met l yPr_alter wsPr_alter ({ frames := 1, cells := 0, slots := 0, locals := 22 }) (kp_P dC dI [.ref h0, .int k1, .int k2] sz (ww_Pr_alter h0 h0_given h0_given_cells h0_others h0_given_tree c0_given_cells c0_others u) [(c0_given_cells, .int), (c0_others, .long)]) (va_Qv post (fun u9 => kp_B dC dI (va_A (ww_Pr_alter h0 h0_given h0_given_cells h0_others h0_given_tree c0_given_cells c0_others u) sz) (ww_Pr_alter h0 h0_given h0_given_cells h0_others h0_given_tree c0_given_cells c0_others u9) [(c0_given_cells, .int), (c0_others, .long)]) (va_A (ww_Pr_alter h0 h0_given h0_given_cells h0_others h0_given_tree c0_given_cells c0_others u) sz)) 0 0 (va_A (ww_Pr_alter h0 h0_given h0_given_cells h0_others h0_given_tree c0_given_cells c0_others u) sz) := by
  refine Met.ofW (cc := cPr_alter) (maxL := 3) (ret := none) (by decide) rfl ?_
  intro p e s m args below meth c s₁ B hml hv
  obtain ⟨rfl, hsz, hP, hK, hD0, hZ⟩ := hv
  have hx := B.exec
  have hb := B.bytes
  have hr := B.returns
  have hq : ∀ w ∈ wz, w.before _ s = true := fun w h => atoms_spec (ws := wsPr_alter) B.pre w (List.mem_cons_of_mem _ h)
  have hown : s.vm.findClass "StepCourt$Proof" = some m.cls := findClass_of_methodNamed B.named
  have hlocks := B.notSynchronized
  subst hsz
  have hD := hD0.self (sz := s.heap.size)
  generalize hAe : va_A (ww_Pr_alter h0 h0_given h0_given_cells h0_others h0_given_tree c0_given_cells c0_others u) s.heap.size = A at hD ⊢
  have hA : ∀ q : Nat, s.heap.size ≤ q → A q := fun q h => by rw [← hAe]; exact Or.inr h
  have hS : va_S A s.heap s.heap [] := va_S.rf
  have hP : va_P (dC, dI) vwCl [(h0, ce_Pr h0_given h0_others u.1), (h0_given, ce_Ma h0_given_cells h0_given_tree u.2.1), (h0_given_cells, .inl (c0_given_cells, 8, .inl u.2.2.1)), (h0_others, .inl (c0_others, 3, .inr (.inl u.2.2.2)))] s.heap := hP
  have hD : va_D A [(h0, ce_Pr h0_given h0_others u.1), (h0_given, ce_Ma h0_given_cells h0_given_tree u.2.1), (h0_given_cells, .inl (c0_given_cells, 8, .inl u.2.2.1)), (h0_others, .inl (c0_others, 3, .inr (.inl u.2.2.2)))] := hD
  have hl := lv_entry ([.ref h0, .int k1, .int k2]) (n := 3) (Nat.le_of_ble_eq_true rfl)
  rw [lg_entry_eq]
  generalize (lg_sl ([.ref h0, .int k1, .int k2]) ++ List.replicate (3 - (lg_sl ([.ref h0, .int k1, .int k2])).length) Slot.unset).toArray = ls at hl ⊢
  have hl : lv_has ls 3 [(0, .ref h0), (1, .int k1), (2, .int k2)] := hl
  skip
  refine lv_iload_n hx hb dPr_alter_0 rfl (lv_at hl 1 rfl) ?_
  by_cases cc1 : k1 < 1
  · have hw := hw.1 cc1
    refine lv_tableOut (tgt := 154) hx hb dPr_alter_1 (Or.inl (by have q := Int32.lt_iff_toInt_lt.mp cc1; rw [show (1 : Int32).toInt = 1 by decide] at q; exact q)) (by decide) ?_
    refine lv_aload_n hx hb dPr_alter_154 rfl (lv_at hl 0 rfl) ?_
    refine lv_iload_n hx hb dPr_alter_155 rfl (lv_at hl 1 rfl) ?_
    refine lv_bipush (v := 8) hx hb dPr_alter_156 (by decide) ?_
    refine lv_isub hx hb dPr_alter_158 ?_
    refine lv_iload_n hx hb dPr_alter_159 rfl (lv_at hl 2 rfl) ?_
    have hPc := hP.sub (ws' := [(h0, ce_Pr h0_given h0_others u.1), (h0_others, .inl (c0_others, 3, .inr (.inl u.2.2.2)))]) [0, 3] rfl
    have hDc := hD.sub (ws' := [(h0, ce_Pr h0_given h0_others u.1), (h0_others, .inl (c0_others, 3, .inr (.inl u.2.2.2)))]) [0, 3] (by decide) rfl
    have hKc := hK.sub (tys' := [(c0_others, .long)]) [1] rfl
    have hFc := va_free (wc := [(h0, ce_Pr h0_given h0_others u.1), (h0_others, .inl (c0_others, 3, .inr (.inl u.2.2.2)))]) hD hS hA [0, 3] rfl
    refine va_callv (va_runV (As := [.int (k1 - 8), .int k2]) (rest := []) ⟨hx, hb, hml, hown, hq⟩ (mt_Pr_alterOther l dC dI h0 h0_others h0_given c0_others s.heap.size _ (u.1, u.2.2.2) (k1 - 8) k2 hw) ⟨cq_B 2 hq wt_676 wt_673 wt_6 rfl rfl hd_Pr_alterOther ⟨Nat.le_of_ble_eq_true rfl, Nat.le_of_ble_eq_true rfl⟩, (hq _ wt_675), (hq _ wv_19)⟩ ⟨kp_bl, va_recv hKc hPc (ci := 6) (q0 := 0) rfl rfl, kp_at hPc hKc hDc hZ⟩ rfl rfl hl.1 rfl (lv_room (Nat.le_of_ble_eq_true rfl)) dPr_alter_160 ⟨(by decide), (by decide)⟩) hS (fun q _ h => hFc q h) hFc (fun u4 t H1 locs ht hvm hw hB hz1 hk1 hS => ?_)
    obtain ⟨hP1, hK1, hD1⟩ := hB
    rw [ht] at hP1
    have hK1 := va_K.moved hvm.symm hK1
    obtain ⟨hP, hD⟩ := va_join (wr := [(h0_given, ce_Ma h0_given_cells h0_given_tree u.2.1), (h0_given_cells, .inl (c0_given_cells, 8, .inl u.2.2.1))]) (w1 := [(h0, ce_Pr h0_given h0_others u4.1), (h0_others, .inl (c0_others, 3, .inr (.inl u4.2)))]) hP hD [0, 3] [1, 2] rfl rfl (by decide) (by decide) hk1 hFc hP1 hD1
    have hK := (hK.sub (tys' := [(c0_given_cells, .int)]) [0] rfl).app hK1
    generalize H1 = H at hP hS ⊢
    have hP : va_P (dC, dI) vwCl [(h0_given, ce_Ma h0_given_cells h0_given_tree u.2.1), (h0_given_cells, .inl (c0_given_cells, 8, .inl u.2.2.1)), (h0, ce_Pr h0_given h0_others u4.1), (h0_others, .inl (c0_others, 3, .inr (.inl u4.2)))] H := hP
    have hD : va_D A [(h0_given, ce_Ma h0_given_cells h0_given_tree u.2.1), (h0_given_cells, .inl (c0_given_cells, 8, .inl u.2.2.1)), (h0, ce_Pr h0_given h0_others u4.1), (h0_others, .inl (c0_others, 3, .inr (.inl u4.2)))] := hD
    have hK : va_K (dC, dI) vwCl [(c0_given_cells, .int), (c0_others, .long)] s := hK
    refine lv_aload_n hx hb dPr_alter_163 rfl (lv_at hl 0 rfl) ?_
    refine lv_aload_n hx hb dPr_alter_164 rfl (lv_at hl 0 rfl) ?_
    refine va_get (D := (dC, dI)) (ci := 6) (v := .ref h0_given) (C := "StepCourt$Proof") (T := TPr) (N := 4) hx hb hq inPr hown hK hP 2 rfl rfl 0 (by decide) (hq _ wt_137) (fun _ h9 => h9) rfl dPr_alter_165 ?_
    have hPc := hP.sub (ws' := [(h0_given, ce_Ma h0_given_cells h0_given_tree u.2.1)]) [0] rfl
    have hDc := hD.sub (ws' := [(h0_given, ce_Ma h0_given_cells h0_given_tree u.2.1)]) [0] (by decide) rfl
    have hKc := hK.sub (tys' := []) [] rfl
    have hFc := va_free (wc := [(h0_given, ce_Ma h0_given_cells h0_given_tree u.2.1)]) hD hS hA [0] rfl
    refine va_calli (va_runV (As := []) (rest := [.ref h0]) ⟨hx, hb, hml, hown, hq⟩ (mt_Ma_cellPlace l dC dI h0_given h0_given_cells h0_given_tree H.size _ u.2.1 hw) ⟨cq_B 0 hq wt_352 wt_667 wt_4 rfl rfl hd_Ma_cellPlace ⟨Nat.le_of_ble_eq_true rfl, Nat.le_of_ble_eq_true rfl⟩, (hq _ wt_350), (hq _ wt_351)⟩ ⟨kp_bl, va_recv hKc hPc (ci := 4) (q0 := 0) rfl rfl, kp_at hPc hKc hDc hZ⟩ rfl rfl hl.1 rfl (lv_room (Nat.le_of_ble_eq_true rfl)) dPr_alter_168 ⟨(by decide), (by decide)⟩) hS (fun q _ h => hFc q h) hFc (fun r5 u6 t H1 locs ht hvm hw hB hz1 hk1 hS => ?_)
    obtain ⟨hP1, hK1, hD1⟩ := hB
    rw [ht] at hP1
    have hK1 := va_K.moved hvm.symm hK1
    obtain ⟨hP, hD⟩ := va_join (wr := [(h0_given_cells, .inl (c0_given_cells, 8, .inl u.2.2.1)), (h0, ce_Pr h0_given h0_others u4.1), (h0_others, .inl (c0_others, 3, .inr (.inl u4.2)))]) (w1 := [(h0_given, ce_Ma h0_given_cells h0_given_tree u6)]) hP hD [0] [1, 2, 3] rfl rfl (by decide) (by decide) hk1 hFc hP1 hD1
    have hK := (hK.sub (tys' := [(c0_given_cells, .int), (c0_others, .long)]) [0, 1] rfl).app hK1
    generalize H1 = H at hP hS ⊢
    have hP : va_P (dC, dI) vwCl [(h0_given_cells, .inl (c0_given_cells, 8, .inl u.2.2.1)), (h0, ce_Pr h0_given h0_others u4.1), (h0_others, .inl (c0_others, 3, .inr (.inl u4.2))), (h0_given, ce_Ma h0_given_cells h0_given_tree u6)] H := hP
    have hD : va_D A [(h0_given_cells, .inl (c0_given_cells, 8, .inl u.2.2.1)), (h0, ce_Pr h0_given h0_others u4.1), (h0_others, .inl (c0_others, 3, .inr (.inl u4.2))), (h0_given, ce_Ma h0_given_cells h0_given_tree u6)] := hD
    have hK : va_K (dC, dI) vwCl [(c0_given_cells, .int), (c0_others, .long)] s := hK
    refine va_put (D := (dC, dI)) (ci := 6) (v := .int r5) (ty := .int) (C := "StepCourt$Proof") (T := TPr) (N := 4) hx hb hq inPr tyPr tyPr_ok nmPr hown hK hP hD hS 1 rfl rfl 3 (by decide) (hq _ wt_141) (fun _ h9 => h9) rfl (by decide +kernel) rfl rfl (Nat.le_of_ble_eq_true rfl) dPr_alter_171 (fun H locs hP hD hS => ?_)
    have hP : va_P (dC, dI) vwCl [(h0_given_cells, .inl (c0_given_cells, 8, .inl u.2.2.1)), (h0, ce_Pr h0_given h0_others (u4.1.1, r5)), (h0_others, .inl (c0_others, 3, .inr (.inl u4.2))), (h0_given, ce_Ma h0_given_cells h0_given_tree u6)] H := hP
    have hD : va_D A [(h0_given_cells, .inl (c0_given_cells, 8, .inl u.2.2.1)), (h0, ce_Pr h0_given h0_others (u4.1.1, r5)), (h0_others, .inl (c0_others, 3, .inr (.inl u4.2))), (h0_given, ce_Ma h0_given_cells h0_given_tree u6)] := hD
    refine lv_aload_n hx hb dPr_alter_174 rfl (lv_at hl 0 rfl) ?_
    refine va_get (D := (dC, dI)) (ci := 6) (v := .ref h0_given) (C := "StepCourt$Proof") (T := TPr) (N := 4) hx hb hq inPr hown hK hP 1 rfl rfl 0 (by decide) (hq _ wt_137) (fun _ h9 => h9) rfl dPr_alter_175 ?_
    refine va_getN (D := (dC, dI)) (ci := 4) (v := .ref h0_given_cells) (C := "StepCourt$Machine") (T := TMa) (N := 8) hx hb hq inMa hown hK hP 3 rfl rfl 0 (by decide) (va_Nw.use rfl (hZ.1 _ zt_66)) (fun _ h9 => h9) rfl dPr_alter_178 ?_
    refine lv_aload_n hx hb dPr_alter_181 rfl (lv_at hl 0 rfl) ?_
    refine va_get (D := (dC, dI)) (ci := 6) (v := .int r5) (C := "StepCourt$Proof") (T := TPr) (N := 4) hx hb hq inPr hown hK hP 1 rfl rfl 3 (by decide) (hq _ wt_141) (fun _ h9 => h9) rfl dPr_alter_182 ?_
    refine lv_aload_n hx hb dPr_alter_185 rfl (lv_at hl 0 rfl) ?_
    refine va_get (D := (dC, dI)) (ci := 6) (v := .int u4.1.1) (C := "StepCourt$Proof") (T := TPr) (N := 4) hx hb hq inPr hown hK hP 1 rfl rfl 2 (by decide) (hq _ wt_140) (fun _ h9 => h9) rfl dPr_alter_186 ?_
    obtain ⟨hh7, hw⟩ := hw
    refine va_iast hx hb hK hP hD hS 0 0 rfl rfl hh7 dPr_alter_189 (fun H locs hP hD hS => ?_)
    have hP : va_P (dC, dI) vwCl [(h0_given_cells, .inl (c0_given_cells, 8, .inl (upd u.2.2.1 r5.toNatClampNeg u4.1.1))), (h0, ce_Pr h0_given h0_others (u4.1.1, r5)), (h0_others, .inl (c0_others, 3, .inr (.inl u4.2))), (h0_given, ce_Ma h0_given_cells h0_given_tree u6)] H := hP
    have hD : va_D A [(h0_given_cells, .inl (c0_given_cells, 8, .inl (upd u.2.2.1 r5.toNatClampNeg u4.1.1))), (h0, ce_Pr h0_given h0_others (u4.1.1, r5)), (h0_others, .inl (c0_others, 3, .inr (.inl u4.2))), (h0_given, ce_Ma h0_given_cells h0_given_tree u6)] := hD
    have hP9 := hP.sub (ws' := [(h0, ce_Pr h0_given h0_others (u4.1.1, r5)), (h0_given, ce_Ma h0_given_cells h0_given_tree u6), (h0_given_cells, .inl (c0_given_cells, 8, .inl (upd u.2.2.1 r5.toNatClampNeg u4.1.1))), (h0_others, .inl (c0_others, 3, .inr (.inl u4.2)))]) [1, 3, 0, 2] rfl
    have hD9 := hD.sub (ws' := [(h0, ce_Pr h0_given h0_others (u4.1.1, r5)), (h0_given, ce_Ma h0_given_cells h0_given_tree u6), (h0_given_cells, .inl (c0_given_cells, 8, .inl (upd u.2.2.1 r5.toNatClampNeg u4.1.1))), (h0_others, .inl (c0_others, 3, .inr (.inl u4.2)))]) [1, 3, 0, 2] (by decide) rfl
    have hK9 := hK.sub (tys' := [(c0_given_cells, .int), (c0_others, .long)]) [0, 1] rfl
    exact W.vret hx hb hr (fun t ht hW => ⟨⟨((u4.1.1, r5), u6, (upd u.2.2.1 r5.toNatClampNeg u4.1.1), u4.2), rfl, hw, by rw [ht]; exact hP9, va_K.moved hW.alike hK9, hD9⟩, hS.F ht⟩) hS.2.2 dPr_alter_190
  have hw := hw.2 cc1
  by_cases cc2 : 7 < k1
  · have hw := hw.1 cc2
    refine lv_tableOut (tgt := 154) hx hb dPr_alter_1 (Or.inr (by have q := Int32.lt_iff_toInt_lt.mp cc2; rw [show (7 : Int32).toInt = 7 by decide] at q; exact q)) (by decide) ?_
    refine lv_aload_n hx hb dPr_alter_154 rfl (lv_at hl 0 rfl) ?_
    refine lv_iload_n hx hb dPr_alter_155 rfl (lv_at hl 1 rfl) ?_
    refine lv_bipush (v := 8) hx hb dPr_alter_156 (by decide) ?_
    refine lv_isub hx hb dPr_alter_158 ?_
    refine lv_iload_n hx hb dPr_alter_159 rfl (lv_at hl 2 rfl) ?_
    have hPc := hP.sub (ws' := [(h0, ce_Pr h0_given h0_others u.1), (h0_others, .inl (c0_others, 3, .inr (.inl u.2.2.2)))]) [0, 3] rfl
    have hDc := hD.sub (ws' := [(h0, ce_Pr h0_given h0_others u.1), (h0_others, .inl (c0_others, 3, .inr (.inl u.2.2.2)))]) [0, 3] (by decide) rfl
    have hKc := hK.sub (tys' := [(c0_others, .long)]) [1] rfl
    have hFc := va_free (wc := [(h0, ce_Pr h0_given h0_others u.1), (h0_others, .inl (c0_others, 3, .inr (.inl u.2.2.2)))]) hD hS hA [0, 3] rfl
    refine va_callv (va_runV (As := [.int (k1 - 8), .int k2]) (rest := []) ⟨hx, hb, hml, hown, hq⟩ (mt_Pr_alterOther l dC dI h0 h0_others h0_given c0_others s.heap.size _ (u.1, u.2.2.2) (k1 - 8) k2 hw) ⟨cq_B 2 hq wt_676 wt_673 wt_6 rfl rfl hd_Pr_alterOther ⟨Nat.le_of_ble_eq_true rfl, Nat.le_of_ble_eq_true rfl⟩, (hq _ wt_675), (hq _ wv_19)⟩ ⟨kp_bl, va_recv hKc hPc (ci := 6) (q0 := 0) rfl rfl, kp_at hPc hKc hDc hZ⟩ rfl rfl hl.1 rfl (lv_room (Nat.le_of_ble_eq_true rfl)) dPr_alter_160 ⟨(by decide), (by decide)⟩) hS (fun q _ h => hFc q h) hFc (fun u9 t H1 locs ht hvm hw hB hz1 hk1 hS => ?_)
    obtain ⟨hP1, hK1, hD1⟩ := hB
    rw [ht] at hP1
    have hK1 := va_K.moved hvm.symm hK1
    obtain ⟨hP, hD⟩ := va_join (wr := [(h0_given, ce_Ma h0_given_cells h0_given_tree u.2.1), (h0_given_cells, .inl (c0_given_cells, 8, .inl u.2.2.1))]) (w1 := [(h0, ce_Pr h0_given h0_others u9.1), (h0_others, .inl (c0_others, 3, .inr (.inl u9.2)))]) hP hD [0, 3] [1, 2] rfl rfl (by decide) (by decide) hk1 hFc hP1 hD1
    have hK := (hK.sub (tys' := [(c0_given_cells, .int)]) [0] rfl).app hK1
    generalize H1 = H at hP hS ⊢
    have hP : va_P (dC, dI) vwCl [(h0_given, ce_Ma h0_given_cells h0_given_tree u.2.1), (h0_given_cells, .inl (c0_given_cells, 8, .inl u.2.2.1)), (h0, ce_Pr h0_given h0_others u9.1), (h0_others, .inl (c0_others, 3, .inr (.inl u9.2)))] H := hP
    have hD : va_D A [(h0_given, ce_Ma h0_given_cells h0_given_tree u.2.1), (h0_given_cells, .inl (c0_given_cells, 8, .inl u.2.2.1)), (h0, ce_Pr h0_given h0_others u9.1), (h0_others, .inl (c0_others, 3, .inr (.inl u9.2)))] := hD
    have hK : va_K (dC, dI) vwCl [(c0_given_cells, .int), (c0_others, .long)] s := hK
    refine lv_aload_n hx hb dPr_alter_163 rfl (lv_at hl 0 rfl) ?_
    refine lv_aload_n hx hb dPr_alter_164 rfl (lv_at hl 0 rfl) ?_
    refine va_get (D := (dC, dI)) (ci := 6) (v := .ref h0_given) (C := "StepCourt$Proof") (T := TPr) (N := 4) hx hb hq inPr hown hK hP 2 rfl rfl 0 (by decide) (hq _ wt_137) (fun _ h9 => h9) rfl dPr_alter_165 ?_
    have hPc := hP.sub (ws' := [(h0_given, ce_Ma h0_given_cells h0_given_tree u.2.1)]) [0] rfl
    have hDc := hD.sub (ws' := [(h0_given, ce_Ma h0_given_cells h0_given_tree u.2.1)]) [0] (by decide) rfl
    have hKc := hK.sub (tys' := []) [] rfl
    have hFc := va_free (wc := [(h0_given, ce_Ma h0_given_cells h0_given_tree u.2.1)]) hD hS hA [0] rfl
    refine va_calli (va_runV (As := []) (rest := [.ref h0]) ⟨hx, hb, hml, hown, hq⟩ (mt_Ma_cellPlace l dC dI h0_given h0_given_cells h0_given_tree H.size _ u.2.1 hw) ⟨cq_B 0 hq wt_352 wt_667 wt_4 rfl rfl hd_Ma_cellPlace ⟨Nat.le_of_ble_eq_true rfl, Nat.le_of_ble_eq_true rfl⟩, (hq _ wt_350), (hq _ wt_351)⟩ ⟨kp_bl, va_recv hKc hPc (ci := 4) (q0 := 0) rfl rfl, kp_at hPc hKc hDc hZ⟩ rfl rfl hl.1 rfl (lv_room (Nat.le_of_ble_eq_true rfl)) dPr_alter_168 ⟨(by decide), (by decide)⟩) hS (fun q _ h => hFc q h) hFc (fun r10 u11 t H1 locs ht hvm hw hB hz1 hk1 hS => ?_)
    obtain ⟨hP1, hK1, hD1⟩ := hB
    rw [ht] at hP1
    have hK1 := va_K.moved hvm.symm hK1
    obtain ⟨hP, hD⟩ := va_join (wr := [(h0_given_cells, .inl (c0_given_cells, 8, .inl u.2.2.1)), (h0, ce_Pr h0_given h0_others u9.1), (h0_others, .inl (c0_others, 3, .inr (.inl u9.2)))]) (w1 := [(h0_given, ce_Ma h0_given_cells h0_given_tree u11)]) hP hD [0] [1, 2, 3] rfl rfl (by decide) (by decide) hk1 hFc hP1 hD1
    have hK := (hK.sub (tys' := [(c0_given_cells, .int), (c0_others, .long)]) [0, 1] rfl).app hK1
    generalize H1 = H at hP hS ⊢
    have hP : va_P (dC, dI) vwCl [(h0_given_cells, .inl (c0_given_cells, 8, .inl u.2.2.1)), (h0, ce_Pr h0_given h0_others u9.1), (h0_others, .inl (c0_others, 3, .inr (.inl u9.2))), (h0_given, ce_Ma h0_given_cells h0_given_tree u11)] H := hP
    have hD : va_D A [(h0_given_cells, .inl (c0_given_cells, 8, .inl u.2.2.1)), (h0, ce_Pr h0_given h0_others u9.1), (h0_others, .inl (c0_others, 3, .inr (.inl u9.2))), (h0_given, ce_Ma h0_given_cells h0_given_tree u11)] := hD
    have hK : va_K (dC, dI) vwCl [(c0_given_cells, .int), (c0_others, .long)] s := hK
    refine va_put (D := (dC, dI)) (ci := 6) (v := .int r10) (ty := .int) (C := "StepCourt$Proof") (T := TPr) (N := 4) hx hb hq inPr tyPr tyPr_ok nmPr hown hK hP hD hS 1 rfl rfl 3 (by decide) (hq _ wt_141) (fun _ h9 => h9) rfl (by decide +kernel) rfl rfl (Nat.le_of_ble_eq_true rfl) dPr_alter_171 (fun H locs hP hD hS => ?_)
    have hP : va_P (dC, dI) vwCl [(h0_given_cells, .inl (c0_given_cells, 8, .inl u.2.2.1)), (h0, ce_Pr h0_given h0_others (u9.1.1, r10)), (h0_others, .inl (c0_others, 3, .inr (.inl u9.2))), (h0_given, ce_Ma h0_given_cells h0_given_tree u11)] H := hP
    have hD : va_D A [(h0_given_cells, .inl (c0_given_cells, 8, .inl u.2.2.1)), (h0, ce_Pr h0_given h0_others (u9.1.1, r10)), (h0_others, .inl (c0_others, 3, .inr (.inl u9.2))), (h0_given, ce_Ma h0_given_cells h0_given_tree u11)] := hD
    refine lv_aload_n hx hb dPr_alter_174 rfl (lv_at hl 0 rfl) ?_
    refine va_get (D := (dC, dI)) (ci := 6) (v := .ref h0_given) (C := "StepCourt$Proof") (T := TPr) (N := 4) hx hb hq inPr hown hK hP 1 rfl rfl 0 (by decide) (hq _ wt_137) (fun _ h9 => h9) rfl dPr_alter_175 ?_
    refine va_getN (D := (dC, dI)) (ci := 4) (v := .ref h0_given_cells) (C := "StepCourt$Machine") (T := TMa) (N := 8) hx hb hq inMa hown hK hP 3 rfl rfl 0 (by decide) (va_Nw.use rfl (hZ.1 _ zt_66)) (fun _ h9 => h9) rfl dPr_alter_178 ?_
    refine lv_aload_n hx hb dPr_alter_181 rfl (lv_at hl 0 rfl) ?_
    refine va_get (D := (dC, dI)) (ci := 6) (v := .int r10) (C := "StepCourt$Proof") (T := TPr) (N := 4) hx hb hq inPr hown hK hP 1 rfl rfl 3 (by decide) (hq _ wt_141) (fun _ h9 => h9) rfl dPr_alter_182 ?_
    refine lv_aload_n hx hb dPr_alter_185 rfl (lv_at hl 0 rfl) ?_
    refine va_get (D := (dC, dI)) (ci := 6) (v := .int u9.1.1) (C := "StepCourt$Proof") (T := TPr) (N := 4) hx hb hq inPr hown hK hP 1 rfl rfl 2 (by decide) (hq _ wt_140) (fun _ h9 => h9) rfl dPr_alter_186 ?_
    obtain ⟨hh12, hw⟩ := hw
    refine va_iast hx hb hK hP hD hS 0 0 rfl rfl hh12 dPr_alter_189 (fun H locs hP hD hS => ?_)
    have hP : va_P (dC, dI) vwCl [(h0_given_cells, .inl (c0_given_cells, 8, .inl (upd u.2.2.1 r10.toNatClampNeg u9.1.1))), (h0, ce_Pr h0_given h0_others (u9.1.1, r10)), (h0_others, .inl (c0_others, 3, .inr (.inl u9.2))), (h0_given, ce_Ma h0_given_cells h0_given_tree u11)] H := hP
    have hD : va_D A [(h0_given_cells, .inl (c0_given_cells, 8, .inl (upd u.2.2.1 r10.toNatClampNeg u9.1.1))), (h0, ce_Pr h0_given h0_others (u9.1.1, r10)), (h0_others, .inl (c0_others, 3, .inr (.inl u9.2))), (h0_given, ce_Ma h0_given_cells h0_given_tree u11)] := hD
    have hP9 := hP.sub (ws' := [(h0, ce_Pr h0_given h0_others (u9.1.1, r10)), (h0_given, ce_Ma h0_given_cells h0_given_tree u11), (h0_given_cells, .inl (c0_given_cells, 8, .inl (upd u.2.2.1 r10.toNatClampNeg u9.1.1))), (h0_others, .inl (c0_others, 3, .inr (.inl u9.2)))]) [1, 3, 0, 2] rfl
    have hD9 := hD.sub (ws' := [(h0, ce_Pr h0_given h0_others (u9.1.1, r10)), (h0_given, ce_Ma h0_given_cells h0_given_tree u11), (h0_given_cells, .inl (c0_given_cells, 8, .inl (upd u.2.2.1 r10.toNatClampNeg u9.1.1))), (h0_others, .inl (c0_others, 3, .inr (.inl u9.2)))]) [1, 3, 0, 2] (by decide) rfl
    have hK9 := hK.sub (tys' := [(c0_given_cells, .int), (c0_others, .long)]) [0, 1] rfl
    exact W.vret hx hb hr (fun t ht hW => ⟨⟨((u9.1.1, r10), u11, (upd u.2.2.1 r10.toNatClampNeg u9.1.1), u9.2), rfl, hw, by rw [ht]; exact hP9, va_K.moved hW.alike hK9, hD9⟩, hS.F ht⟩) hS.2.2 dPr_alter_190
  have hw := hw.2 cc2
  by_cases cc13 : k1 = 1
  · have hw := hw.1 cc13
    refine lv_tableIn (off := 43) (tgt := 44) hx hb dPr_alter_1 (by rw [cc13]; decide) (by rw [cc13]; decide) (by rw [cc13]; decide) (by decide) ?_
    refine lv_aload_n hx hb dPr_alter_44 rfl (lv_at hl 0 rfl) ?_
    refine va_get (D := (dC, dI)) (ci := 6) (v := .ref h0_given) (C := "StepCourt$Proof") (T := TPr) (N := 4) hx hb hq inPr hown hK hP 0 rfl rfl 0 (by decide) (hq _ wt_137) (fun _ h9 => h9) rfl dPr_alter_45 ?_
    refine lv_dup hx hb dPr_alter_48 rfl ?_
    refine va_getN (D := (dC, dI)) (ci := 4) (v := .int u.2.1.1) (C := "StepCourt$Machine") (T := TMa) (N := 8) hx hb hq inMa hown hK hP 1 rfl rfl 2 (by decide) (va_Nw.use rfl (hZ.1 _ zt_70)) (fun _ h9 => h9) rfl dPr_alter_49 ?_
    refine lv_iload_n hx hb dPr_alter_52 rfl (lv_at hl 2 rfl) ?_
    refine lv_ixor hx hb dPr_alter_53 ?_
    refine lv_topi (fun f14 ef14 => ?_)
    have hw := hw f14 ef14
    refine va_putN (D := (dC, dI)) (ci := 4) (v := .int f14) (ty := .int) (C := "StepCourt$Machine") (T := TMa) (N := 8) hx hb hq inMa tyMa tyMa_ok nmMa hown hK hP hD hS 1 rfl rfl 2 (by decide) (va_Nw.use rfl (hZ.1 _ zt_70)) (fun _ h9 => h9) rfl (by decide +kernel) rfl rfl (Nat.le_of_ble_eq_true rfl) dPr_alter_54 (fun H locs hP hD hS => ?_)
    have hP : va_P (dC, dI) vwCl [(h0, ce_Pr h0_given h0_others u.1), (h0_given, ce_Ma h0_given_cells h0_given_tree (f14, u.2.1.2.1, u.2.1.2.2.1, u.2.1.2.2.2.1, u.2.1.2.2.2.2.1, u.2.1.2.2.2.2.2)), (h0_given_cells, .inl (c0_given_cells, 8, .inl u.2.2.1)), (h0_others, .inl (c0_others, 3, .inr (.inl u.2.2.2)))] H := hP
    have hD : va_D A [(h0, ce_Pr h0_given h0_others u.1), (h0_given, ce_Ma h0_given_cells h0_given_tree (f14, u.2.1.2.1, u.2.1.2.2.1, u.2.1.2.2.2.1, u.2.1.2.2.2.2.1, u.2.1.2.2.2.2.2)), (h0_given_cells, .inl (c0_given_cells, 8, .inl u.2.2.1)), (h0_others, .inl (c0_others, 3, .inr (.inl u.2.2.2)))] := hD
    refine lv_goto (tgt := 163) hx hb dPr_alter_57 (by decide) ?_
    refine lv_aload_n hx hb dPr_alter_163 rfl (lv_at hl 0 rfl) ?_
    refine lv_aload_n hx hb dPr_alter_164 rfl (lv_at hl 0 rfl) ?_
    refine va_get (D := (dC, dI)) (ci := 6) (v := .ref h0_given) (C := "StepCourt$Proof") (T := TPr) (N := 4) hx hb hq inPr hown hK hP 0 rfl rfl 0 (by decide) (hq _ wt_137) (fun _ h9 => h9) rfl dPr_alter_165 ?_
    have hPc := hP.sub (ws' := [(h0_given, ce_Ma h0_given_cells h0_given_tree (f14, u.2.1.2.1, u.2.1.2.2.1, u.2.1.2.2.2.1, u.2.1.2.2.2.2.1, u.2.1.2.2.2.2.2))]) [1] rfl
    have hDc := hD.sub (ws' := [(h0_given, ce_Ma h0_given_cells h0_given_tree (f14, u.2.1.2.1, u.2.1.2.2.1, u.2.1.2.2.2.1, u.2.1.2.2.2.2.1, u.2.1.2.2.2.2.2))]) [1] (by decide) rfl
    have hKc := hK.sub (tys' := []) [] rfl
    have hFc := va_free (wc := [(h0_given, ce_Ma h0_given_cells h0_given_tree (f14, u.2.1.2.1, u.2.1.2.2.1, u.2.1.2.2.2.1, u.2.1.2.2.2.2.1, u.2.1.2.2.2.2.2))]) hD hS hA [1] rfl
    refine va_calli (va_runV (As := []) (rest := [.ref h0]) ⟨hx, hb, hml, hown, hq⟩ (mt_Ma_cellPlace l dC dI h0_given h0_given_cells h0_given_tree H.size _ (f14, u.2.1.2.1, u.2.1.2.2.1, u.2.1.2.2.2.1, u.2.1.2.2.2.2.1, u.2.1.2.2.2.2.2) hw) ⟨cq_B 0 hq wt_352 wt_667 wt_4 rfl rfl hd_Ma_cellPlace ⟨Nat.le_of_ble_eq_true rfl, Nat.le_of_ble_eq_true rfl⟩, (hq _ wt_350), (hq _ wt_351)⟩ ⟨kp_bl, va_recv hKc hPc (ci := 4) (q0 := 0) rfl rfl, kp_at hPc hKc hDc hZ⟩ rfl rfl hl.1 rfl (lv_room (Nat.le_of_ble_eq_true rfl)) dPr_alter_168 ⟨(by decide), (by decide)⟩) hS (fun q _ h => hFc q h) hFc (fun r15 u16 t H1 locs ht hvm hw hB hz1 hk1 hS => ?_)
    obtain ⟨hP1, hK1, hD1⟩ := hB
    rw [ht] at hP1
    have hK1 := va_K.moved hvm.symm hK1
    obtain ⟨hP, hD⟩ := va_join (wr := [(h0, ce_Pr h0_given h0_others u.1), (h0_given_cells, .inl (c0_given_cells, 8, .inl u.2.2.1)), (h0_others, .inl (c0_others, 3, .inr (.inl u.2.2.2)))]) (w1 := [(h0_given, ce_Ma h0_given_cells h0_given_tree u16)]) hP hD [1] [0, 2, 3] rfl rfl (by decide) (by decide) hk1 hFc hP1 hD1
    have hK := (hK.sub (tys' := [(c0_given_cells, .int), (c0_others, .long)]) [0, 1] rfl).app hK1
    generalize H1 = H at hP hS ⊢
    have hP : va_P (dC, dI) vwCl [(h0, ce_Pr h0_given h0_others u.1), (h0_given_cells, .inl (c0_given_cells, 8, .inl u.2.2.1)), (h0_others, .inl (c0_others, 3, .inr (.inl u.2.2.2))), (h0_given, ce_Ma h0_given_cells h0_given_tree u16)] H := hP
    have hD : va_D A [(h0, ce_Pr h0_given h0_others u.1), (h0_given_cells, .inl (c0_given_cells, 8, .inl u.2.2.1)), (h0_others, .inl (c0_others, 3, .inr (.inl u.2.2.2))), (h0_given, ce_Ma h0_given_cells h0_given_tree u16)] := hD
    have hK : va_K (dC, dI) vwCl [(c0_given_cells, .int), (c0_others, .long)] s := hK
    refine va_put (D := (dC, dI)) (ci := 6) (v := .int r15) (ty := .int) (C := "StepCourt$Proof") (T := TPr) (N := 4) hx hb hq inPr tyPr tyPr_ok nmPr hown hK hP hD hS 0 rfl rfl 3 (by decide) (hq _ wt_141) (fun _ h9 => h9) rfl (by decide +kernel) rfl rfl (Nat.le_of_ble_eq_true rfl) dPr_alter_171 (fun H locs hP hD hS => ?_)
    have hP : va_P (dC, dI) vwCl [(h0, ce_Pr h0_given h0_others (u.1.1, r15)), (h0_given_cells, .inl (c0_given_cells, 8, .inl u.2.2.1)), (h0_others, .inl (c0_others, 3, .inr (.inl u.2.2.2))), (h0_given, ce_Ma h0_given_cells h0_given_tree u16)] H := hP
    have hD : va_D A [(h0, ce_Pr h0_given h0_others (u.1.1, r15)), (h0_given_cells, .inl (c0_given_cells, 8, .inl u.2.2.1)), (h0_others, .inl (c0_others, 3, .inr (.inl u.2.2.2))), (h0_given, ce_Ma h0_given_cells h0_given_tree u16)] := hD
    refine lv_aload_n hx hb dPr_alter_174 rfl (lv_at hl 0 rfl) ?_
    refine va_get (D := (dC, dI)) (ci := 6) (v := .ref h0_given) (C := "StepCourt$Proof") (T := TPr) (N := 4) hx hb hq inPr hown hK hP 0 rfl rfl 0 (by decide) (hq _ wt_137) (fun _ h9 => h9) rfl dPr_alter_175 ?_
    refine va_getN (D := (dC, dI)) (ci := 4) (v := .ref h0_given_cells) (C := "StepCourt$Machine") (T := TMa) (N := 8) hx hb hq inMa hown hK hP 3 rfl rfl 0 (by decide) (va_Nw.use rfl (hZ.1 _ zt_66)) (fun _ h9 => h9) rfl dPr_alter_178 ?_
    refine lv_aload_n hx hb dPr_alter_181 rfl (lv_at hl 0 rfl) ?_
    refine va_get (D := (dC, dI)) (ci := 6) (v := .int r15) (C := "StepCourt$Proof") (T := TPr) (N := 4) hx hb hq inPr hown hK hP 0 rfl rfl 3 (by decide) (hq _ wt_141) (fun _ h9 => h9) rfl dPr_alter_182 ?_
    refine lv_aload_n hx hb dPr_alter_185 rfl (lv_at hl 0 rfl) ?_
    refine va_get (D := (dC, dI)) (ci := 6) (v := .int u.1.1) (C := "StepCourt$Proof") (T := TPr) (N := 4) hx hb hq inPr hown hK hP 0 rfl rfl 2 (by decide) (hq _ wt_140) (fun _ h9 => h9) rfl dPr_alter_186 ?_
    obtain ⟨hh17, hw⟩ := hw
    refine va_iast hx hb hK hP hD hS 1 0 rfl rfl hh17 dPr_alter_189 (fun H locs hP hD hS => ?_)
    have hP : va_P (dC, dI) vwCl [(h0, ce_Pr h0_given h0_others (u.1.1, r15)), (h0_given_cells, .inl (c0_given_cells, 8, .inl (upd u.2.2.1 r15.toNatClampNeg u.1.1))), (h0_others, .inl (c0_others, 3, .inr (.inl u.2.2.2))), (h0_given, ce_Ma h0_given_cells h0_given_tree u16)] H := hP
    have hD : va_D A [(h0, ce_Pr h0_given h0_others (u.1.1, r15)), (h0_given_cells, .inl (c0_given_cells, 8, .inl (upd u.2.2.1 r15.toNatClampNeg u.1.1))), (h0_others, .inl (c0_others, 3, .inr (.inl u.2.2.2))), (h0_given, ce_Ma h0_given_cells h0_given_tree u16)] := hD
    have hP9 := hP.sub (ws' := [(h0, ce_Pr h0_given h0_others (u.1.1, r15)), (h0_given, ce_Ma h0_given_cells h0_given_tree u16), (h0_given_cells, .inl (c0_given_cells, 8, .inl (upd u.2.2.1 r15.toNatClampNeg u.1.1))), (h0_others, .inl (c0_others, 3, .inr (.inl u.2.2.2)))]) [0, 3, 1, 2] rfl
    have hD9 := hD.sub (ws' := [(h0, ce_Pr h0_given h0_others (u.1.1, r15)), (h0_given, ce_Ma h0_given_cells h0_given_tree u16), (h0_given_cells, .inl (c0_given_cells, 8, .inl (upd u.2.2.1 r15.toNatClampNeg u.1.1))), (h0_others, .inl (c0_others, 3, .inr (.inl u.2.2.2)))]) [0, 3, 1, 2] (by decide) rfl
    have hK9 := hK.sub (tys' := [(c0_given_cells, .int), (c0_others, .long)]) [0, 1] rfl
    exact W.vret hx hb hr (fun t ht hW => ⟨⟨((u.1.1, r15), u16, (upd u.2.2.1 r15.toNatClampNeg u.1.1), u.2.2.2), rfl, hw, by rw [ht]; exact hP9, va_K.moved hW.alike hK9, hD9⟩, hS.F ht⟩) hS.2.2 dPr_alter_190
  have hw := hw.2 cc13
  by_cases cc18 : k1 = 2
  · have hw := hw.1 cc18
    refine lv_tableIn (off := 59) (tgt := 60) hx hb dPr_alter_1 (by rw [cc18]; decide) (by rw [cc18]; decide) (by rw [cc18]; decide) (by decide) ?_
    refine lv_aload_n hx hb dPr_alter_60 rfl (lv_at hl 0 rfl) ?_
    refine va_get (D := (dC, dI)) (ci := 6) (v := .ref h0_given) (C := "StepCourt$Proof") (T := TPr) (N := 4) hx hb hq inPr hown hK hP 0 rfl rfl 0 (by decide) (hq _ wt_137) (fun _ h9 => h9) rfl dPr_alter_61 ?_
    refine lv_dup hx hb dPr_alter_64 rfl ?_
    refine va_getN (D := (dC, dI)) (ci := 4) (v := .int u.2.1.2.1) (C := "StepCourt$Machine") (T := TMa) (N := 8) hx hb hq inMa hown hK hP 1 rfl rfl 3 (by decide) (va_Nw.use rfl (hZ.1 _ zt_73)) (fun _ h9 => h9) rfl dPr_alter_65 ?_
    refine lv_iload_n hx hb dPr_alter_68 rfl (lv_at hl 2 rfl) ?_
    refine lv_ixor hx hb dPr_alter_69 ?_
    refine lv_topi (fun f19 ef19 => ?_)
    have hw := hw f19 ef19
    refine va_putN (D := (dC, dI)) (ci := 4) (v := .int f19) (ty := .int) (C := "StepCourt$Machine") (T := TMa) (N := 8) hx hb hq inMa tyMa tyMa_ok nmMa hown hK hP hD hS 1 rfl rfl 3 (by decide) (va_Nw.use rfl (hZ.1 _ zt_73)) (fun _ h9 => h9) rfl (by decide +kernel) rfl rfl (Nat.le_of_ble_eq_true rfl) dPr_alter_70 (fun H locs hP hD hS => ?_)
    have hP : va_P (dC, dI) vwCl [(h0, ce_Pr h0_given h0_others u.1), (h0_given, ce_Ma h0_given_cells h0_given_tree (u.2.1.1, f19, u.2.1.2.2.1, u.2.1.2.2.2.1, u.2.1.2.2.2.2.1, u.2.1.2.2.2.2.2)), (h0_given_cells, .inl (c0_given_cells, 8, .inl u.2.2.1)), (h0_others, .inl (c0_others, 3, .inr (.inl u.2.2.2)))] H := hP
    have hD : va_D A [(h0, ce_Pr h0_given h0_others u.1), (h0_given, ce_Ma h0_given_cells h0_given_tree (u.2.1.1, f19, u.2.1.2.2.1, u.2.1.2.2.2.1, u.2.1.2.2.2.2.1, u.2.1.2.2.2.2.2)), (h0_given_cells, .inl (c0_given_cells, 8, .inl u.2.2.1)), (h0_others, .inl (c0_others, 3, .inr (.inl u.2.2.2)))] := hD
    refine lv_goto (tgt := 163) hx hb dPr_alter_73 (by decide) ?_
    refine lv_aload_n hx hb dPr_alter_163 rfl (lv_at hl 0 rfl) ?_
    refine lv_aload_n hx hb dPr_alter_164 rfl (lv_at hl 0 rfl) ?_
    refine va_get (D := (dC, dI)) (ci := 6) (v := .ref h0_given) (C := "StepCourt$Proof") (T := TPr) (N := 4) hx hb hq inPr hown hK hP 0 rfl rfl 0 (by decide) (hq _ wt_137) (fun _ h9 => h9) rfl dPr_alter_165 ?_
    have hPc := hP.sub (ws' := [(h0_given, ce_Ma h0_given_cells h0_given_tree (u.2.1.1, f19, u.2.1.2.2.1, u.2.1.2.2.2.1, u.2.1.2.2.2.2.1, u.2.1.2.2.2.2.2))]) [1] rfl
    have hDc := hD.sub (ws' := [(h0_given, ce_Ma h0_given_cells h0_given_tree (u.2.1.1, f19, u.2.1.2.2.1, u.2.1.2.2.2.1, u.2.1.2.2.2.2.1, u.2.1.2.2.2.2.2))]) [1] (by decide) rfl
    have hKc := hK.sub (tys' := []) [] rfl
    have hFc := va_free (wc := [(h0_given, ce_Ma h0_given_cells h0_given_tree (u.2.1.1, f19, u.2.1.2.2.1, u.2.1.2.2.2.1, u.2.1.2.2.2.2.1, u.2.1.2.2.2.2.2))]) hD hS hA [1] rfl
    refine va_calli (va_runV (As := []) (rest := [.ref h0]) ⟨hx, hb, hml, hown, hq⟩ (mt_Ma_cellPlace l dC dI h0_given h0_given_cells h0_given_tree H.size _ (u.2.1.1, f19, u.2.1.2.2.1, u.2.1.2.2.2.1, u.2.1.2.2.2.2.1, u.2.1.2.2.2.2.2) hw) ⟨cq_B 0 hq wt_352 wt_667 wt_4 rfl rfl hd_Ma_cellPlace ⟨Nat.le_of_ble_eq_true rfl, Nat.le_of_ble_eq_true rfl⟩, (hq _ wt_350), (hq _ wt_351)⟩ ⟨kp_bl, va_recv hKc hPc (ci := 4) (q0 := 0) rfl rfl, kp_at hPc hKc hDc hZ⟩ rfl rfl hl.1 rfl (lv_room (Nat.le_of_ble_eq_true rfl)) dPr_alter_168 ⟨(by decide), (by decide)⟩) hS (fun q _ h => hFc q h) hFc (fun r20 u21 t H1 locs ht hvm hw hB hz1 hk1 hS => ?_)
    obtain ⟨hP1, hK1, hD1⟩ := hB
    rw [ht] at hP1
    have hK1 := va_K.moved hvm.symm hK1
    obtain ⟨hP, hD⟩ := va_join (wr := [(h0, ce_Pr h0_given h0_others u.1), (h0_given_cells, .inl (c0_given_cells, 8, .inl u.2.2.1)), (h0_others, .inl (c0_others, 3, .inr (.inl u.2.2.2)))]) (w1 := [(h0_given, ce_Ma h0_given_cells h0_given_tree u21)]) hP hD [1] [0, 2, 3] rfl rfl (by decide) (by decide) hk1 hFc hP1 hD1
    have hK := (hK.sub (tys' := [(c0_given_cells, .int), (c0_others, .long)]) [0, 1] rfl).app hK1
    generalize H1 = H at hP hS ⊢
    have hP : va_P (dC, dI) vwCl [(h0, ce_Pr h0_given h0_others u.1), (h0_given_cells, .inl (c0_given_cells, 8, .inl u.2.2.1)), (h0_others, .inl (c0_others, 3, .inr (.inl u.2.2.2))), (h0_given, ce_Ma h0_given_cells h0_given_tree u21)] H := hP
    have hD : va_D A [(h0, ce_Pr h0_given h0_others u.1), (h0_given_cells, .inl (c0_given_cells, 8, .inl u.2.2.1)), (h0_others, .inl (c0_others, 3, .inr (.inl u.2.2.2))), (h0_given, ce_Ma h0_given_cells h0_given_tree u21)] := hD
    have hK : va_K (dC, dI) vwCl [(c0_given_cells, .int), (c0_others, .long)] s := hK
    refine va_put (D := (dC, dI)) (ci := 6) (v := .int r20) (ty := .int) (C := "StepCourt$Proof") (T := TPr) (N := 4) hx hb hq inPr tyPr tyPr_ok nmPr hown hK hP hD hS 0 rfl rfl 3 (by decide) (hq _ wt_141) (fun _ h9 => h9) rfl (by decide +kernel) rfl rfl (Nat.le_of_ble_eq_true rfl) dPr_alter_171 (fun H locs hP hD hS => ?_)
    have hP : va_P (dC, dI) vwCl [(h0, ce_Pr h0_given h0_others (u.1.1, r20)), (h0_given_cells, .inl (c0_given_cells, 8, .inl u.2.2.1)), (h0_others, .inl (c0_others, 3, .inr (.inl u.2.2.2))), (h0_given, ce_Ma h0_given_cells h0_given_tree u21)] H := hP
    have hD : va_D A [(h0, ce_Pr h0_given h0_others (u.1.1, r20)), (h0_given_cells, .inl (c0_given_cells, 8, .inl u.2.2.1)), (h0_others, .inl (c0_others, 3, .inr (.inl u.2.2.2))), (h0_given, ce_Ma h0_given_cells h0_given_tree u21)] := hD
    refine lv_aload_n hx hb dPr_alter_174 rfl (lv_at hl 0 rfl) ?_
    refine va_get (D := (dC, dI)) (ci := 6) (v := .ref h0_given) (C := "StepCourt$Proof") (T := TPr) (N := 4) hx hb hq inPr hown hK hP 0 rfl rfl 0 (by decide) (hq _ wt_137) (fun _ h9 => h9) rfl dPr_alter_175 ?_
    refine va_getN (D := (dC, dI)) (ci := 4) (v := .ref h0_given_cells) (C := "StepCourt$Machine") (T := TMa) (N := 8) hx hb hq inMa hown hK hP 3 rfl rfl 0 (by decide) (va_Nw.use rfl (hZ.1 _ zt_66)) (fun _ h9 => h9) rfl dPr_alter_178 ?_
    refine lv_aload_n hx hb dPr_alter_181 rfl (lv_at hl 0 rfl) ?_
    refine va_get (D := (dC, dI)) (ci := 6) (v := .int r20) (C := "StepCourt$Proof") (T := TPr) (N := 4) hx hb hq inPr hown hK hP 0 rfl rfl 3 (by decide) (hq _ wt_141) (fun _ h9 => h9) rfl dPr_alter_182 ?_
    refine lv_aload_n hx hb dPr_alter_185 rfl (lv_at hl 0 rfl) ?_
    refine va_get (D := (dC, dI)) (ci := 6) (v := .int u.1.1) (C := "StepCourt$Proof") (T := TPr) (N := 4) hx hb hq inPr hown hK hP 0 rfl rfl 2 (by decide) (hq _ wt_140) (fun _ h9 => h9) rfl dPr_alter_186 ?_
    obtain ⟨hh22, hw⟩ := hw
    refine va_iast hx hb hK hP hD hS 1 0 rfl rfl hh22 dPr_alter_189 (fun H locs hP hD hS => ?_)
    have hP : va_P (dC, dI) vwCl [(h0, ce_Pr h0_given h0_others (u.1.1, r20)), (h0_given_cells, .inl (c0_given_cells, 8, .inl (upd u.2.2.1 r20.toNatClampNeg u.1.1))), (h0_others, .inl (c0_others, 3, .inr (.inl u.2.2.2))), (h0_given, ce_Ma h0_given_cells h0_given_tree u21)] H := hP
    have hD : va_D A [(h0, ce_Pr h0_given h0_others (u.1.1, r20)), (h0_given_cells, .inl (c0_given_cells, 8, .inl (upd u.2.2.1 r20.toNatClampNeg u.1.1))), (h0_others, .inl (c0_others, 3, .inr (.inl u.2.2.2))), (h0_given, ce_Ma h0_given_cells h0_given_tree u21)] := hD
    have hP9 := hP.sub (ws' := [(h0, ce_Pr h0_given h0_others (u.1.1, r20)), (h0_given, ce_Ma h0_given_cells h0_given_tree u21), (h0_given_cells, .inl (c0_given_cells, 8, .inl (upd u.2.2.1 r20.toNatClampNeg u.1.1))), (h0_others, .inl (c0_others, 3, .inr (.inl u.2.2.2)))]) [0, 3, 1, 2] rfl
    have hD9 := hD.sub (ws' := [(h0, ce_Pr h0_given h0_others (u.1.1, r20)), (h0_given, ce_Ma h0_given_cells h0_given_tree u21), (h0_given_cells, .inl (c0_given_cells, 8, .inl (upd u.2.2.1 r20.toNatClampNeg u.1.1))), (h0_others, .inl (c0_others, 3, .inr (.inl u.2.2.2)))]) [0, 3, 1, 2] (by decide) rfl
    have hK9 := hK.sub (tys' := [(c0_given_cells, .int), (c0_others, .long)]) [0, 1] rfl
    exact W.vret hx hb hr (fun t ht hW => ⟨⟨((u.1.1, r20), u21, (upd u.2.2.1 r20.toNatClampNeg u.1.1), u.2.2.2), rfl, hw, by rw [ht]; exact hP9, va_K.moved hW.alike hK9, hD9⟩, hS.F ht⟩) hS.2.2 dPr_alter_190
  have hw := hw.2 cc18
  by_cases cc23 : k1 = 3
  · have hw := hw.1 cc23
    refine lv_tableIn (off := 75) (tgt := 76) hx hb dPr_alter_1 (by rw [cc23]; decide) (by rw [cc23]; decide) (by rw [cc23]; decide) (by decide) ?_
    refine lv_aload_n hx hb dPr_alter_76 rfl (lv_at hl 0 rfl) ?_
    refine va_get (D := (dC, dI)) (ci := 6) (v := .ref h0_given) (C := "StepCourt$Proof") (T := TPr) (N := 4) hx hb hq inPr hown hK hP 0 rfl rfl 0 (by decide) (hq _ wt_137) (fun _ h9 => h9) rfl dPr_alter_77 ?_
    refine lv_dup hx hb dPr_alter_80 rfl ?_
    refine va_getN (D := (dC, dI)) (ci := 4) (v := .int u.2.1.2.2.1) (C := "StepCourt$Machine") (T := TMa) (N := 8) hx hb hq inMa hown hK hP 1 rfl rfl 4 (by decide) (va_Nw.use rfl (hZ.1 _ zt_76)) (fun _ h9 => h9) rfl dPr_alter_81 ?_
    refine lv_iload_n hx hb dPr_alter_84 rfl (lv_at hl 2 rfl) ?_
    refine lv_ixor hx hb dPr_alter_85 ?_
    refine lv_topi (fun f24 ef24 => ?_)
    have hw := hw f24 ef24
    refine va_putN (D := (dC, dI)) (ci := 4) (v := .int f24) (ty := .int) (C := "StepCourt$Machine") (T := TMa) (N := 8) hx hb hq inMa tyMa tyMa_ok nmMa hown hK hP hD hS 1 rfl rfl 4 (by decide) (va_Nw.use rfl (hZ.1 _ zt_76)) (fun _ h9 => h9) rfl (by decide +kernel) rfl rfl (Nat.le_of_ble_eq_true rfl) dPr_alter_86 (fun H locs hP hD hS => ?_)
    have hP : va_P (dC, dI) vwCl [(h0, ce_Pr h0_given h0_others u.1), (h0_given, ce_Ma h0_given_cells h0_given_tree (u.2.1.1, u.2.1.2.1, f24, u.2.1.2.2.2.1, u.2.1.2.2.2.2.1, u.2.1.2.2.2.2.2)), (h0_given_cells, .inl (c0_given_cells, 8, .inl u.2.2.1)), (h0_others, .inl (c0_others, 3, .inr (.inl u.2.2.2)))] H := hP
    have hD : va_D A [(h0, ce_Pr h0_given h0_others u.1), (h0_given, ce_Ma h0_given_cells h0_given_tree (u.2.1.1, u.2.1.2.1, f24, u.2.1.2.2.2.1, u.2.1.2.2.2.2.1, u.2.1.2.2.2.2.2)), (h0_given_cells, .inl (c0_given_cells, 8, .inl u.2.2.1)), (h0_others, .inl (c0_others, 3, .inr (.inl u.2.2.2)))] := hD
    refine lv_goto (tgt := 163) hx hb dPr_alter_89 (by decide) ?_
    refine lv_aload_n hx hb dPr_alter_163 rfl (lv_at hl 0 rfl) ?_
    refine lv_aload_n hx hb dPr_alter_164 rfl (lv_at hl 0 rfl) ?_
    refine va_get (D := (dC, dI)) (ci := 6) (v := .ref h0_given) (C := "StepCourt$Proof") (T := TPr) (N := 4) hx hb hq inPr hown hK hP 0 rfl rfl 0 (by decide) (hq _ wt_137) (fun _ h9 => h9) rfl dPr_alter_165 ?_
    have hPc := hP.sub (ws' := [(h0_given, ce_Ma h0_given_cells h0_given_tree (u.2.1.1, u.2.1.2.1, f24, u.2.1.2.2.2.1, u.2.1.2.2.2.2.1, u.2.1.2.2.2.2.2))]) [1] rfl
    have hDc := hD.sub (ws' := [(h0_given, ce_Ma h0_given_cells h0_given_tree (u.2.1.1, u.2.1.2.1, f24, u.2.1.2.2.2.1, u.2.1.2.2.2.2.1, u.2.1.2.2.2.2.2))]) [1] (by decide) rfl
    have hKc := hK.sub (tys' := []) [] rfl
    have hFc := va_free (wc := [(h0_given, ce_Ma h0_given_cells h0_given_tree (u.2.1.1, u.2.1.2.1, f24, u.2.1.2.2.2.1, u.2.1.2.2.2.2.1, u.2.1.2.2.2.2.2))]) hD hS hA [1] rfl
    refine va_calli (va_runV (As := []) (rest := [.ref h0]) ⟨hx, hb, hml, hown, hq⟩ (mt_Ma_cellPlace l dC dI h0_given h0_given_cells h0_given_tree H.size _ (u.2.1.1, u.2.1.2.1, f24, u.2.1.2.2.2.1, u.2.1.2.2.2.2.1, u.2.1.2.2.2.2.2) hw) ⟨cq_B 0 hq wt_352 wt_667 wt_4 rfl rfl hd_Ma_cellPlace ⟨Nat.le_of_ble_eq_true rfl, Nat.le_of_ble_eq_true rfl⟩, (hq _ wt_350), (hq _ wt_351)⟩ ⟨kp_bl, va_recv hKc hPc (ci := 4) (q0 := 0) rfl rfl, kp_at hPc hKc hDc hZ⟩ rfl rfl hl.1 rfl (lv_room (Nat.le_of_ble_eq_true rfl)) dPr_alter_168 ⟨(by decide), (by decide)⟩) hS (fun q _ h => hFc q h) hFc (fun r25 u26 t H1 locs ht hvm hw hB hz1 hk1 hS => ?_)
    obtain ⟨hP1, hK1, hD1⟩ := hB
    rw [ht] at hP1
    have hK1 := va_K.moved hvm.symm hK1
    obtain ⟨hP, hD⟩ := va_join (wr := [(h0, ce_Pr h0_given h0_others u.1), (h0_given_cells, .inl (c0_given_cells, 8, .inl u.2.2.1)), (h0_others, .inl (c0_others, 3, .inr (.inl u.2.2.2)))]) (w1 := [(h0_given, ce_Ma h0_given_cells h0_given_tree u26)]) hP hD [1] [0, 2, 3] rfl rfl (by decide) (by decide) hk1 hFc hP1 hD1
    have hK := (hK.sub (tys' := [(c0_given_cells, .int), (c0_others, .long)]) [0, 1] rfl).app hK1
    generalize H1 = H at hP hS ⊢
    have hP : va_P (dC, dI) vwCl [(h0, ce_Pr h0_given h0_others u.1), (h0_given_cells, .inl (c0_given_cells, 8, .inl u.2.2.1)), (h0_others, .inl (c0_others, 3, .inr (.inl u.2.2.2))), (h0_given, ce_Ma h0_given_cells h0_given_tree u26)] H := hP
    have hD : va_D A [(h0, ce_Pr h0_given h0_others u.1), (h0_given_cells, .inl (c0_given_cells, 8, .inl u.2.2.1)), (h0_others, .inl (c0_others, 3, .inr (.inl u.2.2.2))), (h0_given, ce_Ma h0_given_cells h0_given_tree u26)] := hD
    have hK : va_K (dC, dI) vwCl [(c0_given_cells, .int), (c0_others, .long)] s := hK
    refine va_put (D := (dC, dI)) (ci := 6) (v := .int r25) (ty := .int) (C := "StepCourt$Proof") (T := TPr) (N := 4) hx hb hq inPr tyPr tyPr_ok nmPr hown hK hP hD hS 0 rfl rfl 3 (by decide) (hq _ wt_141) (fun _ h9 => h9) rfl (by decide +kernel) rfl rfl (Nat.le_of_ble_eq_true rfl) dPr_alter_171 (fun H locs hP hD hS => ?_)
    have hP : va_P (dC, dI) vwCl [(h0, ce_Pr h0_given h0_others (u.1.1, r25)), (h0_given_cells, .inl (c0_given_cells, 8, .inl u.2.2.1)), (h0_others, .inl (c0_others, 3, .inr (.inl u.2.2.2))), (h0_given, ce_Ma h0_given_cells h0_given_tree u26)] H := hP
    have hD : va_D A [(h0, ce_Pr h0_given h0_others (u.1.1, r25)), (h0_given_cells, .inl (c0_given_cells, 8, .inl u.2.2.1)), (h0_others, .inl (c0_others, 3, .inr (.inl u.2.2.2))), (h0_given, ce_Ma h0_given_cells h0_given_tree u26)] := hD
    refine lv_aload_n hx hb dPr_alter_174 rfl (lv_at hl 0 rfl) ?_
    refine va_get (D := (dC, dI)) (ci := 6) (v := .ref h0_given) (C := "StepCourt$Proof") (T := TPr) (N := 4) hx hb hq inPr hown hK hP 0 rfl rfl 0 (by decide) (hq _ wt_137) (fun _ h9 => h9) rfl dPr_alter_175 ?_
    refine va_getN (D := (dC, dI)) (ci := 4) (v := .ref h0_given_cells) (C := "StepCourt$Machine") (T := TMa) (N := 8) hx hb hq inMa hown hK hP 3 rfl rfl 0 (by decide) (va_Nw.use rfl (hZ.1 _ zt_66)) (fun _ h9 => h9) rfl dPr_alter_178 ?_
    refine lv_aload_n hx hb dPr_alter_181 rfl (lv_at hl 0 rfl) ?_
    refine va_get (D := (dC, dI)) (ci := 6) (v := .int r25) (C := "StepCourt$Proof") (T := TPr) (N := 4) hx hb hq inPr hown hK hP 0 rfl rfl 3 (by decide) (hq _ wt_141) (fun _ h9 => h9) rfl dPr_alter_182 ?_
    refine lv_aload_n hx hb dPr_alter_185 rfl (lv_at hl 0 rfl) ?_
    refine va_get (D := (dC, dI)) (ci := 6) (v := .int u.1.1) (C := "StepCourt$Proof") (T := TPr) (N := 4) hx hb hq inPr hown hK hP 0 rfl rfl 2 (by decide) (hq _ wt_140) (fun _ h9 => h9) rfl dPr_alter_186 ?_
    obtain ⟨hh27, hw⟩ := hw
    refine va_iast hx hb hK hP hD hS 1 0 rfl rfl hh27 dPr_alter_189 (fun H locs hP hD hS => ?_)
    have hP : va_P (dC, dI) vwCl [(h0, ce_Pr h0_given h0_others (u.1.1, r25)), (h0_given_cells, .inl (c0_given_cells, 8, .inl (upd u.2.2.1 r25.toNatClampNeg u.1.1))), (h0_others, .inl (c0_others, 3, .inr (.inl u.2.2.2))), (h0_given, ce_Ma h0_given_cells h0_given_tree u26)] H := hP
    have hD : va_D A [(h0, ce_Pr h0_given h0_others (u.1.1, r25)), (h0_given_cells, .inl (c0_given_cells, 8, .inl (upd u.2.2.1 r25.toNatClampNeg u.1.1))), (h0_others, .inl (c0_others, 3, .inr (.inl u.2.2.2))), (h0_given, ce_Ma h0_given_cells h0_given_tree u26)] := hD
    have hP9 := hP.sub (ws' := [(h0, ce_Pr h0_given h0_others (u.1.1, r25)), (h0_given, ce_Ma h0_given_cells h0_given_tree u26), (h0_given_cells, .inl (c0_given_cells, 8, .inl (upd u.2.2.1 r25.toNatClampNeg u.1.1))), (h0_others, .inl (c0_others, 3, .inr (.inl u.2.2.2)))]) [0, 3, 1, 2] rfl
    have hD9 := hD.sub (ws' := [(h0, ce_Pr h0_given h0_others (u.1.1, r25)), (h0_given, ce_Ma h0_given_cells h0_given_tree u26), (h0_given_cells, .inl (c0_given_cells, 8, .inl (upd u.2.2.1 r25.toNatClampNeg u.1.1))), (h0_others, .inl (c0_others, 3, .inr (.inl u.2.2.2)))]) [0, 3, 1, 2] (by decide) rfl
    have hK9 := hK.sub (tys' := [(c0_given_cells, .int), (c0_others, .long)]) [0, 1] rfl
    exact W.vret hx hb hr (fun t ht hW => ⟨⟨((u.1.1, r25), u26, (upd u.2.2.1 r25.toNatClampNeg u.1.1), u.2.2.2), rfl, hw, by rw [ht]; exact hP9, va_K.moved hW.alike hK9, hD9⟩, hS.F ht⟩) hS.2.2 dPr_alter_190
  have hw := hw.2 cc23
  by_cases cc28 : k1 = 4
  · have hw := hw.1 cc28
    refine lv_tableIn (off := 91) (tgt := 92) hx hb dPr_alter_1 (by rw [cc28]; decide) (by rw [cc28]; decide) (by rw [cc28]; decide) (by decide) ?_
    refine lv_aload_n hx hb dPr_alter_92 rfl (lv_at hl 0 rfl) ?_
    refine va_get (D := (dC, dI)) (ci := 6) (v := .ref h0_given) (C := "StepCourt$Proof") (T := TPr) (N := 4) hx hb hq inPr hown hK hP 0 rfl rfl 0 (by decide) (hq _ wt_137) (fun _ h9 => h9) rfl dPr_alter_93 ?_
    refine lv_dup hx hb dPr_alter_96 rfl ?_
    refine va_getN (D := (dC, dI)) (ci := 4) (v := .int u.2.1.2.2.2.1) (C := "StepCourt$Machine") (T := TMa) (N := 8) hx hb hq inMa hown hK hP 1 rfl rfl 5 (by decide) (va_Nw.use rfl (hZ.1 _ zt_79)) (fun _ h9 => h9) rfl dPr_alter_97 ?_
    refine lv_iload_n hx hb dPr_alter_100 rfl (lv_at hl 2 rfl) ?_
    refine lv_ixor hx hb dPr_alter_101 ?_
    refine lv_topi (fun f29 ef29 => ?_)
    have hw := hw f29 ef29
    refine va_putN (D := (dC, dI)) (ci := 4) (v := .int f29) (ty := .int) (C := "StepCourt$Machine") (T := TMa) (N := 8) hx hb hq inMa tyMa tyMa_ok nmMa hown hK hP hD hS 1 rfl rfl 5 (by decide) (va_Nw.use rfl (hZ.1 _ zt_79)) (fun _ h9 => h9) rfl (by decide +kernel) rfl rfl (Nat.le_of_ble_eq_true rfl) dPr_alter_102 (fun H locs hP hD hS => ?_)
    have hP : va_P (dC, dI) vwCl [(h0, ce_Pr h0_given h0_others u.1), (h0_given, ce_Ma h0_given_cells h0_given_tree (u.2.1.1, u.2.1.2.1, u.2.1.2.2.1, f29, u.2.1.2.2.2.2.1, u.2.1.2.2.2.2.2)), (h0_given_cells, .inl (c0_given_cells, 8, .inl u.2.2.1)), (h0_others, .inl (c0_others, 3, .inr (.inl u.2.2.2)))] H := hP
    have hD : va_D A [(h0, ce_Pr h0_given h0_others u.1), (h0_given, ce_Ma h0_given_cells h0_given_tree (u.2.1.1, u.2.1.2.1, u.2.1.2.2.1, f29, u.2.1.2.2.2.2.1, u.2.1.2.2.2.2.2)), (h0_given_cells, .inl (c0_given_cells, 8, .inl u.2.2.1)), (h0_others, .inl (c0_others, 3, .inr (.inl u.2.2.2)))] := hD
    refine lv_goto (tgt := 163) hx hb dPr_alter_105 (by decide) ?_
    refine lv_aload_n hx hb dPr_alter_163 rfl (lv_at hl 0 rfl) ?_
    refine lv_aload_n hx hb dPr_alter_164 rfl (lv_at hl 0 rfl) ?_
    refine va_get (D := (dC, dI)) (ci := 6) (v := .ref h0_given) (C := "StepCourt$Proof") (T := TPr) (N := 4) hx hb hq inPr hown hK hP 0 rfl rfl 0 (by decide) (hq _ wt_137) (fun _ h9 => h9) rfl dPr_alter_165 ?_
    have hPc := hP.sub (ws' := [(h0_given, ce_Ma h0_given_cells h0_given_tree (u.2.1.1, u.2.1.2.1, u.2.1.2.2.1, f29, u.2.1.2.2.2.2.1, u.2.1.2.2.2.2.2))]) [1] rfl
    have hDc := hD.sub (ws' := [(h0_given, ce_Ma h0_given_cells h0_given_tree (u.2.1.1, u.2.1.2.1, u.2.1.2.2.1, f29, u.2.1.2.2.2.2.1, u.2.1.2.2.2.2.2))]) [1] (by decide) rfl
    have hKc := hK.sub (tys' := []) [] rfl
    have hFc := va_free (wc := [(h0_given, ce_Ma h0_given_cells h0_given_tree (u.2.1.1, u.2.1.2.1, u.2.1.2.2.1, f29, u.2.1.2.2.2.2.1, u.2.1.2.2.2.2.2))]) hD hS hA [1] rfl
    refine va_calli (va_runV (As := []) (rest := [.ref h0]) ⟨hx, hb, hml, hown, hq⟩ (mt_Ma_cellPlace l dC dI h0_given h0_given_cells h0_given_tree H.size _ (u.2.1.1, u.2.1.2.1, u.2.1.2.2.1, f29, u.2.1.2.2.2.2.1, u.2.1.2.2.2.2.2) hw) ⟨cq_B 0 hq wt_352 wt_667 wt_4 rfl rfl hd_Ma_cellPlace ⟨Nat.le_of_ble_eq_true rfl, Nat.le_of_ble_eq_true rfl⟩, (hq _ wt_350), (hq _ wt_351)⟩ ⟨kp_bl, va_recv hKc hPc (ci := 4) (q0 := 0) rfl rfl, kp_at hPc hKc hDc hZ⟩ rfl rfl hl.1 rfl (lv_room (Nat.le_of_ble_eq_true rfl)) dPr_alter_168 ⟨(by decide), (by decide)⟩) hS (fun q _ h => hFc q h) hFc (fun r30 u31 t H1 locs ht hvm hw hB hz1 hk1 hS => ?_)
    obtain ⟨hP1, hK1, hD1⟩ := hB
    rw [ht] at hP1
    have hK1 := va_K.moved hvm.symm hK1
    obtain ⟨hP, hD⟩ := va_join (wr := [(h0, ce_Pr h0_given h0_others u.1), (h0_given_cells, .inl (c0_given_cells, 8, .inl u.2.2.1)), (h0_others, .inl (c0_others, 3, .inr (.inl u.2.2.2)))]) (w1 := [(h0_given, ce_Ma h0_given_cells h0_given_tree u31)]) hP hD [1] [0, 2, 3] rfl rfl (by decide) (by decide) hk1 hFc hP1 hD1
    have hK := (hK.sub (tys' := [(c0_given_cells, .int), (c0_others, .long)]) [0, 1] rfl).app hK1
    generalize H1 = H at hP hS ⊢
    have hP : va_P (dC, dI) vwCl [(h0, ce_Pr h0_given h0_others u.1), (h0_given_cells, .inl (c0_given_cells, 8, .inl u.2.2.1)), (h0_others, .inl (c0_others, 3, .inr (.inl u.2.2.2))), (h0_given, ce_Ma h0_given_cells h0_given_tree u31)] H := hP
    have hD : va_D A [(h0, ce_Pr h0_given h0_others u.1), (h0_given_cells, .inl (c0_given_cells, 8, .inl u.2.2.1)), (h0_others, .inl (c0_others, 3, .inr (.inl u.2.2.2))), (h0_given, ce_Ma h0_given_cells h0_given_tree u31)] := hD
    have hK : va_K (dC, dI) vwCl [(c0_given_cells, .int), (c0_others, .long)] s := hK
    refine va_put (D := (dC, dI)) (ci := 6) (v := .int r30) (ty := .int) (C := "StepCourt$Proof") (T := TPr) (N := 4) hx hb hq inPr tyPr tyPr_ok nmPr hown hK hP hD hS 0 rfl rfl 3 (by decide) (hq _ wt_141) (fun _ h9 => h9) rfl (by decide +kernel) rfl rfl (Nat.le_of_ble_eq_true rfl) dPr_alter_171 (fun H locs hP hD hS => ?_)
    have hP : va_P (dC, dI) vwCl [(h0, ce_Pr h0_given h0_others (u.1.1, r30)), (h0_given_cells, .inl (c0_given_cells, 8, .inl u.2.2.1)), (h0_others, .inl (c0_others, 3, .inr (.inl u.2.2.2))), (h0_given, ce_Ma h0_given_cells h0_given_tree u31)] H := hP
    have hD : va_D A [(h0, ce_Pr h0_given h0_others (u.1.1, r30)), (h0_given_cells, .inl (c0_given_cells, 8, .inl u.2.2.1)), (h0_others, .inl (c0_others, 3, .inr (.inl u.2.2.2))), (h0_given, ce_Ma h0_given_cells h0_given_tree u31)] := hD
    refine lv_aload_n hx hb dPr_alter_174 rfl (lv_at hl 0 rfl) ?_
    refine va_get (D := (dC, dI)) (ci := 6) (v := .ref h0_given) (C := "StepCourt$Proof") (T := TPr) (N := 4) hx hb hq inPr hown hK hP 0 rfl rfl 0 (by decide) (hq _ wt_137) (fun _ h9 => h9) rfl dPr_alter_175 ?_
    refine va_getN (D := (dC, dI)) (ci := 4) (v := .ref h0_given_cells) (C := "StepCourt$Machine") (T := TMa) (N := 8) hx hb hq inMa hown hK hP 3 rfl rfl 0 (by decide) (va_Nw.use rfl (hZ.1 _ zt_66)) (fun _ h9 => h9) rfl dPr_alter_178 ?_
    refine lv_aload_n hx hb dPr_alter_181 rfl (lv_at hl 0 rfl) ?_
    refine va_get (D := (dC, dI)) (ci := 6) (v := .int r30) (C := "StepCourt$Proof") (T := TPr) (N := 4) hx hb hq inPr hown hK hP 0 rfl rfl 3 (by decide) (hq _ wt_141) (fun _ h9 => h9) rfl dPr_alter_182 ?_
    refine lv_aload_n hx hb dPr_alter_185 rfl (lv_at hl 0 rfl) ?_
    refine va_get (D := (dC, dI)) (ci := 6) (v := .int u.1.1) (C := "StepCourt$Proof") (T := TPr) (N := 4) hx hb hq inPr hown hK hP 0 rfl rfl 2 (by decide) (hq _ wt_140) (fun _ h9 => h9) rfl dPr_alter_186 ?_
    obtain ⟨hh32, hw⟩ := hw
    refine va_iast hx hb hK hP hD hS 1 0 rfl rfl hh32 dPr_alter_189 (fun H locs hP hD hS => ?_)
    have hP : va_P (dC, dI) vwCl [(h0, ce_Pr h0_given h0_others (u.1.1, r30)), (h0_given_cells, .inl (c0_given_cells, 8, .inl (upd u.2.2.1 r30.toNatClampNeg u.1.1))), (h0_others, .inl (c0_others, 3, .inr (.inl u.2.2.2))), (h0_given, ce_Ma h0_given_cells h0_given_tree u31)] H := hP
    have hD : va_D A [(h0, ce_Pr h0_given h0_others (u.1.1, r30)), (h0_given_cells, .inl (c0_given_cells, 8, .inl (upd u.2.2.1 r30.toNatClampNeg u.1.1))), (h0_others, .inl (c0_others, 3, .inr (.inl u.2.2.2))), (h0_given, ce_Ma h0_given_cells h0_given_tree u31)] := hD
    have hP9 := hP.sub (ws' := [(h0, ce_Pr h0_given h0_others (u.1.1, r30)), (h0_given, ce_Ma h0_given_cells h0_given_tree u31), (h0_given_cells, .inl (c0_given_cells, 8, .inl (upd u.2.2.1 r30.toNatClampNeg u.1.1))), (h0_others, .inl (c0_others, 3, .inr (.inl u.2.2.2)))]) [0, 3, 1, 2] rfl
    have hD9 := hD.sub (ws' := [(h0, ce_Pr h0_given h0_others (u.1.1, r30)), (h0_given, ce_Ma h0_given_cells h0_given_tree u31), (h0_given_cells, .inl (c0_given_cells, 8, .inl (upd u.2.2.1 r30.toNatClampNeg u.1.1))), (h0_others, .inl (c0_others, 3, .inr (.inl u.2.2.2)))]) [0, 3, 1, 2] (by decide) rfl
    have hK9 := hK.sub (tys' := [(c0_given_cells, .int), (c0_others, .long)]) [0, 1] rfl
    exact W.vret hx hb hr (fun t ht hW => ⟨⟨((u.1.1, r30), u31, (upd u.2.2.1 r30.toNatClampNeg u.1.1), u.2.2.2), rfl, hw, by rw [ht]; exact hP9, va_K.moved hW.alike hK9, hD9⟩, hS.F ht⟩) hS.2.2 dPr_alter_190
  have hw := hw.2 cc28
  by_cases cc33 : k1 = 5
  · have hw := hw.1 cc33
    refine lv_tableIn (off := 107) (tgt := 108) hx hb dPr_alter_1 (by rw [cc33]; decide) (by rw [cc33]; decide) (by rw [cc33]; decide) (by decide) ?_
    refine lv_aload_n hx hb dPr_alter_108 rfl (lv_at hl 0 rfl) ?_
    refine va_get (D := (dC, dI)) (ci := 6) (v := .ref h0_given) (C := "StepCourt$Proof") (T := TPr) (N := 4) hx hb hq inPr hown hK hP 0 rfl rfl 0 (by decide) (hq _ wt_137) (fun _ h9 => h9) rfl dPr_alter_109 ?_
    refine lv_dup hx hb dPr_alter_112 rfl ?_
    refine va_getN (D := (dC, dI)) (ci := 4) (v := .int u.2.1.2.2.2.2.1) (C := "StepCourt$Machine") (T := TMa) (N := 8) hx hb hq inMa hown hK hP 1 rfl rfl 6 (by decide) (va_Nw.use rfl (hZ.1 _ zt_82)) (fun _ h9 => h9) rfl dPr_alter_113 ?_
    refine lv_iload_n hx hb dPr_alter_116 rfl (lv_at hl 2 rfl) ?_
    refine lv_ixor hx hb dPr_alter_117 ?_
    refine lv_topi (fun f34 ef34 => ?_)
    have hw := hw f34 ef34
    refine va_putN (D := (dC, dI)) (ci := 4) (v := .int f34) (ty := .int) (C := "StepCourt$Machine") (T := TMa) (N := 8) hx hb hq inMa tyMa tyMa_ok nmMa hown hK hP hD hS 1 rfl rfl 6 (by decide) (va_Nw.use rfl (hZ.1 _ zt_82)) (fun _ h9 => h9) rfl (by decide +kernel) rfl rfl (Nat.le_of_ble_eq_true rfl) dPr_alter_118 (fun H locs hP hD hS => ?_)
    have hP : va_P (dC, dI) vwCl [(h0, ce_Pr h0_given h0_others u.1), (h0_given, ce_Ma h0_given_cells h0_given_tree (u.2.1.1, u.2.1.2.1, u.2.1.2.2.1, u.2.1.2.2.2.1, f34, u.2.1.2.2.2.2.2)), (h0_given_cells, .inl (c0_given_cells, 8, .inl u.2.2.1)), (h0_others, .inl (c0_others, 3, .inr (.inl u.2.2.2)))] H := hP
    have hD : va_D A [(h0, ce_Pr h0_given h0_others u.1), (h0_given, ce_Ma h0_given_cells h0_given_tree (u.2.1.1, u.2.1.2.1, u.2.1.2.2.1, u.2.1.2.2.2.1, f34, u.2.1.2.2.2.2.2)), (h0_given_cells, .inl (c0_given_cells, 8, .inl u.2.2.1)), (h0_others, .inl (c0_others, 3, .inr (.inl u.2.2.2)))] := hD
    refine lv_goto (tgt := 163) hx hb dPr_alter_121 (by decide) ?_
    refine lv_aload_n hx hb dPr_alter_163 rfl (lv_at hl 0 rfl) ?_
    refine lv_aload_n hx hb dPr_alter_164 rfl (lv_at hl 0 rfl) ?_
    refine va_get (D := (dC, dI)) (ci := 6) (v := .ref h0_given) (C := "StepCourt$Proof") (T := TPr) (N := 4) hx hb hq inPr hown hK hP 0 rfl rfl 0 (by decide) (hq _ wt_137) (fun _ h9 => h9) rfl dPr_alter_165 ?_
    have hPc := hP.sub (ws' := [(h0_given, ce_Ma h0_given_cells h0_given_tree (u.2.1.1, u.2.1.2.1, u.2.1.2.2.1, u.2.1.2.2.2.1, f34, u.2.1.2.2.2.2.2))]) [1] rfl
    have hDc := hD.sub (ws' := [(h0_given, ce_Ma h0_given_cells h0_given_tree (u.2.1.1, u.2.1.2.1, u.2.1.2.2.1, u.2.1.2.2.2.1, f34, u.2.1.2.2.2.2.2))]) [1] (by decide) rfl
    have hKc := hK.sub (tys' := []) [] rfl
    have hFc := va_free (wc := [(h0_given, ce_Ma h0_given_cells h0_given_tree (u.2.1.1, u.2.1.2.1, u.2.1.2.2.1, u.2.1.2.2.2.1, f34, u.2.1.2.2.2.2.2))]) hD hS hA [1] rfl
    refine va_calli (va_runV (As := []) (rest := [.ref h0]) ⟨hx, hb, hml, hown, hq⟩ (mt_Ma_cellPlace l dC dI h0_given h0_given_cells h0_given_tree H.size _ (u.2.1.1, u.2.1.2.1, u.2.1.2.2.1, u.2.1.2.2.2.1, f34, u.2.1.2.2.2.2.2) hw) ⟨cq_B 0 hq wt_352 wt_667 wt_4 rfl rfl hd_Ma_cellPlace ⟨Nat.le_of_ble_eq_true rfl, Nat.le_of_ble_eq_true rfl⟩, (hq _ wt_350), (hq _ wt_351)⟩ ⟨kp_bl, va_recv hKc hPc (ci := 4) (q0 := 0) rfl rfl, kp_at hPc hKc hDc hZ⟩ rfl rfl hl.1 rfl (lv_room (Nat.le_of_ble_eq_true rfl)) dPr_alter_168 ⟨(by decide), (by decide)⟩) hS (fun q _ h => hFc q h) hFc (fun r35 u36 t H1 locs ht hvm hw hB hz1 hk1 hS => ?_)
    obtain ⟨hP1, hK1, hD1⟩ := hB
    rw [ht] at hP1
    have hK1 := va_K.moved hvm.symm hK1
    obtain ⟨hP, hD⟩ := va_join (wr := [(h0, ce_Pr h0_given h0_others u.1), (h0_given_cells, .inl (c0_given_cells, 8, .inl u.2.2.1)), (h0_others, .inl (c0_others, 3, .inr (.inl u.2.2.2)))]) (w1 := [(h0_given, ce_Ma h0_given_cells h0_given_tree u36)]) hP hD [1] [0, 2, 3] rfl rfl (by decide) (by decide) hk1 hFc hP1 hD1
    have hK := (hK.sub (tys' := [(c0_given_cells, .int), (c0_others, .long)]) [0, 1] rfl).app hK1
    generalize H1 = H at hP hS ⊢
    have hP : va_P (dC, dI) vwCl [(h0, ce_Pr h0_given h0_others u.1), (h0_given_cells, .inl (c0_given_cells, 8, .inl u.2.2.1)), (h0_others, .inl (c0_others, 3, .inr (.inl u.2.2.2))), (h0_given, ce_Ma h0_given_cells h0_given_tree u36)] H := hP
    have hD : va_D A [(h0, ce_Pr h0_given h0_others u.1), (h0_given_cells, .inl (c0_given_cells, 8, .inl u.2.2.1)), (h0_others, .inl (c0_others, 3, .inr (.inl u.2.2.2))), (h0_given, ce_Ma h0_given_cells h0_given_tree u36)] := hD
    have hK : va_K (dC, dI) vwCl [(c0_given_cells, .int), (c0_others, .long)] s := hK
    refine va_put (D := (dC, dI)) (ci := 6) (v := .int r35) (ty := .int) (C := "StepCourt$Proof") (T := TPr) (N := 4) hx hb hq inPr tyPr tyPr_ok nmPr hown hK hP hD hS 0 rfl rfl 3 (by decide) (hq _ wt_141) (fun _ h9 => h9) rfl (by decide +kernel) rfl rfl (Nat.le_of_ble_eq_true rfl) dPr_alter_171 (fun H locs hP hD hS => ?_)
    have hP : va_P (dC, dI) vwCl [(h0, ce_Pr h0_given h0_others (u.1.1, r35)), (h0_given_cells, .inl (c0_given_cells, 8, .inl u.2.2.1)), (h0_others, .inl (c0_others, 3, .inr (.inl u.2.2.2))), (h0_given, ce_Ma h0_given_cells h0_given_tree u36)] H := hP
    have hD : va_D A [(h0, ce_Pr h0_given h0_others (u.1.1, r35)), (h0_given_cells, .inl (c0_given_cells, 8, .inl u.2.2.1)), (h0_others, .inl (c0_others, 3, .inr (.inl u.2.2.2))), (h0_given, ce_Ma h0_given_cells h0_given_tree u36)] := hD
    refine lv_aload_n hx hb dPr_alter_174 rfl (lv_at hl 0 rfl) ?_
    refine va_get (D := (dC, dI)) (ci := 6) (v := .ref h0_given) (C := "StepCourt$Proof") (T := TPr) (N := 4) hx hb hq inPr hown hK hP 0 rfl rfl 0 (by decide) (hq _ wt_137) (fun _ h9 => h9) rfl dPr_alter_175 ?_
    refine va_getN (D := (dC, dI)) (ci := 4) (v := .ref h0_given_cells) (C := "StepCourt$Machine") (T := TMa) (N := 8) hx hb hq inMa hown hK hP 3 rfl rfl 0 (by decide) (va_Nw.use rfl (hZ.1 _ zt_66)) (fun _ h9 => h9) rfl dPr_alter_178 ?_
    refine lv_aload_n hx hb dPr_alter_181 rfl (lv_at hl 0 rfl) ?_
    refine va_get (D := (dC, dI)) (ci := 6) (v := .int r35) (C := "StepCourt$Proof") (T := TPr) (N := 4) hx hb hq inPr hown hK hP 0 rfl rfl 3 (by decide) (hq _ wt_141) (fun _ h9 => h9) rfl dPr_alter_182 ?_
    refine lv_aload_n hx hb dPr_alter_185 rfl (lv_at hl 0 rfl) ?_
    refine va_get (D := (dC, dI)) (ci := 6) (v := .int u.1.1) (C := "StepCourt$Proof") (T := TPr) (N := 4) hx hb hq inPr hown hK hP 0 rfl rfl 2 (by decide) (hq _ wt_140) (fun _ h9 => h9) rfl dPr_alter_186 ?_
    obtain ⟨hh37, hw⟩ := hw
    refine va_iast hx hb hK hP hD hS 1 0 rfl rfl hh37 dPr_alter_189 (fun H locs hP hD hS => ?_)
    have hP : va_P (dC, dI) vwCl [(h0, ce_Pr h0_given h0_others (u.1.1, r35)), (h0_given_cells, .inl (c0_given_cells, 8, .inl (upd u.2.2.1 r35.toNatClampNeg u.1.1))), (h0_others, .inl (c0_others, 3, .inr (.inl u.2.2.2))), (h0_given, ce_Ma h0_given_cells h0_given_tree u36)] H := hP
    have hD : va_D A [(h0, ce_Pr h0_given h0_others (u.1.1, r35)), (h0_given_cells, .inl (c0_given_cells, 8, .inl (upd u.2.2.1 r35.toNatClampNeg u.1.1))), (h0_others, .inl (c0_others, 3, .inr (.inl u.2.2.2))), (h0_given, ce_Ma h0_given_cells h0_given_tree u36)] := hD
    have hP9 := hP.sub (ws' := [(h0, ce_Pr h0_given h0_others (u.1.1, r35)), (h0_given, ce_Ma h0_given_cells h0_given_tree u36), (h0_given_cells, .inl (c0_given_cells, 8, .inl (upd u.2.2.1 r35.toNatClampNeg u.1.1))), (h0_others, .inl (c0_others, 3, .inr (.inl u.2.2.2)))]) [0, 3, 1, 2] rfl
    have hD9 := hD.sub (ws' := [(h0, ce_Pr h0_given h0_others (u.1.1, r35)), (h0_given, ce_Ma h0_given_cells h0_given_tree u36), (h0_given_cells, .inl (c0_given_cells, 8, .inl (upd u.2.2.1 r35.toNatClampNeg u.1.1))), (h0_others, .inl (c0_others, 3, .inr (.inl u.2.2.2)))]) [0, 3, 1, 2] (by decide) rfl
    have hK9 := hK.sub (tys' := [(c0_given_cells, .int), (c0_others, .long)]) [0, 1] rfl
    exact W.vret hx hb hr (fun t ht hW => ⟨⟨((u.1.1, r35), u36, (upd u.2.2.1 r35.toNatClampNeg u.1.1), u.2.2.2), rfl, hw, by rw [ht]; exact hP9, va_K.moved hW.alike hK9, hD9⟩, hS.F ht⟩) hS.2.2 dPr_alter_190
  have hw := hw.2 cc33
  by_cases cc38 : k1 = 6
  · have hw := hw.1 cc38
    refine lv_tableIn (off := 123) (tgt := 124) hx hb dPr_alter_1 (by rw [cc38]; decide) (by rw [cc38]; decide) (by rw [cc38]; decide) (by decide) ?_
    refine lv_aload_n hx hb dPr_alter_124 rfl (lv_at hl 0 rfl) ?_
    refine va_get (D := (dC, dI)) (ci := 6) (v := .ref h0_given) (C := "StepCourt$Proof") (T := TPr) (N := 4) hx hb hq inPr hown hK hP 0 rfl rfl 0 (by decide) (hq _ wt_137) (fun _ h9 => h9) rfl dPr_alter_125 ?_
    refine lv_dup hx hb dPr_alter_128 rfl ?_
    refine va_getN (D := (dC, dI)) (ci := 4) (v := .long u.2.1.2.2.2.2.2) (C := "StepCourt$Machine") (T := TMa) (N := 8) hx hb hq inMa hown hK hP 1 rfl rfl 7 (by decide) (va_Nw.use rfl (hZ.1 _ zt_85)) (fun _ h9 => h9) rfl dPr_alter_129 ?_
    refine lv_iload_n hx hb dPr_alter_132 rfl (lv_at hl 2 rfl) ?_
    refine lv_i2l (v := k2.toInt64) hx hb dPr_alter_133 rfl ?_
    refine lv_lxor hx hb dPr_alter_134 ?_
    refine lv_topl (fun f39 ef39 => ?_)
    have hw := hw f39 ef39
    refine va_putN (D := (dC, dI)) (ci := 4) (v := .long f39) (ty := .long) (C := "StepCourt$Machine") (T := TMa) (N := 8) hx hb hq inMa tyMa tyMa_ok nmMa hown hK hP hD hS 1 rfl rfl 7 (by decide) (va_Nw.use rfl (hZ.1 _ zt_85)) (fun _ h9 => h9) rfl (by decide +kernel) rfl rfl (Nat.le_of_ble_eq_true rfl) dPr_alter_135 (fun H locs hP hD hS => ?_)
    have hP : va_P (dC, dI) vwCl [(h0, ce_Pr h0_given h0_others u.1), (h0_given, ce_Ma h0_given_cells h0_given_tree (u.2.1.1, u.2.1.2.1, u.2.1.2.2.1, u.2.1.2.2.2.1, u.2.1.2.2.2.2.1, f39)), (h0_given_cells, .inl (c0_given_cells, 8, .inl u.2.2.1)), (h0_others, .inl (c0_others, 3, .inr (.inl u.2.2.2)))] H := hP
    have hD : va_D A [(h0, ce_Pr h0_given h0_others u.1), (h0_given, ce_Ma h0_given_cells h0_given_tree (u.2.1.1, u.2.1.2.1, u.2.1.2.2.1, u.2.1.2.2.2.1, u.2.1.2.2.2.2.1, f39)), (h0_given_cells, .inl (c0_given_cells, 8, .inl u.2.2.1)), (h0_others, .inl (c0_others, 3, .inr (.inl u.2.2.2)))] := hD
    refine lv_goto (tgt := 163) hx hb dPr_alter_138 (by decide) ?_
    refine lv_aload_n hx hb dPr_alter_163 rfl (lv_at hl 0 rfl) ?_
    refine lv_aload_n hx hb dPr_alter_164 rfl (lv_at hl 0 rfl) ?_
    refine va_get (D := (dC, dI)) (ci := 6) (v := .ref h0_given) (C := "StepCourt$Proof") (T := TPr) (N := 4) hx hb hq inPr hown hK hP 0 rfl rfl 0 (by decide) (hq _ wt_137) (fun _ h9 => h9) rfl dPr_alter_165 ?_
    have hPc := hP.sub (ws' := [(h0_given, ce_Ma h0_given_cells h0_given_tree (u.2.1.1, u.2.1.2.1, u.2.1.2.2.1, u.2.1.2.2.2.1, u.2.1.2.2.2.2.1, f39))]) [1] rfl
    have hDc := hD.sub (ws' := [(h0_given, ce_Ma h0_given_cells h0_given_tree (u.2.1.1, u.2.1.2.1, u.2.1.2.2.1, u.2.1.2.2.2.1, u.2.1.2.2.2.2.1, f39))]) [1] (by decide) rfl
    have hKc := hK.sub (tys' := []) [] rfl
    have hFc := va_free (wc := [(h0_given, ce_Ma h0_given_cells h0_given_tree (u.2.1.1, u.2.1.2.1, u.2.1.2.2.1, u.2.1.2.2.2.1, u.2.1.2.2.2.2.1, f39))]) hD hS hA [1] rfl
    refine va_calli (va_runV (As := []) (rest := [.ref h0]) ⟨hx, hb, hml, hown, hq⟩ (mt_Ma_cellPlace l dC dI h0_given h0_given_cells h0_given_tree H.size _ (u.2.1.1, u.2.1.2.1, u.2.1.2.2.1, u.2.1.2.2.2.1, u.2.1.2.2.2.2.1, f39) hw) ⟨cq_B 0 hq wt_352 wt_667 wt_4 rfl rfl hd_Ma_cellPlace ⟨Nat.le_of_ble_eq_true rfl, Nat.le_of_ble_eq_true rfl⟩, (hq _ wt_350), (hq _ wt_351)⟩ ⟨kp_bl, va_recv hKc hPc (ci := 4) (q0 := 0) rfl rfl, kp_at hPc hKc hDc hZ⟩ rfl rfl hl.1 rfl (lv_room (Nat.le_of_ble_eq_true rfl)) dPr_alter_168 ⟨(by decide), (by decide)⟩) hS (fun q _ h => hFc q h) hFc (fun r40 u41 t H1 locs ht hvm hw hB hz1 hk1 hS => ?_)
    obtain ⟨hP1, hK1, hD1⟩ := hB
    rw [ht] at hP1
    have hK1 := va_K.moved hvm.symm hK1
    obtain ⟨hP, hD⟩ := va_join (wr := [(h0, ce_Pr h0_given h0_others u.1), (h0_given_cells, .inl (c0_given_cells, 8, .inl u.2.2.1)), (h0_others, .inl (c0_others, 3, .inr (.inl u.2.2.2)))]) (w1 := [(h0_given, ce_Ma h0_given_cells h0_given_tree u41)]) hP hD [1] [0, 2, 3] rfl rfl (by decide) (by decide) hk1 hFc hP1 hD1
    have hK := (hK.sub (tys' := [(c0_given_cells, .int), (c0_others, .long)]) [0, 1] rfl).app hK1
    generalize H1 = H at hP hS ⊢
    have hP : va_P (dC, dI) vwCl [(h0, ce_Pr h0_given h0_others u.1), (h0_given_cells, .inl (c0_given_cells, 8, .inl u.2.2.1)), (h0_others, .inl (c0_others, 3, .inr (.inl u.2.2.2))), (h0_given, ce_Ma h0_given_cells h0_given_tree u41)] H := hP
    have hD : va_D A [(h0, ce_Pr h0_given h0_others u.1), (h0_given_cells, .inl (c0_given_cells, 8, .inl u.2.2.1)), (h0_others, .inl (c0_others, 3, .inr (.inl u.2.2.2))), (h0_given, ce_Ma h0_given_cells h0_given_tree u41)] := hD
    have hK : va_K (dC, dI) vwCl [(c0_given_cells, .int), (c0_others, .long)] s := hK
    refine va_put (D := (dC, dI)) (ci := 6) (v := .int r40) (ty := .int) (C := "StepCourt$Proof") (T := TPr) (N := 4) hx hb hq inPr tyPr tyPr_ok nmPr hown hK hP hD hS 0 rfl rfl 3 (by decide) (hq _ wt_141) (fun _ h9 => h9) rfl (by decide +kernel) rfl rfl (Nat.le_of_ble_eq_true rfl) dPr_alter_171 (fun H locs hP hD hS => ?_)
    have hP : va_P (dC, dI) vwCl [(h0, ce_Pr h0_given h0_others (u.1.1, r40)), (h0_given_cells, .inl (c0_given_cells, 8, .inl u.2.2.1)), (h0_others, .inl (c0_others, 3, .inr (.inl u.2.2.2))), (h0_given, ce_Ma h0_given_cells h0_given_tree u41)] H := hP
    have hD : va_D A [(h0, ce_Pr h0_given h0_others (u.1.1, r40)), (h0_given_cells, .inl (c0_given_cells, 8, .inl u.2.2.1)), (h0_others, .inl (c0_others, 3, .inr (.inl u.2.2.2))), (h0_given, ce_Ma h0_given_cells h0_given_tree u41)] := hD
    refine lv_aload_n hx hb dPr_alter_174 rfl (lv_at hl 0 rfl) ?_
    refine va_get (D := (dC, dI)) (ci := 6) (v := .ref h0_given) (C := "StepCourt$Proof") (T := TPr) (N := 4) hx hb hq inPr hown hK hP 0 rfl rfl 0 (by decide) (hq _ wt_137) (fun _ h9 => h9) rfl dPr_alter_175 ?_
    refine va_getN (D := (dC, dI)) (ci := 4) (v := .ref h0_given_cells) (C := "StepCourt$Machine") (T := TMa) (N := 8) hx hb hq inMa hown hK hP 3 rfl rfl 0 (by decide) (va_Nw.use rfl (hZ.1 _ zt_66)) (fun _ h9 => h9) rfl dPr_alter_178 ?_
    refine lv_aload_n hx hb dPr_alter_181 rfl (lv_at hl 0 rfl) ?_
    refine va_get (D := (dC, dI)) (ci := 6) (v := .int r40) (C := "StepCourt$Proof") (T := TPr) (N := 4) hx hb hq inPr hown hK hP 0 rfl rfl 3 (by decide) (hq _ wt_141) (fun _ h9 => h9) rfl dPr_alter_182 ?_
    refine lv_aload_n hx hb dPr_alter_185 rfl (lv_at hl 0 rfl) ?_
    refine va_get (D := (dC, dI)) (ci := 6) (v := .int u.1.1) (C := "StepCourt$Proof") (T := TPr) (N := 4) hx hb hq inPr hown hK hP 0 rfl rfl 2 (by decide) (hq _ wt_140) (fun _ h9 => h9) rfl dPr_alter_186 ?_
    obtain ⟨hh42, hw⟩ := hw
    refine va_iast hx hb hK hP hD hS 1 0 rfl rfl hh42 dPr_alter_189 (fun H locs hP hD hS => ?_)
    have hP : va_P (dC, dI) vwCl [(h0, ce_Pr h0_given h0_others (u.1.1, r40)), (h0_given_cells, .inl (c0_given_cells, 8, .inl (upd u.2.2.1 r40.toNatClampNeg u.1.1))), (h0_others, .inl (c0_others, 3, .inr (.inl u.2.2.2))), (h0_given, ce_Ma h0_given_cells h0_given_tree u41)] H := hP
    have hD : va_D A [(h0, ce_Pr h0_given h0_others (u.1.1, r40)), (h0_given_cells, .inl (c0_given_cells, 8, .inl (upd u.2.2.1 r40.toNatClampNeg u.1.1))), (h0_others, .inl (c0_others, 3, .inr (.inl u.2.2.2))), (h0_given, ce_Ma h0_given_cells h0_given_tree u41)] := hD
    have hP9 := hP.sub (ws' := [(h0, ce_Pr h0_given h0_others (u.1.1, r40)), (h0_given, ce_Ma h0_given_cells h0_given_tree u41), (h0_given_cells, .inl (c0_given_cells, 8, .inl (upd u.2.2.1 r40.toNatClampNeg u.1.1))), (h0_others, .inl (c0_others, 3, .inr (.inl u.2.2.2)))]) [0, 3, 1, 2] rfl
    have hD9 := hD.sub (ws' := [(h0, ce_Pr h0_given h0_others (u.1.1, r40)), (h0_given, ce_Ma h0_given_cells h0_given_tree u41), (h0_given_cells, .inl (c0_given_cells, 8, .inl (upd u.2.2.1 r40.toNatClampNeg u.1.1))), (h0_others, .inl (c0_others, 3, .inr (.inl u.2.2.2)))]) [0, 3, 1, 2] (by decide) rfl
    have hK9 := hK.sub (tys' := [(c0_given_cells, .int), (c0_others, .long)]) [0, 1] rfl
    exact W.vret hx hb hr (fun t ht hW => ⟨⟨((u.1.1, r40), u41, (upd u.2.2.1 r40.toNatClampNeg u.1.1), u.2.2.2), rfl, hw, by rw [ht]; exact hP9, va_K.moved hW.alike hK9, hD9⟩, hS.F ht⟩) hS.2.2 dPr_alter_190
  have hw := hw.2 cc38
  by_cases cc43 : k1 = 7
  · have hw := hw.1 cc43
    refine lv_tableIn (off := 140) (tgt := 141) hx hb dPr_alter_1 (by rw [cc43]; decide) (by rw [cc43]; decide) (by rw [cc43]; decide) (by decide) ?_
    refine lv_aload_n hx hb dPr_alter_141 rfl (lv_at hl 0 rfl) ?_
    refine lv_dup hx hb dPr_alter_142 rfl ?_
    refine va_get (D := (dC, dI)) (ci := 6) (v := .int u.1.1) (C := "StepCourt$Proof") (T := TPr) (N := 4) hx hb hq inPr hown hK hP 0 rfl rfl 2 (by decide) (hq _ wt_140) (fun _ h9 => h9) rfl dPr_alter_143 ?_
    refine lv_iload_n hx hb dPr_alter_146 rfl (lv_at hl 2 rfl) ?_
    refine lv_ixor hx hb dPr_alter_147 ?_
    refine lv_topi (fun f44 ef44 => ?_)
    have hw := hw f44 ef44
    refine va_put (D := (dC, dI)) (ci := 6) (v := .int f44) (ty := .int) (C := "StepCourt$Proof") (T := TPr) (N := 4) hx hb hq inPr tyPr tyPr_ok nmPr hown hK hP hD hS 0 rfl rfl 2 (by decide) (hq _ wt_140) (fun _ h9 => h9) rfl (by decide +kernel) rfl rfl (Nat.le_of_ble_eq_true rfl) dPr_alter_148 (fun H locs hP hD hS => ?_)
    have hP : va_P (dC, dI) vwCl [(h0, ce_Pr h0_given h0_others (f44, u.1.2)), (h0_given, ce_Ma h0_given_cells h0_given_tree u.2.1), (h0_given_cells, .inl (c0_given_cells, 8, .inl u.2.2.1)), (h0_others, .inl (c0_others, 3, .inr (.inl u.2.2.2)))] H := hP
    have hD : va_D A [(h0, ce_Pr h0_given h0_others (f44, u.1.2)), (h0_given, ce_Ma h0_given_cells h0_given_tree u.2.1), (h0_given_cells, .inl (c0_given_cells, 8, .inl u.2.2.1)), (h0_others, .inl (c0_others, 3, .inr (.inl u.2.2.2)))] := hD
    refine lv_goto (tgt := 163) hx hb dPr_alter_151 (by decide) ?_
    refine lv_aload_n hx hb dPr_alter_163 rfl (lv_at hl 0 rfl) ?_
    refine lv_aload_n hx hb dPr_alter_164 rfl (lv_at hl 0 rfl) ?_
    refine va_get (D := (dC, dI)) (ci := 6) (v := .ref h0_given) (C := "StepCourt$Proof") (T := TPr) (N := 4) hx hb hq inPr hown hK hP 0 rfl rfl 0 (by decide) (hq _ wt_137) (fun _ h9 => h9) rfl dPr_alter_165 ?_
    have hPc := hP.sub (ws' := [(h0_given, ce_Ma h0_given_cells h0_given_tree u.2.1)]) [1] rfl
    have hDc := hD.sub (ws' := [(h0_given, ce_Ma h0_given_cells h0_given_tree u.2.1)]) [1] (by decide) rfl
    have hKc := hK.sub (tys' := []) [] rfl
    have hFc := va_free (wc := [(h0_given, ce_Ma h0_given_cells h0_given_tree u.2.1)]) hD hS hA [1] rfl
    refine va_calli (va_runV (As := []) (rest := [.ref h0]) ⟨hx, hb, hml, hown, hq⟩ (mt_Ma_cellPlace l dC dI h0_given h0_given_cells h0_given_tree H.size _ u.2.1 hw) ⟨cq_B 0 hq wt_352 wt_667 wt_4 rfl rfl hd_Ma_cellPlace ⟨Nat.le_of_ble_eq_true rfl, Nat.le_of_ble_eq_true rfl⟩, (hq _ wt_350), (hq _ wt_351)⟩ ⟨kp_bl, va_recv hKc hPc (ci := 4) (q0 := 0) rfl rfl, kp_at hPc hKc hDc hZ⟩ rfl rfl hl.1 rfl (lv_room (Nat.le_of_ble_eq_true rfl)) dPr_alter_168 ⟨(by decide), (by decide)⟩) hS (fun q _ h => hFc q h) hFc (fun r45 u46 t H1 locs ht hvm hw hB hz1 hk1 hS => ?_)
    obtain ⟨hP1, hK1, hD1⟩ := hB
    rw [ht] at hP1
    have hK1 := va_K.moved hvm.symm hK1
    obtain ⟨hP, hD⟩ := va_join (wr := [(h0, ce_Pr h0_given h0_others (f44, u.1.2)), (h0_given_cells, .inl (c0_given_cells, 8, .inl u.2.2.1)), (h0_others, .inl (c0_others, 3, .inr (.inl u.2.2.2)))]) (w1 := [(h0_given, ce_Ma h0_given_cells h0_given_tree u46)]) hP hD [1] [0, 2, 3] rfl rfl (by decide) (by decide) hk1 hFc hP1 hD1
    have hK := (hK.sub (tys' := [(c0_given_cells, .int), (c0_others, .long)]) [0, 1] rfl).app hK1
    generalize H1 = H at hP hS ⊢
    have hP : va_P (dC, dI) vwCl [(h0, ce_Pr h0_given h0_others (f44, u.1.2)), (h0_given_cells, .inl (c0_given_cells, 8, .inl u.2.2.1)), (h0_others, .inl (c0_others, 3, .inr (.inl u.2.2.2))), (h0_given, ce_Ma h0_given_cells h0_given_tree u46)] H := hP
    have hD : va_D A [(h0, ce_Pr h0_given h0_others (f44, u.1.2)), (h0_given_cells, .inl (c0_given_cells, 8, .inl u.2.2.1)), (h0_others, .inl (c0_others, 3, .inr (.inl u.2.2.2))), (h0_given, ce_Ma h0_given_cells h0_given_tree u46)] := hD
    have hK : va_K (dC, dI) vwCl [(c0_given_cells, .int), (c0_others, .long)] s := hK
    refine va_put (D := (dC, dI)) (ci := 6) (v := .int r45) (ty := .int) (C := "StepCourt$Proof") (T := TPr) (N := 4) hx hb hq inPr tyPr tyPr_ok nmPr hown hK hP hD hS 0 rfl rfl 3 (by decide) (hq _ wt_141) (fun _ h9 => h9) rfl (by decide +kernel) rfl rfl (Nat.le_of_ble_eq_true rfl) dPr_alter_171 (fun H locs hP hD hS => ?_)
    have hP : va_P (dC, dI) vwCl [(h0, ce_Pr h0_given h0_others (f44, r45)), (h0_given_cells, .inl (c0_given_cells, 8, .inl u.2.2.1)), (h0_others, .inl (c0_others, 3, .inr (.inl u.2.2.2))), (h0_given, ce_Ma h0_given_cells h0_given_tree u46)] H := hP
    have hD : va_D A [(h0, ce_Pr h0_given h0_others (f44, r45)), (h0_given_cells, .inl (c0_given_cells, 8, .inl u.2.2.1)), (h0_others, .inl (c0_others, 3, .inr (.inl u.2.2.2))), (h0_given, ce_Ma h0_given_cells h0_given_tree u46)] := hD
    refine lv_aload_n hx hb dPr_alter_174 rfl (lv_at hl 0 rfl) ?_
    refine va_get (D := (dC, dI)) (ci := 6) (v := .ref h0_given) (C := "StepCourt$Proof") (T := TPr) (N := 4) hx hb hq inPr hown hK hP 0 rfl rfl 0 (by decide) (hq _ wt_137) (fun _ h9 => h9) rfl dPr_alter_175 ?_
    refine va_getN (D := (dC, dI)) (ci := 4) (v := .ref h0_given_cells) (C := "StepCourt$Machine") (T := TMa) (N := 8) hx hb hq inMa hown hK hP 3 rfl rfl 0 (by decide) (va_Nw.use rfl (hZ.1 _ zt_66)) (fun _ h9 => h9) rfl dPr_alter_178 ?_
    refine lv_aload_n hx hb dPr_alter_181 rfl (lv_at hl 0 rfl) ?_
    refine va_get (D := (dC, dI)) (ci := 6) (v := .int r45) (C := "StepCourt$Proof") (T := TPr) (N := 4) hx hb hq inPr hown hK hP 0 rfl rfl 3 (by decide) (hq _ wt_141) (fun _ h9 => h9) rfl dPr_alter_182 ?_
    refine lv_aload_n hx hb dPr_alter_185 rfl (lv_at hl 0 rfl) ?_
    refine va_get (D := (dC, dI)) (ci := 6) (v := .int f44) (C := "StepCourt$Proof") (T := TPr) (N := 4) hx hb hq inPr hown hK hP 0 rfl rfl 2 (by decide) (hq _ wt_140) (fun _ h9 => h9) rfl dPr_alter_186 ?_
    obtain ⟨hh47, hw⟩ := hw
    refine va_iast hx hb hK hP hD hS 1 0 rfl rfl hh47 dPr_alter_189 (fun H locs hP hD hS => ?_)
    have hP : va_P (dC, dI) vwCl [(h0, ce_Pr h0_given h0_others (f44, r45)), (h0_given_cells, .inl (c0_given_cells, 8, .inl (upd u.2.2.1 r45.toNatClampNeg f44))), (h0_others, .inl (c0_others, 3, .inr (.inl u.2.2.2))), (h0_given, ce_Ma h0_given_cells h0_given_tree u46)] H := hP
    have hD : va_D A [(h0, ce_Pr h0_given h0_others (f44, r45)), (h0_given_cells, .inl (c0_given_cells, 8, .inl (upd u.2.2.1 r45.toNatClampNeg f44))), (h0_others, .inl (c0_others, 3, .inr (.inl u.2.2.2))), (h0_given, ce_Ma h0_given_cells h0_given_tree u46)] := hD
    have hP9 := hP.sub (ws' := [(h0, ce_Pr h0_given h0_others (f44, r45)), (h0_given, ce_Ma h0_given_cells h0_given_tree u46), (h0_given_cells, .inl (c0_given_cells, 8, .inl (upd u.2.2.1 r45.toNatClampNeg f44))), (h0_others, .inl (c0_others, 3, .inr (.inl u.2.2.2)))]) [0, 3, 1, 2] rfl
    have hD9 := hD.sub (ws' := [(h0, ce_Pr h0_given h0_others (f44, r45)), (h0_given, ce_Ma h0_given_cells h0_given_tree u46), (h0_given_cells, .inl (c0_given_cells, 8, .inl (upd u.2.2.1 r45.toNatClampNeg f44))), (h0_others, .inl (c0_others, 3, .inr (.inl u.2.2.2)))]) [0, 3, 1, 2] (by decide) rfl
    have hK9 := hK.sub (tys' := [(c0_given_cells, .int), (c0_others, .long)]) [0, 1] rfl
    exact W.vret hx hb hr (fun t ht hW => ⟨⟨((f44, r45), u46, (upd u.2.2.1 r45.toNatClampNeg f44), u.2.2.2), rfl, hw, by rw [ht]; exact hP9, va_K.moved hW.alike hK9, hD9⟩, hS.F ht⟩) hS.2.2 dPr_alter_190
  have hw := hw.2 cc43
  exfalso
  have q1 : ¬ k1.toInt < 1 := fun q => cc1 (Int32.lt_iff_toInt_lt.mpr (by rw [show (1 : Int32).toInt = 1 by decide]; exact q))
  have q2 : ¬ 7 < k1.toInt := fun q => cc2 (Int32.lt_iff_toInt_lt.mpr (by rw [show (7 : Int32).toInt = 7 by decide]; exact q))
  have qcc13 := lv_neT cc13 (show (1 : Int32).toInt = 1 by decide)
  have qcc18 := lv_neT cc18 (show (2 : Int32).toInt = 2 by decide)
  have qcc23 := lv_neT cc23 (show (3 : Int32).toInt = 3 by decide)
  have qcc28 := lv_neT cc28 (show (4 : Int32).toInt = 4 by decide)
  have qcc33 := lv_neT cc33 (show (5 : Int32).toInt = 5 by decide)
  have qcc38 := lv_neT cc38 (show (6 : Int32).toInt = 6 by decide)
  have qcc43 := lv_neT cc43 (show (7 : Int32).toInt = 7 by decide)
  omega
abbrev ww_Pr_hasPlaceInCode (h0 h0_given h0_others h0_given_cells h0_given_tree : Nat) (u : ct_Pr × ct_Ma) : va_W := [(h0, ce_Pr h0_given h0_others u.1), (h0_given, ce_Ma h0_given_cells h0_given_tree u.2)]
def wp_Pr_hasPlaceInCode (post : Int32 → (ct_Pr × ct_Ma) → Prop) (u : ct_Pr × ct_Ma) : Prop := ((u.2.1 < 0 → (post 0 (u.1, u.2))) ∧ (¬ u.2.1 < 0 → (((16 ≤ u.2.1 → (post 0 (u.1, u.2))) ∧ (¬ 16 ≤ u.2.1 → (post 1 (u.1, u.2)))))))
set_option maxHeartbeats 4000000 in
set_option maxRecDepth 100000 in
theorem mt_Pr_hasPlaceInCode (l : Launch) (dC : Nat → ClassId) (dI : Nat → Nat → Nat) (h0 h0_given h0_others h0_given_cells h0_given_tree : Nat) (sz : Nat) (post : Int32 → (ct_Pr × ct_Ma) → Prop) (u : ct_Pr × ct_Ma) (hw : wp_Pr_hasPlaceInCode post u) : Met l yPr_hasPlaceInCode wsPr_hasPlaceInCode ({ frames := 0, cells := 0, slots := 0, locals := 0 }) (kp_P dC dI [.ref h0] sz (ww_Pr_hasPlaceInCode h0 h0_given h0_others h0_given_cells h0_given_tree u) []) (va_Qi post (fun u9 => kp_B dC dI (va_A (ww_Pr_hasPlaceInCode h0 h0_given h0_others h0_given_cells h0_given_tree u) sz) (ww_Pr_hasPlaceInCode h0 h0_given h0_others h0_given_cells h0_given_tree u9) []) (va_A (ww_Pr_hasPlaceInCode h0 h0_given h0_others h0_given_cells h0_given_tree u) sz)) 0 0 (va_A (ww_Pr_hasPlaceInCode h0 h0_given h0_others h0_given_cells h0_given_tree u) sz) := by
  refine Met.ofW (cc := cPr_hasPlaceInCode) (maxL := 1) (ret := (some .boolean)) (by decide) rfl ?_
  intro p e s m args below meth c s₁ B hml hv
  obtain ⟨rfl, hsz, hP, hK, hD0, hZ⟩ := hv
  have hx := B.exec
  have hb := B.bytes
  have hr := B.returns
  have hq : ∀ w ∈ wz, w.before _ s = true := fun w h => atoms_spec (ws := wsPr_hasPlaceInCode) B.pre w (List.mem_cons_of_mem _ h)
  have hown : s.vm.findClass "StepCourt$Proof" = some m.cls := findClass_of_methodNamed B.named
  have hlocks := B.notSynchronized
  subst hsz
  have hD := hD0.self (sz := s.heap.size)
  generalize hAe : va_A (ww_Pr_hasPlaceInCode h0 h0_given h0_others h0_given_cells h0_given_tree u) s.heap.size = A at hD ⊢
  have hA : ∀ q : Nat, s.heap.size ≤ q → A q := fun q h => by rw [← hAe]; exact Or.inr h
  have hS : va_S A s.heap s.heap [] := va_S.rf
  have hP : va_P (dC, dI) vwCl [(h0, ce_Pr h0_given h0_others u.1), (h0_given, ce_Ma h0_given_cells h0_given_tree u.2)] s.heap := hP
  have hD : va_D A [(h0, ce_Pr h0_given h0_others u.1), (h0_given, ce_Ma h0_given_cells h0_given_tree u.2)] := hD
  have hl := lv_entry ([.ref h0]) (n := 1) (Nat.le_of_ble_eq_true rfl)
  rw [lg_entry_eq]
  generalize (lg_sl ([.ref h0]) ++ List.replicate (1 - (lg_sl ([.ref h0])).length) Slot.unset).toArray = ls at hl ⊢
  have hl : lv_has ls 1 [(0, .ref h0)] := hl
  skip
  refine lv_aload_n hx hb dPr_hasPlaceInCode_0 rfl (lv_at hl 0 rfl) ?_
  refine va_get (D := (dC, dI)) (ci := 6) (v := .ref h0_given) (C := "StepCourt$Proof") (T := TPr) (N := 4) hx hb hq inPr hown hK hP 0 rfl rfl 0 (by decide) (hq _ wt_137) (fun _ h9 => h9) rfl dPr_hasPlaceInCode_1 ?_
  refine va_getN (D := (dC, dI)) (ci := 4) (v := .int u.2.1) (C := "StepCourt$Machine") (T := TMa) (N := 8) hx hb hq inMa hown hK hP 1 rfl rfl 2 (by decide) (va_Nw.use rfl (hZ.1 _ zt_70)) (fun _ h9 => h9) rfl dPr_hasPlaceInCode_4 ?_
  refine lv_if_lt (tgt := 26) hx hb dPr_hasPlaceInCode_7 (by decide) (fun cc1 => ?_) (fun cc1 => ?_)
  · have hw := hw.1 cc1
    refine lv_iconst (v := 0) hx hb dPr_hasPlaceInCode_26 (by decide) ?_
    have hP9 := hP.sub (ws' := [(h0, ce_Pr h0_given h0_others u.1), (h0_given, ce_Ma h0_given_cells h0_given_tree u.2)]) [0, 1] rfl
    have hD9 := hD.sub (ws' := [(h0, ce_Pr h0_given h0_others u.1), (h0_given, ce_Ma h0_given_cells h0_given_tree u.2)]) [0, 1] (by decide) rfl
    have hK9 := hK.sub (tys' := []) [] rfl
    exact W.zret (v := 0) hx hb hr rfl (fun t ht hW => ⟨⟨0, (u.1, u.2), rfl, hw, by rw [ht]; exact hP9, va_K.moved hW.alike hK9, hD9⟩, hS.F ht⟩) hS.2.2 dPr_hasPlaceInCode_27
  · have hw := hw.2 cc1
    refine lv_aload_n hx hb dPr_hasPlaceInCode_10 rfl (lv_at hl 0 rfl) ?_
    refine va_get (D := (dC, dI)) (ci := 6) (v := .ref h0_given) (C := "StepCourt$Proof") (T := TPr) (N := 4) hx hb hq inPr hown hK hP 0 rfl rfl 0 (by decide) (hq _ wt_137) (fun _ h9 => h9) rfl dPr_hasPlaceInCode_11 ?_
    refine va_getN (D := (dC, dI)) (ci := 4) (v := .int u.2.1) (C := "StepCourt$Machine") (T := TMa) (N := 8) hx hb hq inMa hown hK hP 1 rfl rfl 2 (by decide) (va_Nw.use rfl (hZ.1 _ zt_70)) (fun _ h9 => h9) rfl dPr_hasPlaceInCode_14 ?_
    refine lv_bipush (v := 16) hx hb dPr_hasPlaceInCode_17 (by decide) ?_
    refine lv_icmp_ge (tgt := 26) hx hb dPr_hasPlaceInCode_19 (by decide) (fun cc2 => ?_) (fun cc2 => ?_)
    · have hw := hw.1 cc2
      refine lv_iconst (v := 0) hx hb dPr_hasPlaceInCode_26 (by decide) ?_
      have hP9 := hP.sub (ws' := [(h0, ce_Pr h0_given h0_others u.1), (h0_given, ce_Ma h0_given_cells h0_given_tree u.2)]) [0, 1] rfl
      have hD9 := hD.sub (ws' := [(h0, ce_Pr h0_given h0_others u.1), (h0_given, ce_Ma h0_given_cells h0_given_tree u.2)]) [0, 1] (by decide) rfl
      have hK9 := hK.sub (tys' := []) [] rfl
      exact W.zret (v := 0) hx hb hr rfl (fun t ht hW => ⟨⟨0, (u.1, u.2), rfl, hw, by rw [ht]; exact hP9, va_K.moved hW.alike hK9, hD9⟩, hS.F ht⟩) hS.2.2 dPr_hasPlaceInCode_27
    · have hw := hw.2 cc2
      refine lv_iconst (v := 1) hx hb dPr_hasPlaceInCode_22 (by decide) ?_
      refine lv_goto (tgt := 27) hx hb dPr_hasPlaceInCode_23 (by decide) ?_
      have hP9 := hP.sub (ws' := [(h0, ce_Pr h0_given h0_others u.1), (h0_given, ce_Ma h0_given_cells h0_given_tree u.2)]) [0, 1] rfl
      have hD9 := hD.sub (ws' := [(h0, ce_Pr h0_given h0_others u.1), (h0_given, ce_Ma h0_given_cells h0_given_tree u.2)]) [0, 1] (by decide) rfl
      have hK9 := hK.sub (tys' := []) [] rfl
      exact W.zret (v := 1) hx hb hr rfl (fun t ht hW => ⟨⟨1, (u.1, u.2), rfl, hw, by rw [ht]; exact hP9, va_K.moved hW.alike hK9, hD9⟩, hS.F ht⟩) hS.2.2 dPr_hasPlaceInCode_27
abbrev ww_Pr_commitment (h0 h0_given h0_given_cells h0_others h0_given_tree : Nat) (c0_given_cells c0_others : ClassId) (u : ct_Pr × ct_Ma × (Nat → Int32) × (Nat → Int64)) : va_W := [(h0, ce_Pr h0_given h0_others u.1), (h0_given, ce_Ma h0_given_cells h0_given_tree u.2.1), (h0_given_cells, .inl (c0_given_cells, 8, .inl u.2.2.1)), (h0_others, .inl (c0_others, 3, .inr (.inl u.2.2.2)))]
def wl_Pr_commitment_18 (post : Int64 → (ct_Pr × ct_Ma × (Nat → Int32) × (Nat → Int64)) → Prop) (u : ct_Pr × ct_Ma × (Nat → Int32) × (Nat → Int64)) : Nat → (Int32) → (Int64) → Prop
  | 0, _, _ => False
  | n16 + 1, v17, v18 => ((3 ≤ v17 → (wp_Ma_commitmentWith (fun r20 u21 => (post r20 (u.1, u21, u.2.2.1, u.2.2.2))) u.2.1 v18 )) ∧ (¬ 3 ≤ v17 → (((((u.1.2 >>> (v17 &&& 31)) &&& 1) = 1 → (vp_in v17 3 ∧ (wp_Mi_mixPair (fun r29 u30 => (wl_Pr_commitment_18 post u n16 (v17 + 1) r29)) () (u.2.2.2 v17.toNatClampNeg) v18 ))) ∧ (¬ ((u.1.2 >>> (v17 &&& 31)) &&& 1) = 1 → (vp_in v17 3 ∧ (wp_Mi_mixPair (fun r25 u26 => (wl_Pr_commitment_18 post u n16 (v17 + 1) r25)) () v18 (u.2.2.2 v17.toNatClampNeg) )))))))
def wp_Pr_commitment (post : Int64 → (ct_Pr × ct_Ma × (Nat → Int32) × (Nat → Int64)) → Prop) (u : ct_Pr × ct_Ma × (Nat → Int32) × (Nat → Int64)) : Prop := vp_in u.1.2 8 ∧ (wp_Mi_mixLeaf (fun r2 u3 => (∃ n16 : Nat, wl_Pr_commitment_18 post u n16 0 r2)) () (u.2.2.1 u.1.2.toNatClampNeg) )
set_option maxHeartbeats 4000000 in
set_option maxRecDepth 100000 in
theorem mt_Pr_commitment (l : Launch) (dC : Nat → ClassId) (dI : Nat → Nat → Nat) (h0 h0_given h0_given_cells h0_others h0_given_tree : Nat) (c0_given_cells c0_others : ClassId) (sz : Nat) (post : Int64 → (ct_Pr × ct_Ma × (Nat → Int32) × (Nat → Int64)) → Prop) (u : ct_Pr × ct_Ma × (Nat → Int32) × (Nat → Int64)) (hw : wp_Pr_commitment post u) : Met l yPr_commitment wsPr_commitment ({ frames := 2, cells := 0, slots := 0, locals := 49 }) (kp_P dC dI [.ref h0] sz (ww_Pr_commitment h0 h0_given h0_given_cells h0_others h0_given_tree c0_given_cells c0_others u) [(c0_given_cells, .int), (c0_others, .long)]) (va_Ql post (fun u9 => kp_B dC dI (va_A (ww_Pr_commitment h0 h0_given h0_given_cells h0_others h0_given_tree c0_given_cells c0_others u) sz) (ww_Pr_commitment h0 h0_given h0_given_cells h0_others h0_given_tree c0_given_cells c0_others u9) [(c0_given_cells, .int), (c0_others, .long)]) (va_A (ww_Pr_commitment h0 h0_given h0_given_cells h0_others h0_given_tree c0_given_cells c0_others u) sz)) 0 0 (va_A (ww_Pr_commitment h0 h0_given h0_given_cells h0_others h0_given_tree c0_given_cells c0_others u) sz) := by
  refine Met.ofW (cc := cPr_commitment) (maxL := 5) (ret := (some .long)) (by decide) rfl ?_
  intro p e s m args below meth c s₁ B hml hv
  obtain ⟨rfl, hsz, hP, hK, hD0, hZ⟩ := hv
  have hx := B.exec
  have hb := B.bytes
  have hr := B.returns
  have hq : ∀ w ∈ wz, w.before _ s = true := fun w h => atoms_spec (ws := wsPr_commitment) B.pre w (List.mem_cons_of_mem _ h)
  have hown : s.vm.findClass "StepCourt$Proof" = some m.cls := findClass_of_methodNamed B.named
  have hlocks := B.notSynchronized
  subst hsz
  have hD := hD0.self (sz := s.heap.size)
  generalize hAe : va_A (ww_Pr_commitment h0 h0_given h0_given_cells h0_others h0_given_tree c0_given_cells c0_others u) s.heap.size = A at hD ⊢
  have hA : ∀ q : Nat, s.heap.size ≤ q → A q := fun q h => by rw [← hAe]; exact Or.inr h
  have hS : va_S A s.heap s.heap [] := va_S.rf
  have hP : va_P (dC, dI) vwCl [(h0, ce_Pr h0_given h0_others u.1), (h0_given, ce_Ma h0_given_cells h0_given_tree u.2.1), (h0_given_cells, .inl (c0_given_cells, 8, .inl u.2.2.1)), (h0_others, .inl (c0_others, 3, .inr (.inl u.2.2.2)))] s.heap := hP
  have hD : va_D A [(h0, ce_Pr h0_given h0_others u.1), (h0_given, ce_Ma h0_given_cells h0_given_tree u.2.1), (h0_given_cells, .inl (c0_given_cells, 8, .inl u.2.2.1)), (h0_others, .inl (c0_others, 3, .inr (.inl u.2.2.2)))] := hD
  have hl := lv_entry ([.ref h0]) (n := 5) (Nat.le_of_ble_eq_true rfl)
  rw [lg_entry_eq]
  generalize (lg_sl ([.ref h0]) ++ List.replicate (5 - (lg_sl ([.ref h0])).length) Slot.unset).toArray = ls at hl ⊢
  have hl : lv_has ls 5 [(0, .ref h0)] := hl
  skip
  refine lv_aload_n hx hb dPr_commitment_0 rfl (lv_at hl 0 rfl) ?_
  refine va_get (D := (dC, dI)) (ci := 6) (v := .ref h0_given) (C := "StepCourt$Proof") (T := TPr) (N := 4) hx hb hq inPr hown hK hP 0 rfl rfl 0 (by decide) (hq _ wt_137) (fun _ h9 => h9) rfl dPr_commitment_1 ?_
  refine va_getN (D := (dC, dI)) (ci := 4) (v := .ref h0_given_cells) (C := "StepCourt$Machine") (T := TMa) (N := 8) hx hb hq inMa hown hK hP 1 rfl rfl 0 (by decide) (va_Nw.use rfl (hZ.1 _ zt_66)) (fun _ h9 => h9) rfl dPr_commitment_4 ?_
  refine lv_aload_n hx hb dPr_commitment_7 rfl (lv_at hl 0 rfl) ?_
  refine va_get (D := (dC, dI)) (ci := 6) (v := .int u.1.2) (C := "StepCourt$Proof") (T := TPr) (N := 4) hx hb hq inPr hown hK hP 0 rfl rfl 3 (by decide) (hq _ wt_141) (fun _ h9 => h9) rfl dPr_commitment_8 ?_
  obtain ⟨hh1, hw⟩ := hw
  refine va_iald hx hb hK hP 2 0 rfl rfl hh1 dPr_commitment_11 ?_
  have hPc := hP.sub (ws' := []) [] rfl
  have hDc := hD.sub (ws' := []) [] (by decide) rfl
  have hKc := hK.sub (tys' := []) [] rfl
  have hFc := va_free (wc := []) hD hS hA [] rfl
  refine va_calll (va_runS (As := [.int (u.2.2.1 u.1.2.toNatClampNeg)]) (rest := []) ⟨hx, hb, hml, hown, hq⟩ (mt_Mi_mixLeaf l dC dI s.heap.size _ () (u.2.2.1 u.1.2.toNatClampNeg) hw) ⟨cq_B 1 hq wt_238 wt_685 wt_9 rfl rfl hd_Mi_mixLeaf ⟨Nat.le_of_ble_eq_true rfl, Nat.le_of_ble_eq_true rfl⟩, (hq _ wt_237)⟩ ⟨kp_bl, kp_at hPc hKc hDc hZ⟩ rfl rfl hl.1 rfl (lv_room (Nat.le_of_ble_eq_true rfl)) dPr_commitment_12 ⟨(by decide), (by decide)⟩) hS (fun q _ h => hFc q h) hFc (fun r2 u3 t H1 locs ht hvm hw hB hz1 hk1 hS => ?_)
  obtain ⟨hP1, hK1, hD1⟩ := hB
  rw [ht] at hP1
  have hK1 := va_K.moved hvm.symm hK1
  obtain ⟨hP, hD⟩ := va_join (wr := [(h0, ce_Pr h0_given h0_others u.1), (h0_given, ce_Ma h0_given_cells h0_given_tree u.2.1), (h0_given_cells, .inl (c0_given_cells, 8, .inl u.2.2.1)), (h0_others, .inl (c0_others, 3, .inr (.inl u.2.2.2)))]) (w1 := []) hP hD [] [0, 1, 2, 3] rfl rfl (by decide) (by decide) hk1 hFc hP1 hD1
  have hK := (hK.sub (tys' := [(c0_given_cells, .int), (c0_others, .long)]) [0, 1] rfl).app hK1
  generalize H1 = H at hP hS ⊢
  have hP : va_P (dC, dI) vwCl [(h0, ce_Pr h0_given h0_others u.1), (h0_given, ce_Ma h0_given_cells h0_given_tree u.2.1), (h0_given_cells, .inl (c0_given_cells, 8, .inl u.2.2.1)), (h0_others, .inl (c0_others, 3, .inr (.inl u.2.2.2)))] H := hP
  have hD : va_D A [(h0, ce_Pr h0_given h0_others u.1), (h0_given, ce_Ma h0_given_cells h0_given_tree u.2.1), (h0_given_cells, .inl (c0_given_cells, 8, .inl u.2.2.1)), (h0_others, .inl (c0_others, 3, .inr (.inl u.2.2.2)))] := hD
  have hK : va_K (dC, dI) vwCl [(c0_given_cells, .int), (c0_others, .long)] s := hK
  refine lv_lstore_n (lv' := [(1, .long r2), (0, .ref h0)]) hx hb dPr_commitment_15 rfl hl (by decide) rfl (fun ls hl => ?_)
  refine lv_iconst (v := 0) hx hb dPr_commitment_16 (by decide) ?_
  refine lv_istore_n (lv' := [(3, .int 0), (1, .long r2), (0, .ref h0)]) hx hb dPr_commitment_17 rfl hl (by decide) rfl (fun ls hl => ?_)
  have hlp18 : ∀ (n16 : Nat) (v17 : Int32) (v18 : Int64) (H : Heap) (locs : List Loc) (ls : Array Slot), wl_Pr_commitment_18 post u n16 v17 v18 → va_P (dC, dI) vwCl [(h0, ce_Pr h0_given h0_others u.1), (h0_given, ce_Ma h0_given_cells h0_given_tree u.2.1), (h0_given_cells, .inl (c0_given_cells, 8, .inl u.2.2.1)), (h0_others, .inl (c0_others, 3, .inr (.inl u.2.2.2)))] H → va_D A [(h0, ce_Pr h0_given h0_others u.1), (h0_given, ce_Ma h0_given_cells h0_given_tree u.2.1), (h0_given_cells, .inl (c0_given_cells, 8, .inl u.2.2.1)), (h0_others, .inl (c0_others, 3, .inr (.inl u.2.2.2)))] → va_S A s.heap H locs → lv_has ls 5 [(3, .int v17), (1, .long v18), (0, .ref h0)] → W p l e (headSpec wsPr_commitment ({ frames := 2, cells := 0, slots := 0, locals := 49 })).room s m ([.ref h0]).toArray below meth c H locs 0 0 (MQ below (va_Ql post (fun u9 => kp_B dC dI A (ww_Pr_commitment h0 h0_given h0_given_cells h0_others h0_given_tree c0_given_cells c0_others u9) [(c0_given_cells, .int), (c0_others, .long)]) A) ([.ref h0]).toArray s 0 0 A) (F0 m 18 ls []) := by
    intro n16
    induction n16 with
    | zero => intro v17 v18 H locs ls hw; exact False.elim hw
    | succ n16 ih18 =>
      intro v17 v18 H locs ls hw hP hD hS hl
      refine lv_iload_n hx hb dPr_commitment_18 rfl (lv_at hl 0 rfl) ?_
      refine lv_iconst (v := 3) hx hb dPr_commitment_19 (by decide) ?_
      refine lv_icmp_ge (tgt := 77) hx hb dPr_commitment_20 (by decide) (fun cc19 => ?_) (fun cc19 => ?_)
      · have hw := hw.1 cc19
        refine lv_aload_n hx hb dPr_commitment_77 rfl (lv_at hl 2 rfl) ?_
        refine va_get (D := (dC, dI)) (ci := 6) (v := .ref h0_given) (C := "StepCourt$Proof") (T := TPr) (N := 4) hx hb hq inPr hown hK hP 0 rfl rfl 0 (by decide) (hq _ wt_137) (fun _ h9 => h9) rfl dPr_commitment_78 ?_
        refine lv_lload_n hx hb dPr_commitment_81 rfl (lv_at hl 1 rfl) ?_
        have hPc := hP.sub (ws' := [(h0_given, ce_Ma h0_given_cells h0_given_tree u.2.1)]) [1] rfl
        have hDc := hD.sub (ws' := [(h0_given, ce_Ma h0_given_cells h0_given_tree u.2.1)]) [1] (by decide) rfl
        have hKc := hK.sub (tys' := []) [] rfl
        have hFc := va_free (wc := [(h0_given, ce_Ma h0_given_cells h0_given_tree u.2.1)]) hD hS hA [1] rfl
        refine va_calll (va_runV (As := [.long v18]) (rest := []) ⟨hx, hb, hml, hown, hq⟩ (mt_Ma_commitmentWith l dC dI h0_given h0_given_cells h0_given_tree H.size _ u.2.1 v18 hw) ⟨cq_B 1 hq wt_252 wt_687 wt_4 rfl rfl hd_Ma_commitmentWith ⟨Nat.le_of_ble_eq_true rfl, Nat.le_of_ble_eq_true rfl⟩, (hq _ wt_250), (hq _ wt_251)⟩ ⟨kp_bl, va_recv hKc hPc (ci := 4) (q0 := 0) rfl rfl, kp_at hPc hKc hDc hZ⟩ rfl rfl hl.1 rfl (lv_room (Nat.le_of_ble_eq_true rfl)) dPr_commitment_82 ⟨(by decide), (by decide)⟩) hS (fun q _ h => hFc q h) hFc (fun r20 u21 t H1 locs ht hvm hw hB hz1 hk1 hS => ?_)
        obtain ⟨hP1, hK1, hD1⟩ := hB
        rw [ht] at hP1
        have hK1 := va_K.moved hvm.symm hK1
        obtain ⟨hP, hD⟩ := va_join (wr := [(h0, ce_Pr h0_given h0_others u.1), (h0_given_cells, .inl (c0_given_cells, 8, .inl u.2.2.1)), (h0_others, .inl (c0_others, 3, .inr (.inl u.2.2.2)))]) (w1 := [(h0_given, ce_Ma h0_given_cells h0_given_tree u21)]) hP hD [1] [0, 2, 3] rfl rfl (by decide) (by decide) hk1 hFc hP1 hD1
        have hK := (hK.sub (tys' := [(c0_given_cells, .int), (c0_others, .long)]) [0, 1] rfl).app hK1
        generalize H1 = H at hP hS ⊢
        have hP : va_P (dC, dI) vwCl [(h0, ce_Pr h0_given h0_others u.1), (h0_given_cells, .inl (c0_given_cells, 8, .inl u.2.2.1)), (h0_others, .inl (c0_others, 3, .inr (.inl u.2.2.2))), (h0_given, ce_Ma h0_given_cells h0_given_tree u21)] H := hP
        have hD : va_D A [(h0, ce_Pr h0_given h0_others u.1), (h0_given_cells, .inl (c0_given_cells, 8, .inl u.2.2.1)), (h0_others, .inl (c0_others, 3, .inr (.inl u.2.2.2))), (h0_given, ce_Ma h0_given_cells h0_given_tree u21)] := hD
        have hK : va_K (dC, dI) vwCl [(c0_given_cells, .int), (c0_others, .long)] s := hK
        have hP9 := hP.sub (ws' := [(h0, ce_Pr h0_given h0_others u.1), (h0_given, ce_Ma h0_given_cells h0_given_tree u21), (h0_given_cells, .inl (c0_given_cells, 8, .inl u.2.2.1)), (h0_others, .inl (c0_others, 3, .inr (.inl u.2.2.2)))]) [0, 3, 1, 2] rfl
        have hD9 := hD.sub (ws' := [(h0, ce_Pr h0_given h0_others u.1), (h0_given, ce_Ma h0_given_cells h0_given_tree u21), (h0_given_cells, .inl (c0_given_cells, 8, .inl u.2.2.1)), (h0_others, .inl (c0_others, 3, .inr (.inl u.2.2.2)))]) [0, 3, 1, 2] (by decide) rfl
        have hK9 := hK.sub (tys' := [(c0_given_cells, .int), (c0_others, .long)]) [0, 1] rfl
        exact W.lret (v := r20) hx hb hr (fun t ht hW => ⟨⟨r20, (u.1, u21, u.2.2.1, u.2.2.2), rfl, hw, by rw [ht]; exact hP9, va_K.moved hW.alike hK9, hD9⟩, hS.F ht⟩) hS.2.2 dPr_commitment_85
      · have hw := hw.2 cc19
        refine lv_aload_n hx hb dPr_commitment_23 rfl (lv_at hl 2 rfl) ?_
        refine va_get (D := (dC, dI)) (ci := 6) (v := .int u.1.2) (C := "StepCourt$Proof") (T := TPr) (N := 4) hx hb hq inPr hown hK hP 0 rfl rfl 3 (by decide) (hq _ wt_141) (fun _ h9 => h9) rfl dPr_commitment_24 ?_
        refine lv_iload_n hx hb dPr_commitment_27 rfl (lv_at hl 0 rfl) ?_
        refine lv_ishr hx hb dPr_commitment_28 ?_
        refine lv_iconst (v := 1) hx hb dPr_commitment_29 (by decide) ?_
        refine lv_iand hx hb dPr_commitment_30 ?_
        refine lv_iconst (v := 1) hx hb dPr_commitment_31 (by decide) ?_
        refine lv_icmp_ne (tgt := 39) hx hb dPr_commitment_32 (by decide) (fun cc22 => ?_) (fun cc22 => ?_)
        · have hw := hw.2 cc22
          refine lv_iconst (v := 0) hx hb dPr_commitment_39 (by decide) ?_
          refine lv_istore (lv' := [(4, .int 0), (3, .int v17), (1, .long v18), (0, .ref h0)]) hx hb dPr_commitment_40 hl (by decide) rfl (fun ls hl => ?_)
          refine lv_iload hx hb dPr_commitment_42 (lv_at hl 0 rfl) ?_
          refine lv_if_eq (tgt := 60) hx hb dPr_commitment_44 (by decide) (fun cc23 => ?_) (fun cc23 => ?_)
          · have hw := hw
            refine lv_lload_n hx hb dPr_commitment_60 rfl (lv_at hl 2 rfl) ?_
            refine lv_aload_n hx hb dPr_commitment_61 rfl (lv_at hl 3 rfl) ?_
            refine va_get (D := (dC, dI)) (ci := 6) (v := .ref h0_others) (C := "StepCourt$Proof") (T := TPr) (N := 4) hx hb hq inPr hown hK hP 0 rfl rfl 1 (by decide) (hq _ wt_139) (fun _ h9 => h9) rfl dPr_commitment_62 ?_
            refine lv_iload_n hx hb dPr_commitment_65 rfl (lv_at hl 1 rfl) ?_
            obtain ⟨hh24, hw⟩ := hw
            refine va_lald hx hb hK hP 3 1 rfl rfl hh24 dPr_commitment_66 ?_
            have hPc := hP.sub (ws' := []) [] rfl
            have hDc := hD.sub (ws' := []) [] (by decide) rfl
            have hKc := hK.sub (tys' := []) [] rfl
            have hFc := va_free (wc := []) hD hS hA [] rfl
            refine va_calll (va_runS (As := [.long v18, .long (u.2.2.2 v17.toNatClampNeg)]) (rest := []) ⟨hx, hb, hml, hown, hq⟩ (mt_Mi_mixPair l dC dI H.size _ () v18 (u.2.2.2 v17.toNatClampNeg) hw) ⟨cq_B 2 hq wt_247 wt_686 wt_9 rfl rfl hd_Mi_mixPair ⟨Nat.le_of_ble_eq_true rfl, Nat.le_of_ble_eq_true rfl⟩, (hq _ wt_246)⟩ ⟨kp_bl, kp_at hPc hKc hDc hZ⟩ rfl rfl hl.1 rfl (lv_room (Nat.le_of_ble_eq_true rfl)) dPr_commitment_67 ⟨(by decide), (by decide)⟩) hS (fun q _ h => hFc q h) hFc (fun r25 u26 t H1 locs ht hvm hw hB hz1 hk1 hS => ?_)
            obtain ⟨hP1, hK1, hD1⟩ := hB
            rw [ht] at hP1
            have hK1 := va_K.moved hvm.symm hK1
            obtain ⟨hP, hD⟩ := va_join (wr := [(h0, ce_Pr h0_given h0_others u.1), (h0_given, ce_Ma h0_given_cells h0_given_tree u.2.1), (h0_given_cells, .inl (c0_given_cells, 8, .inl u.2.2.1)), (h0_others, .inl (c0_others, 3, .inr (.inl u.2.2.2)))]) (w1 := []) hP hD [] [0, 1, 2, 3] rfl rfl (by decide) (by decide) hk1 hFc hP1 hD1
            have hK := (hK.sub (tys' := [(c0_given_cells, .int), (c0_others, .long)]) [0, 1] rfl).app hK1
            generalize H1 = H at hP hS ⊢
            have hP : va_P (dC, dI) vwCl [(h0, ce_Pr h0_given h0_others u.1), (h0_given, ce_Ma h0_given_cells h0_given_tree u.2.1), (h0_given_cells, .inl (c0_given_cells, 8, .inl u.2.2.1)), (h0_others, .inl (c0_others, 3, .inr (.inl u.2.2.2)))] H := hP
            have hD : va_D A [(h0, ce_Pr h0_given h0_others u.1), (h0_given, ce_Ma h0_given_cells h0_given_tree u.2.1), (h0_given_cells, .inl (c0_given_cells, 8, .inl u.2.2.1)), (h0_others, .inl (c0_others, 3, .inr (.inl u.2.2.2)))] := hD
            have hK : va_K (dC, dI) vwCl [(c0_given_cells, .int), (c0_others, .long)] s := hK
            refine lv_lstore_n (lv' := [(1, .long r25), (4, .int 0), (3, .int v17), (0, .ref h0)]) hx hb dPr_commitment_70 rfl hl (by decide) rfl (fun ls hl => ?_)
            refine lv_iinc (v := (v17 + 1)) (lv' := [(3, .int (v17 + 1)), (1, .long r25), (4, .int 0), (0, .ref h0)]) hx hb dPr_commitment_71 hl (k := 2) rfl (by rfl) (by decide) rfl (fun ls hl => ?_)
            refine lv_goto (tgt := 18) hx hb dPr_commitment_74 (by decide) ?_
            exact ih18 (v17 + 1) r25 _ _ ls hw hP hD hS (lv_sub hl [0, 1, 3] rfl)
          · first | exact absurd cc23 (by decide) | exact (cc23 (by decide)).elim
        · have hw := hw.1 cc22
          refine lv_iconst (v := 1) hx hb dPr_commitment_35 (by decide) ?_
          refine lv_goto (tgt := 40) hx hb dPr_commitment_36 (by decide) ?_
          refine lv_istore (lv' := [(4, .int 1), (3, .int v17), (1, .long v18), (0, .ref h0)]) hx hb dPr_commitment_40 hl (by decide) rfl (fun ls hl => ?_)
          refine lv_iload hx hb dPr_commitment_42 (lv_at hl 0 rfl) ?_
          refine lv_if_eq (tgt := 60) hx hb dPr_commitment_44 (by decide) (fun cc27 => ?_) (fun cc27 => ?_)
          · first | exact absurd cc27 (by decide) | exact (cc27 (by decide)).elim
          · have hw := hw
            refine lv_aload_n hx hb dPr_commitment_47 rfl (lv_at hl 3 rfl) ?_
            refine va_get (D := (dC, dI)) (ci := 6) (v := .ref h0_others) (C := "StepCourt$Proof") (T := TPr) (N := 4) hx hb hq inPr hown hK hP 0 rfl rfl 1 (by decide) (hq _ wt_139) (fun _ h9 => h9) rfl dPr_commitment_48 ?_
            refine lv_iload_n hx hb dPr_commitment_51 rfl (lv_at hl 1 rfl) ?_
            obtain ⟨hh28, hw⟩ := hw
            refine va_lald hx hb hK hP 3 1 rfl rfl hh28 dPr_commitment_52 ?_
            refine lv_lload_n hx hb dPr_commitment_53 rfl (lv_at hl 2 rfl) ?_
            have hPc := hP.sub (ws' := []) [] rfl
            have hDc := hD.sub (ws' := []) [] (by decide) rfl
            have hKc := hK.sub (tys' := []) [] rfl
            have hFc := va_free (wc := []) hD hS hA [] rfl
            refine va_calll (va_runS (As := [.long (u.2.2.2 v17.toNatClampNeg), .long v18]) (rest := []) ⟨hx, hb, hml, hown, hq⟩ (mt_Mi_mixPair l dC dI H.size _ () (u.2.2.2 v17.toNatClampNeg) v18 hw) ⟨cq_B 2 hq wt_247 wt_686 wt_9 rfl rfl hd_Mi_mixPair ⟨Nat.le_of_ble_eq_true rfl, Nat.le_of_ble_eq_true rfl⟩, (hq _ wt_246)⟩ ⟨kp_bl, kp_at hPc hKc hDc hZ⟩ rfl rfl hl.1 rfl (lv_room (Nat.le_of_ble_eq_true rfl)) dPr_commitment_54 ⟨(by decide), (by decide)⟩) hS (fun q _ h => hFc q h) hFc (fun r29 u30 t H1 locs ht hvm hw hB hz1 hk1 hS => ?_)
            obtain ⟨hP1, hK1, hD1⟩ := hB
            rw [ht] at hP1
            have hK1 := va_K.moved hvm.symm hK1
            obtain ⟨hP, hD⟩ := va_join (wr := [(h0, ce_Pr h0_given h0_others u.1), (h0_given, ce_Ma h0_given_cells h0_given_tree u.2.1), (h0_given_cells, .inl (c0_given_cells, 8, .inl u.2.2.1)), (h0_others, .inl (c0_others, 3, .inr (.inl u.2.2.2)))]) (w1 := []) hP hD [] [0, 1, 2, 3] rfl rfl (by decide) (by decide) hk1 hFc hP1 hD1
            have hK := (hK.sub (tys' := [(c0_given_cells, .int), (c0_others, .long)]) [0, 1] rfl).app hK1
            generalize H1 = H at hP hS ⊢
            have hP : va_P (dC, dI) vwCl [(h0, ce_Pr h0_given h0_others u.1), (h0_given, ce_Ma h0_given_cells h0_given_tree u.2.1), (h0_given_cells, .inl (c0_given_cells, 8, .inl u.2.2.1)), (h0_others, .inl (c0_others, 3, .inr (.inl u.2.2.2)))] H := hP
            have hD : va_D A [(h0, ce_Pr h0_given h0_others u.1), (h0_given, ce_Ma h0_given_cells h0_given_tree u.2.1), (h0_given_cells, .inl (c0_given_cells, 8, .inl u.2.2.1)), (h0_others, .inl (c0_others, 3, .inr (.inl u.2.2.2)))] := hD
            have hK : va_K (dC, dI) vwCl [(c0_given_cells, .int), (c0_others, .long)] s := hK
            refine lv_goto (tgt := 70) hx hb dPr_commitment_57 (by decide) ?_
            refine lv_lstore_n (lv' := [(1, .long r29), (4, .int 1), (3, .int v17), (0, .ref h0)]) hx hb dPr_commitment_70 rfl hl (by decide) rfl (fun ls hl => ?_)
            refine lv_iinc (v := (v17 + 1)) (lv' := [(3, .int (v17 + 1)), (1, .long r29), (4, .int 1), (0, .ref h0)]) hx hb dPr_commitment_71 hl (k := 2) rfl (by rfl) (by decide) rfl (fun ls hl => ?_)
            refine lv_goto (tgt := 18) hx hb dPr_commitment_74 (by decide) ?_
            exact ih18 (v17 + 1) r29 _ _ ls hw hP hD hS (lv_sub hl [0, 1, 3] rfl)
  obtain ⟨n16, hw⟩ := hw
  exact hlp18 n16 0 r2 _ _ ls hw hP hD hS (lv_sub hl [0, 1, 2] rfl)
