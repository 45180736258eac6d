theorem d_X3_settle_45 : decode b_X3_settle 45 = .ok (.iconst 0, 1) := by decide +kernel
theorem d_X3_settle_46 : decode b_X3_settle 46 = .ok (.iconst 0, 1) := by decide +kernel
theorem d_X3_settle_47 : decode b_X3_settle 47 = .ok (.invokevirtual 75, 3) := by decide +kernel
theorem d_X3_settle_50 : decode b_X3_settle 50 = .ok (.pop, 1) := by decide +kernel
theorem d_X3_settle_51 : decode b_X3_settle 51 = .ok (.aload_n 0, 1) := by decide +kernel
theorem d_X3_settle_52 : decode b_X3_settle 52 = .ok (.dup, 1) := by decide +kernel
theorem d_X3_settle_53 : decode b_X3_settle 53 = .ok (.getfield 38, 3) := by decide +kernel
theorem d_X3_settle_56 : decode b_X3_settle 56 = .ok (.iconst 1, 1) := by decide +kernel
theorem d_X3_settle_57 : decode b_X3_settle 57 = .ok (.isub, 1) := by decide +kernel
theorem d_X3_settle_58 : decode b_X3_settle 58 = .ok (.putfield 38, 3) := by decide +kernel
theorem d_X3_settle_61 : decode b_X3_settle 61 = .ok (.goto (-61), 3) := by decide +kernel
theorem d_X3_settle_64 : decode b_X3_settle 64 = .ok (.return_, 1) := by decide +kernel
theorem d_X3_simple_0 : decode b_X3_simple 0 = .ok (.aload_n 0, 1) := by decide +kernel
theorem d_X3_simple_1 : decode b_X3_simple 1 = .ok (.getfield 44, 3) := by decide +kernel
theorem d_X3_simple_4 : decode b_X3_simple 4 = .ok (.istore_n 1, 1) := by decide +kernel
theorem d_X3_simple_5 : decode b_X3_simple 5 = .ok (.aload_n 0, 1) := by decide +kernel
theorem d_X3_simple_6 : decode b_X3_simple 6 = .ok (.getfield 53, 3) := by decide +kernel
theorem d_X3_simple_9 : decode b_X3_simple 9 = .ok (.bipush 14, 2) := by decide +kernel
theorem d_X3_simple_11 : decode b_X3_simple 11 = .ok (.if_icmp .eq 12, 3) := by decide +kernel
theorem d_X3_simple_14 : decode b_X3_simple 14 = .ok (.aload_n 0, 1) := by decide +kernel
theorem d_X3_simple_15 : decode b_X3_simple 15 = .ok (.getfield 53, 3) := by decide +kernel
theorem d_X3_simple_18 : decode b_X3_simple 18 = .ok (.bipush 15, 2) := by decide +kernel
theorem d_X3_simple_20 : decode b_X3_simple 20 = .ok (.if_icmp .ne 34, 3) := by decide +kernel
theorem d_X3_simple_23 : decode b_X3_simple 23 = .ok (.aload_n 0, 1) := by decide +kernel
theorem d_X3_simple_24 : decode b_X3_simple 24 = .ok (.aload_n 0, 1) := by decide +kernel
theorem d_X3_simple_25 : decode b_X3_simple 25 = .ok (.getfield 53, 3) := by decide +kernel
theorem d_X3_simple_28 : decode b_X3_simple 28 = .ok (.bipush 14, 2) := by decide +kernel
theorem d_X3_simple_30 : decode b_X3_simple 30 = .ok (.if_icmp .ne 8, 3) := by decide +kernel
theorem d_X3_simple_33 : decode b_X3_simple 33 = .ok (.bipush 36, 2) := by decide +kernel
theorem d_X3_simple_35 : decode b_X3_simple 35 = .ok (.goto 5, 3) := by decide +kernel
theorem d_X3_simple_38 : decode b_X3_simple 38 = .ok (.bipush 37, 2) := by decide +kernel
theorem d_X3_simple_40 : decode b_X3_simple 40 = .ok (.iload_n 1, 1) := by decide +kernel
theorem d_X3_simple_41 : decode b_X3_simple 41 = .ok (.iconst 0, 1) := by decide +kernel
theorem d_X3_simple_42 : decode b_X3_simple 42 = .ok (.iconst 0, 1) := by decide +kernel
theorem d_X3_simple_43 : decode b_X3_simple 43 = .ok (.invokevirtual 75, 3) := by decide +kernel
theorem d_X3_simple_46 : decode b_X3_simple 46 = .ok (.pop, 1) := by decide +kernel
theorem d_X3_simple_47 : decode b_X3_simple 47 = .ok (.aload_n 0, 1) := by decide +kernel
theorem d_X3_simple_48 : decode b_X3_simple 48 = .ok (.invokevirtual 47, 3) := by decide +kernel
theorem d_X3_simple_51 : decode b_X3_simple 51 = .ok (.goto 76, 3) := by decide +kernel
theorem d_X3_simple_54 : decode b_X3_simple 54 = .ok (.aload_n 0, 1) := by decide +kernel
theorem d_X3_simple_55 : decode b_X3_simple 55 = .ok (.getfield 53, 3) := by decide +kernel
theorem d_X3_simple_58 : decode b_X3_simple 58 = .ok (.bipush 16, 2) := by decide +kernel
theorem d_X3_simple_60 : decode b_X3_simple 60 = .ok (.if_icmp .ne 52, 3) := by decide +kernel
theorem d_X3_simple_63 : decode b_X3_simple 63 = .ok (.aload_n 0, 1) := by decide +kernel
theorem d_X3_simple_64 : decode b_X3_simple 64 = .ok (.invokevirtual 47, 3) := by decide +kernel
theorem d_X3_simple_67 : decode b_X3_simple 67 = .ok (.aload_n 0, 1) := by decide +kernel
theorem d_X3_simple_68 : decode b_X3_simple 68 = .ok (.getfield 53, 3) := by decide +kernel
theorem d_X3_simple_71 : decode b_X3_simple 71 = .ok (.bipush 27, 2) := by decide +kernel
theorem d_X3_simple_73 : decode b_X3_simple 73 = .ok (.if_icmp .eq 7, 3) := by decide +kernel
theorem d_X3_simple_76 : decode b_X3_simple 76 = .ok (.iconst 1, 1) := by decide +kernel
theorem d_X3_simple_77 : decode b_X3_simple 77 = .ok (.goto 4, 3) := by decide +kernel
theorem d_X3_simple_80 : decode b_X3_simple 80 = .ok (.iconst 0, 1) := by decide +kernel
theorem d_X3_simple_81 : decode b_X3_simple 81 = .ok (.istore_n 2, 1) := by decide +kernel
theorem d_X3_simple_82 : decode b_X3_simple 82 = .ok (.iload_n 2, 1) := by decide +kernel
theorem d_X3_simple_83 : decode b_X3_simple 83 = .ok (.ifCond .eq 8, 3) := by decide +kernel
theorem d_X3_simple_86 : decode b_X3_simple 86 = .ok (.aload_n 0, 1) := by decide +kernel
theorem d_X3_simple_87 : decode b_X3_simple 87 = .ok (.iconst 1, 1) := by decide +kernel
theorem d_X3_simple_88 : decode b_X3_simple 88 = .ok (.invokevirtual 119, 3) := by decide +kernel
theorem d_X3_simple_91 : decode b_X3_simple 91 = .ok (.aload_n 0, 1) := by decide +kernel
theorem d_X3_simple_92 : decode b_X3_simple 92 = .ok (.bipush 38, 2) := by decide +kernel
theorem d_X3_simple_94 : decode b_X3_simple 94 = .ok (.iload_n 1, 1) := by decide +kernel
theorem d_X3_simple_95 : decode b_X3_simple 95 = .ok (.iload_n 2, 1) := by decide +kernel
theorem d_X3_simple_96 : decode b_X3_simple 96 = .ok (.ifCond .eq 7, 3) := by decide +kernel
theorem d_X3_simple_99 : decode b_X3_simple 99 = .ok (.iconst 1, 1) := by decide +kernel
theorem d_X3_simple_100 : decode b_X3_simple 100 = .ok (.goto 4, 3) := by decide +kernel
theorem d_X3_simple_103 : decode b_X3_simple 103 = .ok (.iconst 0, 1) := by decide +kernel
theorem d_X3_simple_104 : decode b_X3_simple 104 = .ok (.iconst 0, 1) := by decide +kernel
theorem d_X3_simple_105 : decode b_X3_simple 105 = .ok (.invokevirtual 75, 3) := by decide +kernel
theorem d_X3_simple_108 : decode b_X3_simple 108 = .ok (.pop, 1) := by decide +kernel
theorem d_X3_simple_109 : decode b_X3_simple 109 = .ok (.goto 18, 3) := by decide +kernel
theorem d_X3_simple_112 : decode b_X3_simple 112 = .ok (.aload_n 0, 1) := by decide +kernel
theorem d_X3_simple_113 : decode b_X3_simple 113 = .ok (.iconst 1, 1) := by decide +kernel
theorem d_X3_simple_114 : decode b_X3_simple 114 = .ok (.invokevirtual 119, 3) := by decide +kernel
theorem d_X3_simple_117 : decode b_X3_simple 117 = .ok (.aload_n 0, 1) := by decide +kernel
theorem d_X3_simple_118 : decode b_X3_simple 118 = .ok (.bipush 22, 2) := by decide +kernel
theorem d_X3_simple_120 : decode b_X3_simple 120 = .ok (.iload_n 1, 1) := by decide +kernel
theorem d_X3_simple_121 : decode b_X3_simple 121 = .ok (.iconst 0, 1) := by decide +kernel
theorem d_X3_simple_122 : decode b_X3_simple 122 = .ok (.iconst 0, 1) := by decide +kernel
theorem d_X3_simple_123 : decode b_X3_simple 123 = .ok (.invokevirtual 75, 3) := by decide +kernel
theorem d_X3_simple_126 : decode b_X3_simple 126 = .ok (.pop, 1) := by decide +kernel
theorem d_X3_simple_127 : decode b_X3_simple 127 = .ok (.aload_n 0, 1) := by decide +kernel
theorem d_X3_simple_128 : decode b_X3_simple 128 = .ok (.bipush 27, 2) := by decide +kernel
theorem d_X3_simple_130 : decode b_X3_simple 130 = .ok (.invokevirtual 56, 3) := by decide +kernel
theorem d_X3_simple_133 : decode b_X3_simple 133 = .ok (.return_, 1) := by decide +kernel
theorem d_X3_stars_0 : decode b_X3_stars 0 = .ok (.iconst 0, 1) := by decide +kernel
theorem d_X3_stars_1 : decode b_X3_stars 1 = .ok (.istore_n 1, 1) := by decide +kernel
theorem d_X3_stars_2 : decode b_X3_stars 2 = .ok (.iload_n 1, 1) := by decide +kernel
theorem d_X3_stars_3 : decode b_X3_stars 3 = .ok (.iconst 5, 1) := by decide +kernel
theorem d_X3_stars_4 : decode b_X3_stars 4 = .ok (.if_icmp .ge 22, 3) := by decide +kernel
theorem d_X3_stars_7 : decode b_X3_stars 7 = .ok (.aload_n 0, 1) := by decide +kernel
theorem d_X3_stars_8 : decode b_X3_stars 8 = .ok (.getfield 53, 3) := by decide +kernel
theorem d_X3_stars_11 : decode b_X3_stars 11 = .ok (.bipush 45, 2) := by decide +kernel
theorem d_X3_stars_13 : decode b_X3_stars 13 = .ok (.if_icmp .ne 13, 3) := by decide +kernel
theorem d_X3_stars_16 : decode b_X3_stars 16 = .ok (.aload_n 0, 1) := by decide +kernel
theorem d_X3_stars_17 : decode b_X3_stars 17 = .ok (.invokevirtual 47, 3) := by decide +kernel
theorem d_X3_stars_20 : decode b_X3_stars 20 = .ok (.iinc 1 1, 3) := by decide +kernel
theorem d_X3_stars_23 : decode b_X3_stars 23 = .ok (.goto (-21), 3) := by decide +kernel
theorem d_X3_stars_26 : decode b_X3_stars 26 = .ok (.aload_n 0, 1) := by decide +kernel
theorem d_X3_stars_27 : decode b_X3_stars 27 = .ok (.getfield 53, 3) := by decide +kernel
theorem d_X3_stars_30 : decode b_X3_stars 30 = .ok (.bipush 45, 2) := by decide +kernel
theorem d_X3_stars_32 : decode b_X3_stars 32 = .ok (.if_icmp .ne 7, 3) := by decide +kernel
theorem d_X3_stars_35 : decode b_X3_stars 35 = .ok (.aload_n 0, 1) := by decide +kernel
theorem d_X3_stars_36 : decode b_X3_stars 36 = .ok (.invokevirtual 82, 3) := by decide +kernel
theorem d_X3_stars_39 : decode b_X3_stars 39 = .ok (.iload_n 1, 1) := by decide +kernel
theorem d_X3_stars_40 : decode b_X3_stars 40 = .ok (.ireturn, 1) := by decide +kernel
theorem d_X3_statement_0 : decode b_X3_statement 0 = .ok (.iload_n 1, 1) := by decide +kernel
theorem d_X3_statement_1 : decode b_X3_statement 1 = .ok (.bipush 25, 2) := by decide +kernel
theorem d_X3_statement_3 : decode b_X3_statement 3 = .ok (.if_icmp .le 8, 3) := by decide +kernel
theorem d_X3_statement_6 : decode b_X3_statement 6 = .ok (.aload_n 0, 1) := by decide +kernel
theorem d_X3_statement_7 : decode b_X3_statement 7 = .ok (.invokevirtual 82, 3) := by decide +kernel
theorem d_X3_statement_10 : decode b_X3_statement 10 = .ok (.return_, 1) := by decide +kernel
theorem d_X3_statement_11 : decode b_X3_statement 11 = .ok (.aload_n 0, 1) := by decide +kernel
theorem d_X3_statement_12 : decode b_X3_statement 12 = .ok (.getfield 44, 3) := by decide +kernel
theorem d_X3_statement_15 : decode b_X3_statement 15 = .ok (.istore_n 2, 1) := by decide +kernel
theorem d_X3_statement_16 : decode b_X3_statement 16 = .ok (.aload_n 0, 1) := by decide +kernel
theorem d_X3_statement_17 : decode b_X3_statement 17 = .ok (.getfield 53, 3) := by decide +kernel
theorem d_X3_statement_20 : decode b_X3_statement 20 = .ok (.tableswitch 192 5 27 #[145, 192, 192, 192, 176, 192, 184, 184, 184, 192, 192, 192, 192, 192, 192, 192, 192, 108, 192, 192, 192, 192, 138], 108) := by decide +kernel
theorem d_X3_statement_128 : decode b_X3_statement 128 = .ok (.aload_n 0, 1) := by decide +kernel
theorem d_X3_statement_129 : decode b_X3_statement 129 = .ok (.bipush 20, 2) := by decide +kernel
theorem d_X3_statement_131 : decode b_X3_statement 131 = .ok (.iload_n 2, 1) := by decide +kernel
theorem d_X3_statement_132 : decode b_X3_statement 132 = .ok (.iconst 0, 1) := by decide +kernel
theorem d_X3_statement_133 : decode b_X3_statement 133 = .ok (.iconst 0, 1) := by decide +kernel
theorem d_X3_statement_134 : decode b_X3_statement 134 = .ok (.invokevirtual 75, 3) := by decide +kernel
theorem d_X3_statement_137 : decode b_X3_statement 137 = .ok (.pop, 1) := by decide +kernel
theorem d_X3_statement_138 : decode b_X3_statement 138 = .ok (.aload_n 0, 1) := by decide +kernel
theorem d_X3_statement_139 : decode b_X3_statement 139 = .ok (.iload_n 1, 1) := by decide +kernel
theorem d_X3_statement_140 : decode b_X3_statement 140 = .ok (.iconst 1, 1) := by decide +kernel
theorem d_X3_statement_141 : decode b_X3_statement 141 = .ok (.iadd, 1) := by decide +kernel
theorem d_X3_statement_142 : decode b_X3_statement 142 = .ok (.invokevirtual 72, 3) := by decide +kernel
theorem d_X3_statement_145 : decode b_X3_statement 145 = .ok (.aload_n 0, 1) := by decide +kernel
theorem d_X3_statement_146 : decode b_X3_statement 146 = .ok (.bipush 21, 2) := by decide +kernel
theorem d_X3_statement_148 : decode b_X3_statement 148 = .ok (.iload_n 2, 1) := by decide +kernel
theorem d_X3_statement_149 : decode b_X3_statement 149 = .ok (.iconst 0, 1) := by decide +kernel
theorem d_X3_statement_150 : decode b_X3_statement 150 = .ok (.iconst 0, 1) := by decide +kernel
theorem d_X3_statement_151 : decode b_X3_statement 151 = .ok (.invokevirtual 75, 3) := by decide +kernel
theorem d_X3_statement_154 : decode b_X3_statement 154 = .ok (.pop, 1) := by decide +kernel
theorem d_X3_statement_155 : decode b_X3_statement 155 = .ok (.goto 61, 3) := by decide +kernel
theorem d_X3_statement_158 : decode b_X3_statement 158 = .ok (.aload_n 0, 1) := by decide +kernel
theorem d_X3_statement_159 : decode b_X3_statement 159 = .ok (.invokevirtual 47, 3) := by decide +kernel
theorem d_X3_statement_162 : decode b_X3_statement 162 = .ok (.goto 54, 3) := by decide +kernel
theorem d_X3_statement_165 : decode b_X3_statement 165 = .ok (.aload_n 0, 1) := by decide +kernel
theorem d_X3_statement_166 : decode b_X3_statement 166 = .ok (.invokevirtual 47, 3) := by decide +kernel
theorem d_X3_statement_169 : decode b_X3_statement 169 = .ok (.aload_n 0, 1) := by decide +kernel
theorem d_X3_statement_170 : decode b_X3_statement 170 = .ok (.invokevirtual 60, 3) := by decide +kernel
theorem d_X3_statement_173 : decode b_X3_statement 173 = .ok (.istore_n 3, 1) := by decide +kernel
theorem d_X3_statement_174 : decode b_X3_statement 174 = .ok (.aload_n 0, 1) := by decide +kernel
theorem d_X3_statement_175 : decode b_X3_statement 175 = .ok (.getfield 44, 3) := by decide +kernel
theorem d_X3_statement_178 : decode b_X3_statement 178 = .ok (.istore 4, 2) := by decide +kernel
theorem d_X3_statement_180 : decode b_X3_statement 180 = .ok (.aload_n 0, 1) := by decide +kernel
theorem d_X3_statement_181 : decode b_X3_statement 181 = .ok (.iconst 2, 1) := by decide +kernel
theorem d_X3_statement_182 : decode b_X3_statement 182 = .ok (.invokevirtual 56, 3) := by decide +kernel
theorem d_X3_statement_185 : decode b_X3_statement 185 = .ok (.aload_n 0, 1) := by decide +kernel
theorem d_X3_statement_186 : decode b_X3_statement 186 = .ok (.iload 4, 2) := by decide +kernel
theorem d_X3_statement_188 : decode b_X3_statement 188 = .ok (.iload_n 3, 1) := by decide +kernel
theorem d_X3_statement_189 : decode b_X3_statement 189 = .ok (.iconst 0, 1) := by decide +kernel
theorem d_X3_statement_190 : decode b_X3_statement 190 = .ok (.invokevirtual 64, 3) := by decide +kernel
theorem d_X3_statement_193 : decode b_X3_statement 193 = .ok (.goto 23, 3) := by decide +kernel
theorem d_X3_statement_196 : decode b_X3_statement 196 = .ok (.aload_n 0, 1) := by decide +kernel
theorem d_X3_statement_197 : decode b_X3_statement 197 = .ok (.iload_n 1, 1) := by decide +kernel
theorem d_X3_statement_198 : decode b_X3_statement 198 = .ok (.invokevirtual 128, 3) := by decide +kernel
theorem d_X3_statement_201 : decode b_X3_statement 201 = .ok (.goto 15, 3) := by decide +kernel
theorem d_X3_statement_204 : decode b_X3_statement 204 = .ok (.aload_n 0, 1) := by decide +kernel
theorem d_X3_statement_205 : decode b_X3_statement 205 = .ok (.iload_n 1, 1) := by decide +kernel
theorem d_X3_statement_206 : decode b_X3_statement 206 = .ok (.invokevirtual 131, 3) := by decide +kernel
theorem d_X3_statement_209 : decode b_X3_statement 209 = .ok (.goto 7, 3) := by decide +kernel
theorem d_X3_statement_212 : decode b_X3_statement 212 = .ok (.aload_n 0, 1) := by decide +kernel
theorem d_X3_statement_213 : decode b_X3_statement 213 = .ok (.invokevirtual 134, 3) := by decide +kernel
theorem d_X3_statement_216 : decode b_X3_statement 216 = .ok (.return_, 1) := by decide +kernel
theorem d_X3_statements_0 : decode b_X3_statements 0 = .ok (.aload_n 0, 1) := by decide +kernel
theorem d_X3_statements_1 : decode b_X3_statements 1 = .ok (.bipush 22, 2) := by decide +kernel
theorem d_X3_statements_3 : decode b_X3_statements 3 = .ok (.invokevirtual 56, 3) := by decide +kernel
theorem d_X3_statements_6 : decode b_X3_statements 6 = .ok (.aload_n 0, 1) := by decide +kernel
theorem d_X3_statements_7 : decode b_X3_statements 7 = .ok (.getfield 30, 3) := by decide +kernel
theorem d_X3_statements_10 : decode b_X3_statements 10 = .ok (.getfield 50, 3) := by decide +kernel
theorem d_X3_statements_13 : decode b_X3_statements 13 = .ok (.istore_n 2, 1) := by decide +kernel
theorem d_X3_statements_14 : decode b_X3_statements 14 = .ok (.iload_n 2, 1) := by decide +kernel
theorem d_X3_statements_15 : decode b_X3_statements 15 = .ok (.ifCond .le 30, 3) := by decide +kernel
theorem d_X3_statements_18 : decode b_X3_statements 18 = .ok (.aload_n 0, 1) := by decide +kernel
theorem d_X3_statements_19 : decode b_X3_statements 19 = .ok (.getfield 41, 3) := by decide +kernel
theorem d_X3_statements_22 : decode b_X3_statements 22 = .ok (.ifCond .ge 23, 3) := by decide +kernel
theorem d_X3_statements_25 : decode b_X3_statements 25 = .ok (.aload_n 0, 1) := by decide +kernel
theorem d_X3_statements_26 : decode b_X3_statements 26 = .ok (.getfield 53, 3) := by decide +kernel
theorem d_X3_statements_29 : decode b_X3_statements 29 = .ok (.bipush 23, 2) := by decide +kernel
theorem d_X3_statements_31 : decode b_X3_statements 31 = .ok (.if_icmp .eq 14, 3) := by decide +kernel
theorem d_X3_statements_34 : decode b_X3_statements 34 = .ok (.aload_n 0, 1) := by decide +kernel
theorem d_X3_statements_35 : decode b_X3_statements 35 = .ok (.iload_n 1, 1) := by decide +kernel
theorem d_X3_statements_36 : decode b_X3_statements 36 = .ok (.invokevirtual 125, 3) := by decide +kernel
theorem d_X3_statements_39 : decode b_X3_statements 39 = .ok (.iinc 2 (-1), 3) := by decide +kernel
theorem d_X3_statements_42 : decode b_X3_statements 42 = .ok (.goto (-28), 3) := by decide +kernel
theorem d_X3_statements_45 : decode b_X3_statements 45 = .ok (.aload_n 0, 1) := by decide +kernel
theorem d_X3_statements_46 : decode b_X3_statements 46 = .ok (.bipush 23, 2) := by decide +kernel
theorem d_X3_statements_48 : decode b_X3_statements 48 = .ok (.invokevirtual 56, 3) := by decide +kernel
theorem d_X3_statements_51 : decode b_X3_statements 51 = .ok (.return_, 1) := by decide +kernel
theorem d_X3_unary_0 : decode b_X3_unary 0 = .ok (.aload_n 0, 1) := by decide +kernel
theorem d_X3_unary_1 : decode b_X3_unary 1 = .ok (.getfield 44, 3) := by decide +kernel
theorem d_X3_unary_4 : decode b_X3_unary 4 = .ok (.istore_n 2, 1) := by decide +kernel
theorem d_X3_unary_5 : decode b_X3_unary 5 = .ok (.aload_n 0, 1) := by decide +kernel
theorem d_X3_unary_6 : decode b_X3_unary 6 = .ok (.getfield 53, 3) := by decide +kernel
theorem d_X3_unary_9 : decode b_X3_unary 9 = .ok (.tableswitch 119 44 62 #[91, 91, 119, 119, 91, 119, 119, 119, 119, 119, 119, 119, 119, 119, 119, 91, 91, 91, 91], 91) := by decide +kernel
theorem d_X3_unary_100 : decode b_X3_unary 100 = .ok (.aload_n 0, 1) := by decide +kernel
theorem d_X3_unary_101 : decode b_X3_unary 101 = .ok (.iload_n 1, 1) := by decide +kernel
theorem d_X3_unary_102 : decode b_X3_unary 102 = .ok (.invokevirtual 149, 3) := by decide +kernel
theorem d_X3_unary_105 : decode b_X3_unary 105 = .ok (.ifCond .eq 62, 3) := by decide +kernel
theorem d_X3_unary_108 : decode b_X3_unary 108 = .ok (.aload_n 0, 1) := by decide +kernel
theorem d_X3_unary_109 : decode b_X3_unary 109 = .ok (.iload_n 1, 1) := by decide +kernel
theorem d_X3_unary_110 : decode b_X3_unary 110 = .ok (.iconst 1, 1) := by decide +kernel
theorem d_X3_unary_111 : decode b_X3_unary 111 = .ok (.iadd, 1) := by decide +kernel
theorem d_X3_unary_112 : decode b_X3_unary 112 = .ok (.invokevirtual 158, 3) := by decide +kernel
theorem d_X3_unary_115 : decode b_X3_unary 115 = .ok (.aload_n 0, 1) := by decide +kernel
theorem d_X3_unary_116 : decode b_X3_unary 116 = .ok (.bipush 11, 2) := by decide +kernel
theorem d_X3_unary_118 : decode b_X3_unary 118 = .ok (.iload_n 2, 1) := by decide +kernel
theorem d_X3_unary_119 : decode b_X3_unary 119 = .ok (.iconst 0, 1) := by decide +kernel
theorem d_X3_unary_120 : decode b_X3_unary 120 = .ok (.iconst 0, 1) := by decide +kernel
theorem d_X3_unary_121 : decode b_X3_unary 121 = .ok (.invokevirtual 75, 3) := by decide +kernel
theorem d_X3_unary_124 : decode b_X3_unary 124 = .ok (.pop, 1) := by decide +kernel
theorem d_X3_unary_125 : decode b_X3_unary 125 = .ok (.goto 42, 3) := by decide +kernel
theorem d_X3_unary_128 : decode b_X3_unary 128 = .ok (.aload_n 0, 1) := by decide +kernel
theorem d_X3_unary_129 : decode b_X3_unary 129 = .ok (.getfield 53, 3) := by decide +kernel
theorem d_X3_unary_132 : decode b_X3_unary 132 = .ok (.bipush 20, 2) := by decide +kernel
theorem d_X3_unary_134 : decode b_X3_unary 134 = .ok (.if_icmp .ne 28, 3) := by decide +kernel
theorem d_X3_unary_137 : decode b_X3_unary 137 = .ok (.aload_n 0, 1) := by decide +kernel
theorem d_X3_unary_138 : decode b_X3_unary 138 = .ok (.getfield 30, 3) := by decide +kernel
theorem d_X3_unary_141 : decode b_X3_unary 141 = .ok (.getfield 79, 3) := by decide +kernel
theorem d_X3_unary_144 : decode b_X3_unary 144 = .ok (.iload_n 2, 1) := by decide +kernel
theorem d_X3_unary_145 : decode b_X3_unary 145 = .ok (.iconst 1, 1) := by decide +kernel
theorem d_X3_unary_146 : decode b_X3_unary 146 = .ok (.iadd, 1) := by decide +kernel
theorem d_X3_unary_147 : decode b_X3_unary 147 = .ok (.invokestatic 93, 3) := by decide +kernel
theorem d_X3_unary_150 : decode b_X3_unary 150 = .ok (.iconst 5, 1) := by decide +kernel
theorem d_X3_unary_151 : decode b_X3_unary 151 = .ok (.if_icmp .ne 11, 3) := by decide +kernel
theorem d_X3_unary_154 : decode b_X3_unary 154 = .ok (.aload_n 0, 1) := by decide +kernel
theorem d_X3_unary_155 : decode b_X3_unary 155 = .ok (.iload_n 1, 1) := by decide +kernel
theorem d_X3_unary_156 : decode b_X3_unary 156 = .ok (.invokevirtual 167, 3) := by decide +kernel
theorem d_X3_unary_159 : decode b_X3_unary 159 = .ok (.goto 8, 3) := by decide +kernel
theorem d_X3_unary_162 : decode b_X3_unary 162 = .ok (.aload_n 0, 1) := by decide +kernel
theorem d_X3_unary_163 : decode b_X3_unary 163 = .ok (.iload_n 1, 1) := by decide +kernel
theorem d_X3_unary_164 : decode b_X3_unary 164 = .ok (.invokevirtual 170, 3) := by decide +kernel
theorem d_X3_unary_167 : decode b_X3_unary 167 = .ok (.return_, 1) := by decide +kernel
theorem d_X3_variables_0 : decode b_X3_variables 0 = .ok (.iload_n 1, 1) := by decide +kernel
theorem d_X3_variables_1 : decode b_X3_variables 1 = .ok (.istore 4, 2) := by decide +kernel
theorem d_X3_variables_3 : decode b_X3_variables 3 = .ok (.iload_n 2, 1) := by decide +kernel
theorem d_X3_variables_4 : decode b_X3_variables 4 = .ok (.istore 5, 2) := by decide +kernel
theorem d_X3_variables_6 : decode b_X3_variables 6 = .ok (.iconst 1, 1) := by decide +kernel
theorem d_X3_variables_7 : decode b_X3_variables 7 = .ok (.istore 6, 2) := by decide +kernel
theorem d_X3_variables_9 : decode b_X3_variables 9 = .ok (.aload_n 0, 1) := by decide +kernel
theorem d_X3_variables_10 : decode b_X3_variables 10 = .ok (.getfield 30, 3) := by decide +kernel
theorem d_X3_variables_13 : decode b_X3_variables 13 = .ok (.getfield 50, 3) := by decide +kernel
theorem d_X3_variables_16 : decode b_X3_variables 16 = .ok (.istore 7, 2) := by decide +kernel
theorem d_X3_variables_18 : decode b_X3_variables 18 = .ok (.iload 7, 2) := by decide +kernel
theorem d_X3_variables_20 : decode b_X3_variables 20 = .ok (.ifCond .le 115, 3) := by decide +kernel
theorem d_X3_variables_23 : decode b_X3_variables 23 = .ok (.iload 6, 2) := by decide +kernel
theorem d_X3_variables_25 : decode b_X3_variables 25 = .ok (.ifCond .eq 110, 3) := by decide +kernel
theorem d_X3_variables_28 : decode b_X3_variables 28 = .ok (.aload_n 0, 1) := by decide +kernel
theorem d_X3_variables_29 : decode b_X3_variables 29 = .ok (.getfield 53, 3) := by decide +kernel
theorem d_X3_variables_32 : decode b_X3_variables 32 = .ok (.bipush 24, 2) := by decide +kernel
theorem d_X3_variables_34 : decode b_X3_variables 34 = .ok (.if_icmp .ne 10, 3) := by decide +kernel
theorem d_X3_variables_37 : decode b_X3_variables 37 = .ok (.aload_n 0, 1) := by decide +kernel
theorem d_X3_variables_38 : decode b_X3_variables 38 = .ok (.invokevirtual 112, 3) := by decide +kernel
theorem d_X3_variables_41 : decode b_X3_variables 41 = .ok (.goto 4, 3) := by decide +kernel
theorem d_X3_variables_44 : decode b_X3_variables 44 = .ok (.iconst (-1), 1) := by decide +kernel
theorem d_X3_variables_45 : decode b_X3_variables 45 = .ok (.istore 8, 2) := by decide +kernel
theorem d_X3_variables_47 : decode b_X3_variables 47 = .ok (.aload_n 0, 1) := by decide +kernel
theorem d_X3_variables_48 : decode b_X3_variables 48 = .ok (.getfield 53, 3) := by decide +kernel
theorem d_X3_variables_51 : decode b_X3_variables 51 = .ok (.bipush 30, 2) := by decide +kernel
theorem d_X3_variables_53 : decode b_X3_variables 53 = .ok (.if_icmp .ne 7, 3) := by decide +kernel
theorem d_X3_variables_56 : decode b_X3_variables 56 = .ok (.iconst 1, 1) := by decide +kernel
theorem d_X3_variables_57 : decode b_X3_variables 57 = .ok (.goto 4, 3) := by decide +kernel
theorem d_X3_variables_60 : decode b_X3_variables 60 = .ok (.iconst 0, 1) := by decide +kernel
theorem d_X3_variables_61 : decode b_X3_variables 61 = .ok (.istore 9, 2) := by decide +kernel
theorem d_X3_variables_63 : decode b_X3_variables 63 = .ok (.aload_n 0, 1) := by decide +kernel
theorem d_X3_variables_64 : decode b_X3_variables 64 = .ok (.bipush 43, 2) := by decide +kernel
theorem d_X3_variables_66 : decode b_X3_variables 66 = .ok (.iload 4, 2) := by decide +kernel
theorem d_X3_variables_68 : decode b_X3_variables 68 = .ok (.iload 5, 2) := by decide +kernel
theorem d_X3_variables_70 : decode b_X3_variables 70 = .ok (.iload 9, 2) := by decide +kernel
theorem d_X3_variables_72 : decode b_X3_variables 72 = .ok (.ifCond .eq 9, 3) := by decide +kernel
theorem d_X3_variables_75 : decode b_X3_variables 75 = .ok (.iload_n 3, 1) := by decide +kernel
theorem d_X3_variables_76 : decode b_X3_variables 76 = .ok (.iconst 4, 1) := by decide +kernel
theorem d_X3_variables_77 : decode b_X3_variables 77 = .ok (.iadd, 1) := by decide +kernel
theorem d_X3_variables_78 : decode b_X3_variables 78 = .ok (.goto 4, 3) := by decide +kernel
theorem d_X3_variables_81 : decode b_X3_variables 81 = .ok (.iload_n 3, 1) := by decide +kernel
theorem d_X3_variables_82 : decode b_X3_variables 82 = .ok (.invokevirtual 75, 3) := by decide +kernel
theorem d_X3_variables_85 : decode b_X3_variables 85 = .ok (.pop, 1) := by decide +kernel
theorem d_X3_variables_86 : decode b_X3_variables 86 = .ok (.iload 9, 2) := by decide +kernel
theorem d_X3_variables_88 : decode b_X3_variables 88 = .ok (.ifCond .eq 11, 3) := by decide +kernel
theorem d_X3_variables_91 : decode b_X3_variables 91 = .ok (.aload_n 0, 1) := by decide +kernel
theorem d_X3_variables_92 : decode b_X3_variables 92 = .ok (.iload 8, 2) := by decide +kernel
theorem d_X3_variables_94 : decode b_X3_variables 94 = .ok (.iload 5, 2) := by decide +kernel
theorem d_X3_variables_96 : decode b_X3_variables 96 = .ok (.invokevirtual 115, 3) := by decide +kernel
theorem d_X3_variables_99 : decode b_X3_variables 99 = .ok (.aload_n 0, 1) := by decide +kernel
theorem d_X3_variables_100 : decode b_X3_variables 100 = .ok (.bipush 26, 2) := by decide +kernel
theorem d_X3_variables_102 : decode b_X3_variables 102 = .ok (.invokevirtual 101, 3) := by decide +kernel
theorem d_X3_variables_105 : decode b_X3_variables 105 = .ok (.istore 6, 2) := by decide +kernel
theorem d_X3_variables_107 : decode b_X3_variables 107 = .ok (.iload 6, 2) := by decide +kernel
theorem d_X3_variables_109 : decode b_X3_variables 109 = .ok (.ifCond .eq 20, 3) := by decide +kernel
theorem d_X3_variables_112 : decode b_X3_variables 112 = .ok (.aload_n 0, 1) := by decide +kernel
theorem d_X3_variables_113 : decode b_X3_variables 113 = .ok (.invokevirtual 60, 3) := by decide +kernel
theorem d_X3_variables_116 : decode b_X3_variables 116 = .ok (.istore 5, 2) := by decide +kernel
theorem d_X3_variables_118 : decode b_X3_variables 118 = .ok (.aload_n 0, 1) := by decide +kernel
theorem d_X3_variables_119 : decode b_X3_variables 119 = .ok (.getfield 44, 3) := by decide +kernel
theorem d_X3_variables_122 : decode b_X3_variables 122 = .ok (.istore 4, 2) := by decide +kernel
theorem d_X3_variables_124 : decode b_X3_variables 124 = .ok (.aload_n 0, 1) := by decide +kernel
theorem d_X3_variables_125 : decode b_X3_variables 125 = .ok (.iconst 2, 1) := by decide +kernel
theorem d_X3_variables_126 : decode b_X3_variables 126 = .ok (.invokevirtual 56, 3) := by decide +kernel
theorem d_X3_variables_129 : decode b_X3_variables 129 = .ok (.iinc 7 (-1), 3) := by decide +kernel
theorem d_X3_variables_132 : decode b_X3_variables 132 = .ok (.goto (-114), 3) := by decide +kernel
theorem d_X3_variables_135 : decode b_X3_variables 135 = .ok (.aload_n 0, 1) := by decide +kernel
theorem d_X3_variables_136 : decode b_X3_variables 136 = .ok (.bipush 27, 2) := by decide +kernel
theorem d_X3_variables_138 : decode b_X3_variables 138 = .ok (.invokevirtual 56, 3) := by decide +kernel
theorem d_X3_variables_141 : decode b_X3_variables 141 = .ok (.return_, 1) := by decide +kernel
theorem d_X4_init_0 : decode b_X4_init 0 = .ok (.aload_n 0, 1) := by decide +kernel
theorem d_X4_init_1 : decode b_X4_init 1 = .ok (.invokespecial 3, 3) := by decide +kernel
theorem d_X4_init_4 : decode b_X4_init 4 = .ok (.aload_n 0, 1) := by decide +kernel
theorem d_X4_init_5 : decode b_X4_init 5 = .ok (.iconst 4, 1) := by decide +kernel
theorem d_X4_init_6 : decode b_X4_init 6 = .ok (.newarray .byte, 2) := by decide +kernel
theorem d_X4_init_8 : decode b_X4_init 8 = .ok (.putfield 11, 3) := by decide +kernel
theorem d_X4_init_11 : decode b_X4_init 11 = .ok (.aload_n 0, 1) := by decide +kernel
theorem d_X4_init_12 : decode b_X4_init 12 = .ok (.iconst 0, 1) := by decide +kernel
theorem d_X4_init_13 : decode b_X4_init 13 = .ok (.putfield 15, 3) := by decide +kernel
theorem d_X4_init_16 : decode b_X4_init 16 = .ok (.aload_n 0, 1) := by decide +kernel
theorem d_X4_init_17 : decode b_X4_init 17 = .ok (.iconst (-1), 1) := by decide +kernel
theorem d_X4_init_18 : decode b_X4_init 18 = .ok (.putfield 19, 3) := by decide +kernel
theorem d_X4_init_21 : decode b_X4_init 21 = .ok (.aload_n 0, 1) := by decide +kernel
theorem d_X4_init_22 : decode b_X4_init 22 = .ok (.iconst (-1), 1) := by decide +kernel
theorem d_X4_init_23 : decode b_X4_init 23 = .ok (.putfield 23, 3) := by decide +kernel
theorem d_X4_init_26 : decode b_X4_init 26 = .ok (.aload_n 0, 1) := by decide +kernel
theorem d_X4_init_27 : decode b_X4_init 27 = .ok (.iconst 1, 1) := by decide +kernel
theorem d_X4_init_28 : decode b_X4_init 28 = .ok (.putfield 26, 3) := by decide +kernel
theorem d_X4_init_31 : decode b_X4_init 31 = .ok (.aload_n 0, 1) := by decide +kernel
theorem d_X4_init_32 : decode b_X4_init 32 = .ok (.bipush 101, 2) := by decide +kernel
theorem d_X4_init_34 : decode b_X4_init 34 = .ok (.newarray .int, 2) := by decide +kernel
theorem d_X4_init_36 : decode b_X4_init 36 = .ok (.putfield 29, 3) := by decide +kernel
theorem d_X4_init_39 : decode b_X4_init 39 = .ok (.aload_n 0, 1) := by decide +kernel
theorem d_X4_init_40 : decode b_X4_init 40 = .ok (.iconst 0, 1) := by decide +kernel
theorem d_X4_init_41 : decode b_X4_init 41 = .ok (.putfield 33, 3) := by decide +kernel
theorem d_X4_init_44 : decode b_X4_init 44 = .ok (.aload_n 0, 1) := by decide +kernel
theorem d_X4_init_45 : decode b_X4_init 45 = .ok (.bipush 101, 2) := by decide +kernel
theorem d_X4_init_47 : decode b_X4_init 47 = .ok (.newarray .int, 2) := by decide +kernel
theorem d_X4_init_49 : decode b_X4_init 49 = .ok (.putfield 36, 3) := by decide +kernel
theorem d_X4_init_52 : decode b_X4_init 52 = .ok (.aload_n 0, 1) := by decide +kernel
theorem d_X4_init_53 : decode b_X4_init 53 = .ok (.bipush 101, 2) := by decide +kernel
theorem d_X4_init_55 : decode b_X4_init 55 = .ok (.newarray .int, 2) := by decide +kernel
theorem d_X4_init_57 : decode b_X4_init 57 = .ok (.putfield 39, 3) := by decide +kernel
theorem d_X4_init_60 : decode b_X4_init 60 = .ok (.aload_n 0, 1) := by decide +kernel
theorem d_X4_init_61 : decode b_X4_init 61 = .ok (.sipush 10100, 3) := by decide +kernel
theorem d_X4_init_64 : decode b_X4_init 64 = .ok (.newarray .int, 2) := by decide +kernel
theorem d_X4_init_66 : decode b_X4_init 66 = .ok (.putfield 44, 3) := by decide +kernel
theorem d_X4_init_69 : decode b_X4_init 69 = .ok (.aload_n 0, 1) := by decide +kernel
theorem d_X4_init_70 : decode b_X4_init 70 = .ok (.iconst 0, 1) := by decide +kernel
theorem d_X4_init_71 : decode b_X4_init 71 = .ok (.putfield 47, 3) := by decide +kernel
theorem d_X4_init_74 : decode b_X4_init 74 = .ok (.aload_n 0, 1) := by decide +kernel
theorem d_X4_init_75 : decode b_X4_init 75 = .ok (.aload_n 1, 1) := by decide +kernel
theorem d_X4_init_76 : decode b_X4_init 76 = .ok (.putfield 50, 3) := by decide +kernel
theorem d_X4_init_79 : decode b_X4_init 79 = .ok (.aload_n 0, 1) := by decide +kernel
theorem d_X4_init_80 : decode b_X4_init 80 = .ok (.getfield 11, 3) := by decide +kernel
theorem d_X4_init_83 : decode b_X4_init 83 = .ok (.iconst 0, 1) := by decide +kernel
theorem d_X4_init_84 : decode b_X4_init 84 = .ok (.bipush 109, 2) := by decide +kernel
theorem d_X4_init_86 : decode b_X4_init 86 = .ok (.bastore, 1) := by decide +kernel
theorem d_X4_init_87 : decode b_X4_init 87 = .ok (.aload_n 0, 1) := by decide +kernel
theorem d_X4_init_88 : decode b_X4_init 88 = .ok (.getfield 11, 3) := by decide +kernel
theorem d_X4_init_91 : decode b_X4_init 91 = .ok (.iconst 1, 1) := by decide +kernel
theorem d_X4_init_92 : decode b_X4_init 92 = .ok (.bipush 97, 2) := by decide +kernel
theorem d_X4_init_94 : decode b_X4_init 94 = .ok (.bastore, 1) := by decide +kernel
theorem d_X4_init_95 : decode b_X4_init 95 = .ok (.aload_n 0, 1) := by decide +kernel
theorem d_X4_init_96 : decode b_X4_init 96 = .ok (.getfield 11, 3) := by decide +kernel
theorem d_X4_init_99 : decode b_X4_init 99 = .ok (.iconst 2, 1) := by decide +kernel
theorem d_X4_init_100 : decode b_X4_init 100 = .ok (.bipush 105, 2) := by decide +kernel
theorem d_X4_init_102 : decode b_X4_init 102 = .ok (.bastore, 1) := by decide +kernel
theorem d_X4_init_103 : decode b_X4_init 103 = .ok (.aload_n 0, 1) := by decide +kernel
theorem d_X4_init_104 : decode b_X4_init 104 = .ok (.getfield 11, 3) := by decide +kernel
theorem d_X4_init_107 : decode b_X4_init 107 = .ok (.iconst 3, 1) := by decide +kernel
theorem d_X4_init_108 : decode b_X4_init 108 = .ok (.bipush 110, 2) := by decide +kernel
theorem d_X4_init_110 : decode b_X4_init 110 = .ok (.bastore, 1) := by decide +kernel
theorem d_X4_init_111 : decode b_X4_init 111 = .ok (.return_, 1) := by decide +kernel
theorem d_X4_agrees_0 : decode b_X4_agrees 0 = .ok (.aload_n 0, 1) := by decide +kernel
theorem d_X4_agrees_1 : decode b_X4_agrees 1 = .ok (.getfield 50, 3) := by decide +kernel
theorem d_X4_agrees_4 : decode b_X4_agrees 4 = .ok (.getfield 88, 3) := by decide +kernel
theorem d_X4_agrees_7 : decode b_X4_agrees 7 = .ok (.iload_n 1, 1) := by decide +kernel
theorem d_X4_agrees_8 : decode b_X4_agrees 8 = .ok (.invokestatic 54, 3) := by decide +kernel
theorem d_X4_agrees_11 : decode b_X4_agrees 11 = .ok (.istore_n 3, 1) := by decide +kernel
theorem d_X4_agrees_12 : decode b_X4_agrees 12 = .ok (.aload_n 0, 1) := by decide +kernel
theorem d_X4_agrees_13 : decode b_X4_agrees 13 = .ok (.getfield 50, 3) := by decide +kernel
theorem d_X4_agrees_16 : decode b_X4_agrees 16 = .ok (.getfield 88, 3) := by decide +kernel
theorem d_X4_agrees_19 : decode b_X4_agrees 19 = .ok (.iload_n 2, 1) := by decide +kernel
theorem d_X4_agrees_20 : decode b_X4_agrees 20 = .ok (.invokestatic 54, 3) := by decide +kernel
theorem d_X4_agrees_23 : decode b_X4_agrees 23 = .ok (.istore 4, 2) := by decide +kernel
theorem d_X4_agrees_25 : decode b_X4_agrees 25 = .ok (.aload_n 0, 1) := by decide +kernel
theorem d_X4_agrees_26 : decode b_X4_agrees 26 = .ok (.getfield 50, 3) := by decide +kernel
theorem d_X4_agrees_29 : decode b_X4_agrees 29 = .ok (.iload_n 1, 1) := by decide +kernel
theorem d_X4_agrees_30 : decode b_X4_agrees 30 = .ok (.iconst 1, 1) := by decide +kernel
theorem d_X4_agrees_31 : decode b_X4_agrees 31 = .ok (.invokevirtual 81, 3) := by decide +kernel
theorem d_X4_agrees_34 : decode b_X4_agrees 34 = .ok (.istore 5, 2) := by decide +kernel
theorem d_X4_agrees_36 : decode b_X4_agrees 36 = .ok (.iload 5, 2) := by decide +kernel
theorem d_X4_agrees_38 : decode b_X4_agrees 38 = .ok (.ifCond .ne 16, 3) := by decide +kernel
theorem d_X4_agrees_41 : decode b_X4_agrees 41 = .ok (.iload_n 3, 1) := by decide +kernel
theorem d_X4_agrees_42 : decode b_X4_agrees 42 = .ok (.ifCond .ne 12, 3) := by decide +kernel
theorem d_X4_agrees_45 : decode b_X4_agrees 45 = .ok (.iload 4, 2) := by decide +kernel
theorem d_X4_agrees_47 : decode b_X4_agrees 47 = .ok (.ifCond .le 7, 3) := by decide +kernel
theorem d_X4_agrees_50 : decode b_X4_agrees 50 = .ok (.iconst 1, 1) := by decide +kernel
theorem d_X4_agrees_51 : decode b_X4_agrees 51 = .ok (.goto 4, 3) := by decide +kernel
theorem d_X4_agrees_54 : decode b_X4_agrees 54 = .ok (.iconst 0, 1) := by decide +kernel
theorem d_X4_agrees_55 : decode b_X4_agrees 55 = .ok (.istore 6, 2) := by decide +kernel
theorem d_X4_agrees_57 : decode b_X4_agrees 57 = .ok (.iload_n 2, 1) := by decide +kernel
theorem d_X4_agrees_58 : decode b_X4_agrees 58 = .ok (.ifCond .lt 53, 3) := by decide +kernel
theorem d_X4_agrees_61 : decode b_X4_agrees 61 = .ok (.iload 5, 2) := by decide +kernel
theorem d_X4_agrees_63 : decode b_X4_agrees 63 = .ok (.aload_n 0, 1) := by decide +kernel
theorem d_X4_agrees_64 : decode b_X4_agrees 64 = .ok (.getfield 50, 3) := by decide +kernel
theorem d_X4_agrees_67 : decode b_X4_agrees 67 = .ok (.iload_n 2, 1) := by decide +kernel
theorem d_X4_agrees_68 : decode b_X4_agrees 68 = .ok (.iconst 1, 1) := by decide +kernel
theorem d_X4_agrees_69 : decode b_X4_agrees 69 = .ok (.invokevirtual 81, 3) := by decide +kernel
theorem d_X4_agrees_72 : decode b_X4_agrees 72 = .ok (.if_icmp .ne 43, 3) := by decide +kernel
theorem d_X4_agrees_75 : decode b_X4_agrees 75 = .ok (.aload_n 0, 1) := by decide +kernel
theorem d_X4_agrees_76 : decode b_X4_agrees 76 = .ok (.getfield 50, 3) := by decide +kernel
theorem d_X4_agrees_79 : decode b_X4_agrees 79 = .ok (.getfield 85, 3) := by decide +kernel
theorem d_X4_agrees_82 : decode b_X4_agrees 82 = .ok (.iload_n 1, 1) := by decide +kernel
theorem d_X4_agrees_83 : decode b_X4_agrees 83 = .ok (.invokestatic 54, 3) := by decide +kernel
theorem d_X4_agrees_86 : decode b_X4_agrees 86 = .ok (.aload_n 0, 1) := by decide +kernel
theorem d_X4_agrees_87 : decode b_X4_agrees 87 = .ok (.getfield 50, 3) := by decide +kernel
theorem d_X4_agrees_90 : decode b_X4_agrees 90 = .ok (.getfield 85, 3) := by decide +kernel
theorem d_X4_agrees_93 : decode b_X4_agrees 93 = .ok (.iload_n 2, 1) := by decide +kernel
theorem d_X4_agrees_94 : decode b_X4_agrees 94 = .ok (.invokestatic 54, 3) := by decide +kernel
theorem d_X4_agrees_97 : decode b_X4_agrees 97 = .ok (.if_icmp .ne 18, 3) := by decide +kernel
theorem d_X4_agrees_100 : decode b_X4_agrees 100 = .ok (.iload_n 3, 1) := by decide +kernel
theorem d_X4_agrees_101 : decode b_X4_agrees 101 = .ok (.iload 4, 2) := by decide +kernel
theorem d_X4_agrees_103 : decode b_X4_agrees 103 = .ok (.if_icmp .eq 8, 3) := by decide +kernel
theorem d_X4_agrees_106 : decode b_X4_agrees 106 = .ok (.iload 6, 2) := by decide +kernel
theorem d_X4_agrees_108 : decode b_X4_agrees 108 = .ok (.ifCond .eq 7, 3) := by decide +kernel
theorem d_X4_agrees_111 : decode b_X4_agrees 111 = .ok (.iconst 1, 1) := by decide +kernel
theorem d_X4_agrees_112 : decode b_X4_agrees 112 = .ok (.goto 4, 3) := by decide +kernel
theorem d_X4_agrees_115 : decode b_X4_agrees 115 = .ok (.iconst 0, 1) := by decide +kernel
theorem d_X4_agrees_116 : decode b_X4_agrees 116 = .ok (.ireturn, 1) := by decide +kernel
theorem d_X4_cellOf_0 : decode b_X4_cellOf 0 = .ok (.aload_n 0, 1) := by decide +kernel
theorem d_X4_cellOf_1 : decode b_X4_cellOf 1 = .ok (.getfield 15, 3) := by decide +kernel
theorem d_X4_cellOf_4 : decode b_X4_cellOf 4 = .ok (.ifCond .eq 21, 3) := by decide +kernel
theorem d_X4_cellOf_7 : decode b_X4_cellOf 7 = .ok (.aload_n 0, 1) := by decide +kernel
theorem d_X4_cellOf_8 : decode b_X4_cellOf 8 = .ok (.aload_n 0, 1) := by decide +kernel
theorem d_X4_cellOf_9 : decode b_X4_cellOf 9 = .ok (.getfield 36, 3) := by decide +kernel
theorem d_X4_cellOf_12 : decode b_X4_cellOf 12 = .ok (.aload_n 0, 1) := by decide +kernel
theorem d_X4_cellOf_13 : decode b_X4_cellOf 13 = .ok (.getfield 33, 3) := by decide +kernel
theorem d_X4_cellOf_16 : decode b_X4_cellOf 16 = .ok (.aload_n 1, 1) := by decide +kernel
theorem d_X4_cellOf_17 : decode b_X4_cellOf 17 = .ok (.iconst 0, 1) := by decide +kernel
theorem d_X4_cellOf_18 : decode b_X4_cellOf 18 = .ok (.iload_n 2, 1) := by decide +kernel
theorem d_X4_cellOf_19 : decode b_X4_cellOf 19 = .ok (.invokevirtual 62, 3) := by decide +kernel
theorem d_X4_cellOf_22 : decode b_X4_cellOf 22 = .ok (.goto 4, 3) := by decide +kernel
theorem d_X4_cellOf_25 : decode b_X4_cellOf 25 = .ok (.iconst (-1), 1) := by decide +kernel
theorem d_X4_cellOf_26 : decode b_X4_cellOf 26 = .ok (.istore_n 3, 1) := by decide +kernel
theorem d_X4_cellOf_27 : decode b_X4_cellOf 27 = .ok (.iload_n 3, 1) := by decide +kernel
theorem d_X4_cellOf_28 : decode b_X4_cellOf 28 = .ok (.ifCond .ge 5, 3) := by decide +kernel
theorem d_X4_cellOf_31 : decode b_X4_cellOf 31 = .ok (.iconst (-1), 1) := by decide +kernel
theorem d_X4_cellOf_32 : decode b_X4_cellOf 32 = .ok (.ireturn, 1) := by decide +kernel
theorem d_X4_cellOf_33 : decode b_X4_cellOf 33 = .ok (.aload_n 0, 1) := by decide +kernel
theorem d_X4_cellOf_34 : decode b_X4_cellOf 34 = .ok (.getfield 50, 3) := by decide +kernel
theorem d_X4_cellOf_37 : decode b_X4_cellOf 37 = .ok (.iload_n 3, 1) := by decide +kernel
theorem d_X4_cellOf_38 : decode b_X4_cellOf 38 = .ok (.iconst 1, 1) := by decide +kernel
theorem d_X4_cellOf_39 : decode b_X4_cellOf 39 = .ok (.invokevirtual 81, 3) := by decide +kernel
theorem d_X4_cellOf_42 : decode b_X4_cellOf 42 = .ok (.ifCond .eq 7, 3) := by decide +kernel
theorem d_X4_cellOf_45 : decode b_X4_cellOf 45 = .ok (.iconst 0, 1) := by decide +kernel
theorem d_X4_cellOf_46 : decode b_X4_cellOf 46 = .ok (.goto 11, 3) := by decide +kernel
theorem d_X4_cellOf_49 : decode b_X4_cellOf 49 = .ok (.aload_n 0, 1) := by decide +kernel
theorem d_X4_cellOf_50 : decode b_X4_cellOf 50 = .ok (.getfield 44, 3) := by decide +kernel
theorem d_X4_cellOf_53 : decode b_X4_cellOf 53 = .ok (.iload_n 3, 1) := by decide +kernel
theorem d_X4_cellOf_54 : decode b_X4_cellOf 54 = .ok (.invokestatic 54, 3) := by decide +kernel
theorem d_X4_cellOf_57 : decode b_X4_cellOf 57 = .ok (.ireturn, 1) := by decide +kernel
theorem d_X4_choose_0 : decode b_X4_choose 0 = .ok (.iconst 1, 1) := by decide +kernel
theorem d_X4_choose_1 : decode b_X4_choose 1 = .ok (.istore_n 2, 1) := by decide +kernel
theorem d_X4_choose_2 : decode b_X4_choose 2 = .ok (.iload_n 2, 1) := by decide +kernel
theorem d_X4_choose_3 : decode b_X4_choose 3 = .ok (.aload_n 0, 1) := by decide +kernel
theorem d_X4_choose_4 : decode b_X4_choose 4 = .ok (.getfield 26, 3) := by decide +kernel
theorem d_X4_choose_7 : decode b_X4_choose 7 = .ok (.if_icmp .ge 23, 3) := by decide +kernel
theorem d_X4_choose_10 : decode b_X4_choose 10 = .ok (.aload_n 0, 1) := by decide +kernel
theorem d_X4_choose_11 : decode b_X4_choose 11 = .ok (.getfield 29, 3) := by decide +kernel
theorem d_X4_choose_14 : decode b_X4_choose 14 = .ok (.iload_n 2, 1) := by decide +kernel
theorem d_X4_choose_15 : decode b_X4_choose 15 = .ok (.invokestatic 54, 3) := by decide +kernel
theorem d_X4_choose_18 : decode b_X4_choose 18 = .ok (.iload_n 1, 1) := by decide +kernel
theorem d_X4_choose_19 : decode b_X4_choose 19 = .ok (.if_icmp .ne 5, 3) := by decide +kernel
theorem d_X4_choose_22 : decode b_X4_choose 22 = .ok (.iconst (-1), 1) := by decide +kernel
theorem d_X4_choose_23 : decode b_X4_choose 23 = .ok (.ireturn, 1) := by decide +kernel
theorem d_X4_choose_24 : decode b_X4_choose 24 = .ok (.iinc 2 1, 3) := by decide +kernel
theorem d_X4_choose_27 : decode b_X4_choose 27 = .ok (.goto (-25), 3) := by decide +kernel
theorem d_X4_choose_30 : decode b_X4_choose 30 = .ok (.aload_n 0, 1) := by decide +kernel
theorem d_X4_choose_31 : decode b_X4_choose 31 = .ok (.getfield 29, 3) := by decide +kernel
theorem d_X4_choose_34 : decode b_X4_choose 34 = .ok (.aload_n 0, 1) := by decide +kernel
theorem d_X4_choose_35 : decode b_X4_choose 35 = .ok (.getfield 26, 3) := by decide +kernel
theorem d_X4_choose_38 : decode b_X4_choose 38 = .ok (.iload_n 1, 1) := by decide +kernel
theorem d_X4_choose_39 : decode b_X4_choose 39 = .ok (.invokestatic 58, 3) := by decide +kernel
theorem d_X4_choose_42 : decode b_X4_choose 42 = .ok (.aload_n 0, 1) := by decide +kernel
theorem d_X4_choose_43 : decode b_X4_choose 43 = .ok (.dup, 1) := by decide +kernel
theorem d_X4_choose_44 : decode b_X4_choose 44 = .ok (.getfield 26, 3) := by decide +kernel
theorem d_X4_choose_47 : decode b_X4_choose 47 = .ok (.iconst 1, 1) := by decide +kernel
theorem d_X4_choose_48 : decode b_X4_choose 48 = .ok (.iadd, 1) := by decide +kernel
theorem d_X4_choose_49 : decode b_X4_choose 49 = .ok (.putfield 26, 3) := by decide +kernel
theorem d_X4_choose_52 : decode b_X4_choose 52 = .ok (.aload_n 0, 1) := by decide +kernel
theorem d_X4_choose_53 : decode b_X4_choose 53 = .ok (.getfield 26, 3) := by decide +kernel
theorem d_X4_choose_56 : decode b_X4_choose 56 = .ok (.iconst 1, 1) := by decide +kernel
theorem d_X4_choose_57 : decode b_X4_choose 57 = .ok (.isub, 1) := by decide +kernel
theorem d_X4_choose_58 : decode b_X4_choose 58 = .ok (.ireturn, 1) := by decide +kernel
theorem d_X4_dataCells_0 : decode b_X4_dataCells 0 = .ok (.iconst 0, 1) := by decide +kernel
theorem d_X4_dataCells_1 : decode b_X4_dataCells 1 = .ok (.istore_n 1, 1) := by decide +kernel
theorem d_X4_dataCells_2 : decode b_X4_dataCells 2 = .ok (.iconst 1, 1) := by decide +kernel
theorem d_X4_dataCells_3 : decode b_X4_dataCells 3 = .ok (.istore_n 2, 1) := by decide +kernel
theorem d_X4_dataCells_4 : decode b_X4_dataCells 4 = .ok (.iload_n 2, 1) := by decide +kernel
theorem d_X4_dataCells_5 : decode b_X4_dataCells 5 = .ok (.aload_n 0, 1) := by decide +kernel
theorem d_X4_dataCells_6 : decode b_X4_dataCells 6 = .ok (.getfield 26, 3) := by decide +kernel
theorem d_X4_dataCells_9 : decode b_X4_dataCells 9 = .ok (.if_icmp .ge 30, 3) := by decide +kernel
theorem d_X4_dataCells_12 : decode b_X4_dataCells 12 = .ok (.iload_n 1, 1) := by decide +kernel
theorem d_X4_dataCells_13 : decode b_X4_dataCells 13 = .ok (.aload_n 0, 1) := by decide +kernel
theorem d_X4_dataCells_14 : decode b_X4_dataCells 14 = .ok (.getfield 50, 3) := by decide +kernel
theorem d_X4_dataCells_17 : decode b_X4_dataCells 17 = .ok (.getfield 91, 3) := by decide +kernel
theorem d_X4_dataCells_20 : decode b_X4_dataCells 20 = .ok (.aload_n 0, 1) := by decide +kernel
theorem d_X4_dataCells_21 : decode b_X4_dataCells 21 = .ok (.getfield 29, 3) := by decide +kernel
theorem d_X4_dataCells_24 : decode b_X4_dataCells 24 = .ok (.iload_n 2, 1) := by decide +kernel
theorem d_X4_dataCells_25 : decode b_X4_dataCells 25 = .ok (.invokestatic 54, 3) := by decide +kernel
theorem d_X4_dataCells_28 : decode b_X4_dataCells 28 = .ok (.invokestatic 54, 3) := by decide +kernel
theorem d_X4_dataCells_31 : decode b_X4_dataCells 31 = .ok (.iadd, 1) := by decide +kernel
theorem d_X4_dataCells_32 : decode b_X4_dataCells 32 = .ok (.istore_n 1, 1) := by decide +kernel
theorem d_X4_dataCells_33 : decode b_X4_dataCells 33 = .ok (.iinc 2 1, 3) := by decide +kernel
theorem d_X4_dataCells_36 : decode b_X4_dataCells 36 = .ok (.goto (-32), 3) := by decide +kernel
theorem d_X4_dataCells_39 : decode b_X4_dataCells 39 = .ok (.iload_n 1, 1) := by decide +kernel
theorem d_X4_dataCells_40 : decode b_X4_dataCells 40 = .ok (.ireturn, 1) := by decide +kernel
theorem d_X4_definition_0 : decode b_X4_definition 0 = .ok (.aload_n 0, 1) := by decide +kernel
theorem d_X4_definition_1 : decode b_X4_definition 1 = .ok (.getfield 50, 3) := by decide +kernel
theorem d_X4_definition_4 : decode b_X4_definition 4 = .ok (.iload_n 2, 1) := by decide +kernel
theorem d_X4_definition_5 : decode b_X4_definition 5 = .ok (.invokevirtual 110, 3) := by decide +kernel
theorem d_X4_definition_8 : decode b_X4_definition 8 = .ok (.istore_n 3, 1) := by decide +kernel
theorem d_X4_definition_9 : decode b_X4_definition 9 = .ok (.aload_n 0, 1) := by decide +kernel
theorem d_X4_definition_10 : decode b_X4_definition 10 = .ok (.aload_n 0, 1) := by decide +kernel
theorem d_X4_definition_11 : decode b_X4_definition 11 = .ok (.getfield 29, 3) := by decide +kernel
theorem d_X4_definition_14 : decode b_X4_definition 14 = .ok (.iload_n 1, 1) := by decide +kernel
theorem d_X4_definition_15 : decode b_X4_definition 15 = .ok (.aload_n 0, 1) := by decide +kernel
theorem d_X4_definition_16 : decode b_X4_definition 16 = .ok (.getfield 50, 3) := by decide +kernel
theorem d_X4_definition_19 : decode b_X4_definition 19 = .ok (.getfield 113, 3) := by decide +kernel
theorem d_X4_definition_22 : decode b_X4_definition 22 = .ok (.iload_n 3, 1) := by decide +kernel
theorem d_X4_definition_23 : decode b_X4_definition 23 = .ok (.aload_n 0, 1) := by decide +kernel
theorem d_X4_definition_24 : decode b_X4_definition 24 = .ok (.getfield 50, 3) := by decide +kernel
theorem d_X4_definition_27 : decode b_X4_definition 27 = .ok (.getfield 116, 3) := by decide +kernel
theorem d_X4_definition_30 : decode b_X4_definition 30 = .ok (.iload_n 2, 1) := by decide +kernel
theorem d_X4_definition_31 : decode b_X4_definition 31 = .ok (.invokestatic 54, 3) := by decide +kernel
theorem d_X4_definition_34 : decode b_X4_definition 34 = .ok (.iload_n 3, 1) := by decide +kernel
theorem d_X4_definition_35 : decode b_X4_definition 35 = .ok (.isub, 1) := by decide +kernel
theorem d_X4_definition_36 : decode b_X4_definition 36 = .ok (.invokevirtual 62, 3) := by decide +kernel
theorem d_X4_definition_39 : decode b_X4_definition 39 = .ok (.ireturn, 1) := by decide +kernel
theorem d_X4_fill_0 : decode b_X4_fill 0 = .ok (.iconst 1, 1) := by decide +kernel
theorem d_X4_fill_1 : decode b_X4_fill 1 = .ok (.istore_n 2, 1) := by decide +kernel
theorem d_X4_fill_2 : decode b_X4_fill 2 = .ok (.iload_n 2, 1) := by decide +kernel
theorem d_X4_fill_3 : decode b_X4_fill 3 = .ok (.aload_n 0, 1) := by decide +kernel
theorem d_X4_fill_4 : decode b_X4_fill 4 = .ok (.getfield 33, 3) := by decide +kernel
theorem d_X4_fill_7 : decode b_X4_fill 7 = .ok (.if_icmp .ge 152, 3) := by decide +kernel
theorem d_X4_fill_10 : decode b_X4_fill 10 = .ok (.aload_n 0, 1) := by decide +kernel
theorem d_X4_fill_11 : decode b_X4_fill 11 = .ok (.getfield 36, 3) := by decide +kernel
theorem d_X4_fill_14 : decode b_X4_fill 14 = .ok (.iload_n 2, 1) := by decide +kernel
theorem d_X4_fill_15 : decode b_X4_fill 15 = .ok (.invokestatic 54, 3) := by decide +kernel
theorem d_X4_fill_18 : decode b_X4_fill 18 = .ok (.istore_n 3, 1) := by decide +kernel
theorem d_X4_fill_19 : decode b_X4_fill 19 = .ok (.aload_n 0, 1) := by decide +kernel
theorem d_X4_fill_20 : decode b_X4_fill 20 = .ok (.getfield 50, 3) := by decide +kernel
theorem d_X4_fill_23 : decode b_X4_fill 23 = .ok (.getfield 130, 3) := by decide +kernel
theorem d_X4_fill_26 : decode b_X4_fill 26 = .ok (.iload_n 3, 1) := by decide +kernel
theorem d_X4_fill_27 : decode b_X4_fill 27 = .ok (.iconst 1, 1) := by decide +kernel
theorem d_X4_fill_28 : decode b_X4_fill 28 = .ok (.isub, 1) := by decide +kernel
theorem d_X4_fill_29 : decode b_X4_fill 29 = .ok (.invokestatic 54, 3) := by decide +kernel
theorem d_X4_fill_32 : decode b_X4_fill 32 = .ok (.istore 4, 2) := by decide +kernel
theorem d_X4_fill_34 : decode b_X4_fill 34 = .ok (.iload 4, 2) := by decide +kernel
theorem d_X4_fill_36 : decode b_X4_fill 36 = .ok (.aload_n 0, 1) := by decide +kernel
theorem d_X4_fill_37 : decode b_X4_fill 37 = .ok (.getfield 50, 3) := by decide +kernel
theorem d_X4_fill_40 : decode b_X4_fill 40 = .ok (.getfield 130, 3) := by decide +kernel
theorem d_X4_fill_43 : decode b_X4_fill 43 = .ok (.iload_n 3, 1) := by decide +kernel
theorem d_X4_fill_44 : decode b_X4_fill 44 = .ok (.invokestatic 54, 3) := by decide +kernel
theorem d_X4_fill_47 : decode b_X4_fill 47 = .ok (.if_icmp .ge 106, 3) := by decide +kernel
theorem d_X4_fill_50 : decode b_X4_fill 50 = .ok (.aload_n 0, 1) := by decide +kernel
theorem d_X4_fill_51 : decode b_X4_fill 51 = .ok (.getfield 50, 3) := by decide +kernel
theorem d_X4_fill_54 : decode b_X4_fill 54 = .ok (.getfield 133, 3) := by decide +kernel
theorem d_X4_fill_57 : decode b_X4_fill 57 = .ok (.iload 4, 2) := by decide +kernel
theorem d_X4_fill_59 : decode b_X4_fill 59 = .ok (.invokestatic 54, 3) := by decide +kernel
theorem d_X4_fill_62 : decode b_X4_fill 62 = .ok (.istore 5, 2) := by decide +kernel
theorem d_X4_fill_64 : decode b_X4_fill 64 = .ok (.iload 5, 2) := by decide +kernel
theorem d_X4_fill_66 : decode b_X4_fill 66 = .ok (.bipush (-2), 2) := by decide +kernel
theorem d_X4_fill_68 : decode b_X4_fill 68 = .ok (.if_icmp .ne 7, 3) := by decide +kernel
theorem d_X4_fill_71 : decode b_X4_fill 71 = .ok (.iconst 0, 1) := by decide +kernel
theorem d_X4_fill_72 : decode b_X4_fill 72 = .ok (.goto 29, 3) := by decide +kernel
theorem d_X4_fill_75 : decode b_X4_fill 75 = .ok (.iload 5, 2) := by decide +kernel
theorem d_X4_fill_77 : decode b_X4_fill 77 = .ok (.iconst (-1), 1) := by decide +kernel
theorem d_X4_fill_78 : decode b_X4_fill 78 = .ok (.if_icmp .ne 14, 3) := by decide +kernel
theorem d_X4_fill_81 : decode b_X4_fill 81 = .ok (.aload_n 0, 1) := by decide +kernel
theorem d_X4_fill_82 : decode b_X4_fill 82 = .ok (.getfield 39, 3) := by decide +kernel
theorem d_X4_fill_85 : decode b_X4_fill 85 = .ok (.iload_n 3, 1) := by decide +kernel
theorem d_X4_fill_86 : decode b_X4_fill 86 = .ok (.invokestatic 54, 3) := by decide +kernel
theorem d_X4_fill_89 : decode b_X4_fill 89 = .ok (.goto 12, 3) := by decide +kernel
theorem d_X4_fill_92 : decode b_X4_fill 92 = .ok (.aload_n 0, 1) := by decide +kernel
theorem d_X4_fill_93 : decode b_X4_fill 93 = .ok (.getfield 44, 3) := by decide +kernel
theorem d_X4_fill_96 : decode b_X4_fill 96 = .ok (.iload 5, 2) := by decide +kernel
theorem d_X4_fill_98 : decode b_X4_fill 98 = .ok (.invokestatic 54, 3) := by decide +kernel
theorem d_X4_fill_101 : decode b_X4_fill 101 = .ok (.istore 6, 2) := by decide +kernel
theorem d_X4_fill_103 : decode b_X4_fill 103 = .ok (.aload_n 0, 1) := by decide +kernel
theorem d_X4_fill_104 : decode b_X4_fill 104 = .ok (.getfield 39, 3) := by decide +kernel
theorem d_X4_fill_107 : decode b_X4_fill 107 = .ok (.iload_n 3, 1) := by decide +kernel
theorem d_X4_fill_108 : decode b_X4_fill 108 = .ok (.invokestatic 54, 3) := by decide +kernel
theorem d_X4_fill_111 : decode b_X4_fill 111 = .ok (.aload_n 0, 1) := by decide +kernel
theorem d_X4_fill_112 : decode b_X4_fill 112 = .ok (.getfield 50, 3) := by decide +kernel
theorem d_X4_fill_115 : decode b_X4_fill 115 = .ok (.getfield 136, 3) := by decide +kernel
theorem d_X4_fill_118 : decode b_X4_fill 118 = .ok (.iload 4, 2) := by decide +kernel
theorem d_X4_fill_120 : decode b_X4_fill 120 = .ok (.invokestatic 54, 3) := by decide +kernel
theorem d_X4_fill_123 : decode b_X4_fill 123 = .ok (.iadd, 1) := by decide +kernel
theorem d_X4_fill_124 : decode b_X4_fill 124 = .ok (.istore 7, 2) := by decide +kernel
theorem d_X4_fill_126 : decode b_X4_fill 126 = .ok (.aload_n 1, 1) := by decide +kernel
theorem d_X4_fill_127 : decode b_X4_fill 127 = .ok (.iload 7, 2) := by decide +kernel
theorem d_X4_fill_129 : decode b_X4_fill 129 = .ok (.iload 6, 2) := by decide +kernel
theorem d_X4_fill_131 : decode b_X4_fill 131 = .ok (.aload_n 0, 1) := by decide +kernel
theorem d_X4_fill_132 : decode b_X4_fill 132 = .ok (.getfield 50, 3) := by decide +kernel
theorem d_X4_fill_135 : decode b_X4_fill 135 = .ok (.getfield 139, 3) := by decide +kernel
theorem d_X4_fill_138 : decode b_X4_fill 138 = .ok (.iload 4, 2) := by decide +kernel
theorem d_X4_fill_140 : decode b_X4_fill 140 = .ok (.invokestatic 54, 3) := by decide +kernel
theorem d_X4_fill_143 : decode b_X4_fill 143 = .ok (.iadd, 1) := by decide +kernel
theorem d_X4_fill_144 : decode b_X4_fill 144 = .ok (.invokestatic 58, 3) := by decide +kernel
theorem d_X4_fill_147 : decode b_X4_fill 147 = .ok (.iinc 4 1, 3) := by decide +kernel
theorem d_X4_fill_150 : decode b_X4_fill 150 = .ok (.goto (-116), 3) := by decide +kernel
theorem d_X4_fill_153 : decode b_X4_fill 153 = .ok (.iinc 2 1, 3) := by decide +kernel
theorem d_X4_fill_156 : decode b_X4_fill 156 = .ok (.goto (-154), 3) := by decide +kernel
theorem d_X4_fill_159 : decode b_X4_fill 159 = .ok (.return_, 1) := by decide +kernel
theorem d_X4_find_0 : decode b_X4_find 0 = .ok (.iconst 0, 1) := by decide +kernel
theorem d_X4_find_1 : decode b_X4_find 1 = .ok (.istore 6, 2) := by decide +kernel
theorem d_X4_find_3 : decode b_X4_find 3 = .ok (.iload 6, 2) := by decide +kernel
theorem d_X4_find_5 : decode b_X4_find 5 = .ok (.iload_n 2, 1) := by decide +kernel
theorem d_X4_find_6 : decode b_X4_find 6 = .ok (.if_icmp .ge 97, 3) := by decide +kernel
theorem d_X4_find_9 : decode b_X4_find 9 = .ok (.aload_n 1, 1) := by decide +kernel
theorem d_X4_find_10 : decode b_X4_find 10 = .ok (.iload 6, 2) := by decide +kernel
theorem d_X4_find_12 : decode b_X4_find 12 = .ok (.invokestatic 54, 3) := by decide +kernel
theorem d_X4_find_15 : decode b_X4_find 15 = .ok (.istore 7, 2) := by decide +kernel
theorem d_X4_find_17 : decode b_X4_find 17 = .ok (.aload_n 0, 1) := by decide +kernel
theorem d_X4_find_18 : decode b_X4_find 18 = .ok (.getfield 50, 3) := by decide +kernel
theorem d_X4_find_21 : decode b_X4_find 21 = .ok (.iload 7, 2) := by decide +kernel
theorem d_X4_find_23 : decode b_X4_find 23 = .ok (.invokevirtual 93, 3) := by decide +kernel
theorem d_X4_find_26 : decode b_X4_find 26 = .ok (.istore 8, 2) := by decide +kernel
theorem d_X4_find_28 : decode b_X4_find 28 = .ok (.iload 8, 2) := by decide +kernel
theorem d_X4_find_30 : decode b_X4_find 30 = .ok (.aload_n 0, 1) := by decide +kernel
theorem d_X4_find_31 : decode b_X4_find 31 = .ok (.getfield 50, 3) := by decide +kernel
theorem d_X4_find_34 : decode b_X4_find 34 = .ok (.getfield 96, 3) := by decide +kernel
theorem d_X4_find_37 : decode b_X4_find 37 = .ok (.iload 7, 2) := by decide +kernel
theorem d_X4_find_39 : decode b_X4_find 39 = .ok (.invokestatic 54, 3) := by decide +kernel
theorem d_X4_find_42 : decode b_X4_find 42 = .ok (.if_icmp .ge 55, 3) := by decide +kernel
theorem d_X4_find_45 : decode b_X4_find 45 = .ok (.aload_n 0, 1) := by decide +kernel
theorem d_X4_find_46 : decode b_X4_find 46 = .ok (.getfield 50, 3) := by decide +kernel
theorem d_X4_find_49 : decode b_X4_find 49 = .ok (.iload 8, 2) := by decide +kernel
theorem d_X4_find_51 : decode b_X4_find 51 = .ok (.iconst 4, 1) := by decide +kernel
theorem d_X4_find_52 : decode b_X4_find 52 = .ok (.invokevirtual 81, 3) := by decide +kernel
theorem d_X4_find_55 : decode b_X4_find 55 = .ok (.ifCond .eq 36, 3) := by decide +kernel
theorem d_X4_find_58 : decode b_X4_find 58 = .ok (.aload_n 0, 1) := by decide +kernel
theorem d_X4_find_59 : decode b_X4_find 59 = .ok (.getfield 50, 3) := by decide +kernel
theorem d_X4_find_62 : decode b_X4_find 62 = .ok (.iload 8, 2) := by decide +kernel
theorem d_X4_find_64 : decode b_X4_find 64 = .ok (.iconst 2, 1) := by decide +kernel
theorem d_X4_find_65 : decode b_X4_find 65 = .ok (.invokevirtual 81, 3) := by decide +kernel
theorem d_X4_find_68 : decode b_X4_find 68 = .ok (.ifCond .ne 23, 3) := by decide +kernel
theorem d_X4_find_71 : decode b_X4_find 71 = .ok (.aload_n 0, 1) := by decide +kernel
theorem d_X4_find_72 : decode b_X4_find 72 = .ok (.getfield 50, 3) := by decide +kernel
theorem d_X4_find_75 : decode b_X4_find 75 = .ok (.iload 8, 2) := by decide +kernel
theorem d_X4_find_77 : decode b_X4_find 77 = .ok (.aload_n 3, 1) := by decide +kernel
theorem d_X4_find_78 : decode b_X4_find 78 = .ok (.iload 4, 2) := by decide +kernel
theorem d_X4_find_80 : decode b_X4_find 80 = .ok (.iload 5, 2) := by decide +kernel
theorem d_X4_find_82 : decode b_X4_find 82 = .ok (.invokevirtual 119, 3) := by decide +kernel
theorem d_X4_find_85 : decode b_X4_find 85 = .ok (.ifCond .eq 6, 3) := by decide +kernel
theorem d_X4_find_88 : decode b_X4_find 88 = .ok (.iload 8, 2) := by decide +kernel
theorem d_X4_find_90 : decode b_X4_find 90 = .ok (.ireturn, 1) := by decide +kernel
theorem d_X4_find_91 : decode b_X4_find 91 = .ok (.iinc 8 1, 3) := by decide +kernel
theorem d_X4_find_94 : decode b_X4_find 94 = .ok (.goto (-66), 3) := by decide +kernel
theorem d_X4_find_97 : decode b_X4_find 97 = .ok (.iinc 6 1, 3) := by decide +kernel
theorem d_X4_find_100 : decode b_X4_find 100 = .ok (.goto (-97), 3) := by decide +kernel
theorem d_X4_find_103 : decode b_X4_find 103 = .ok (.iconst (-1), 1) := by decide +kernel
theorem d_X4_find_104 : decode b_X4_find 104 = .ok (.ireturn, 1) := by decide +kernel
theorem d_X4_isMain_0 : decode b_X4_isMain 0 = .ok (.iload_n 1, 1) := by decide +kernel
theorem d_X4_isMain_1 : decode b_X4_isMain 1 = .ok (.ifCond .lt 47, 3) := by decide +kernel
theorem d_X4_isMain_4 : decode b_X4_isMain 4 = .ok (.aload_n 0, 1) := by decide +kernel
theorem d_X4_isMain_5 : decode b_X4_isMain 5 = .ok (.getfield 50, 3) := by decide +kernel
theorem d_X4_isMain_8 : decode b_X4_isMain 8 = .ok (.iload_n 1, 1) := by decide +kernel
theorem d_X4_isMain_9 : decode b_X4_isMain 9 = .ok (.iconst 1, 1) := by decide +kernel
theorem d_X4_isMain_10 : decode b_X4_isMain 10 = .ok (.invokevirtual 81, 3) := by decide +kernel
theorem d_X4_isMain_13 : decode b_X4_isMain 13 = .ok (.ifCond .eq 35, 3) := by decide +kernel
theorem d_X4_isMain_16 : decode b_X4_isMain 16 = .ok (.aload_n 0, 1) := by decide +kernel
theorem d_X4_isMain_17 : decode b_X4_isMain 17 = .ok (.getfield 50, 3) := by decide +kernel
theorem d_X4_isMain_20 : decode b_X4_isMain 20 = .ok (.getfield 85, 3) := by decide +kernel
theorem d_X4_isMain_23 : decode b_X4_isMain 23 = .ok (.iload_n 1, 1) := by decide +kernel
theorem d_X4_isMain_24 : decode b_X4_isMain 24 = .ok (.invokestatic 54, 3) := by decide +kernel
theorem d_X4_isMain_27 : decode b_X4_isMain 27 = .ok (.ifCond .ne 21, 3) := by decide +kernel
theorem d_X4_isMain_30 : decode b_X4_isMain 30 = .ok (.aload_n 0, 1) := by decide +kernel
theorem d_X4_isMain_31 : decode b_X4_isMain 31 = .ok (.getfield 50, 3) := by decide +kernel
theorem d_X4_isMain_34 : decode b_X4_isMain 34 = .ok (.getfield 88, 3) := by decide +kernel
theorem d_X4_isMain_37 : decode b_X4_isMain 37 = .ok (.iload_n 1, 1) := by decide +kernel
theorem d_X4_isMain_38 : decode b_X4_isMain 38 = .ok (.invokestatic 54, 3) := by decide +kernel
theorem d_X4_isMain_41 : decode b_X4_isMain 41 = .ok (.ifCond .ne 7, 3) := by decide +kernel
theorem d_X4_isMain_44 : decode b_X4_isMain 44 = .ok (.iconst 1, 1) := by decide +kernel
theorem d_X4_isMain_45 : decode b_X4_isMain 45 = .ok (.goto 4, 3) := by decide +kernel
theorem d_X4_isMain_48 : decode b_X4_isMain 48 = .ok (.iconst 0, 1) := by decide +kernel
theorem d_X4_isMain_49 : decode b_X4_isMain 49 = .ok (.ireturn, 1) := by decide +kernel
theorem d_X4_isWrong_0 : decode b_X4_isWrong 0 = .ok (.aload_n 0, 1) := by decide +kernel
theorem d_X4_isWrong_1 : decode b_X4_isWrong 1 = .ok (.getfield 50, 3) := by decide +kernel
theorem d_X4_isWrong_4 : decode b_X4_isWrong 4 = .ok (.iload_n 3, 1) := by decide +kernel
theorem d_X4_isWrong_5 : decode b_X4_isWrong 5 = .ok (.iconst 4, 1) := by decide +kernel
theorem d_X4_isWrong_6 : decode b_X4_isWrong 6 = .ok (.invokevirtual 81, 3) := by decide +kernel
theorem d_X4_isWrong_9 : decode b_X4_isWrong 9 = .ok (.ifCond .eq 24, 3) := by decide +kernel
theorem d_X4_isWrong_12 : decode b_X4_isWrong 12 = .ok (.iload_n 1, 1) := by decide +kernel
theorem d_X4_isWrong_13 : decode b_X4_isWrong 13 = .ok (.bipush 31, 2) := by decide +kernel
theorem d_X4_isWrong_15 : decode b_X4_isWrong 15 = .ok (.if_icmp .ne 16, 3) := by decide +kernel
theorem d_X4_isWrong_18 : decode b_X4_isWrong 18 = .ok (.aload_n 0, 1) := by decide +kernel
theorem d_X4_isWrong_19 : decode b_X4_isWrong 19 = .ok (.iload_n 2, 1) := by decide +kernel
theorem d_X4_isWrong_20 : decode b_X4_isWrong 20 = .ok (.iload_n 3, 1) := by decide +kernel
theorem d_X4_isWrong_21 : decode b_X4_isWrong 21 = .ok (.invokevirtual 103, 3) := by decide +kernel
theorem d_X4_isWrong_24 : decode b_X4_isWrong 24 = .ok (.ifCond .lt 7, 3) := by decide +kernel
theorem d_X4_isWrong_27 : decode b_X4_isWrong 27 = .ok (.iconst 1, 1) := by decide +kernel
theorem d_X4_isWrong_28 : decode b_X4_isWrong 28 = .ok (.goto 4, 3) := by decide +kernel
theorem d_X4_isWrong_31 : decode b_X4_isWrong 31 = .ok (.iconst 0, 1) := by decide +kernel
theorem d_X4_isWrong_32 : decode b_X4_isWrong 32 = .ok (.ireturn, 1) := by decide +kernel
theorem d_X4_isWrong_33 : decode b_X4_isWrong 33 = .ok (.iload_n 1, 1) := by decide +kernel
theorem d_X4_isWrong_34 : decode b_X4_isWrong 34 = .ok (.bipush 32, 2) := by decide +kernel
theorem d_X4_isWrong_36 : decode b_X4_isWrong 36 = .ok (.if_icmp .ne 34, 3) := by decide +kernel
theorem d_X4_isWrong_39 : decode b_X4_isWrong 39 = .ok (.aload_n 0, 1) := by decide +kernel
theorem d_X4_isWrong_40 : decode b_X4_isWrong 40 = .ok (.getfield 50, 3) := by decide +kernel
theorem d_X4_isWrong_43 : decode b_X4_isWrong 43 = .ok (.iload_n 3, 1) := by decide +kernel
theorem d_X4_isWrong_44 : decode b_X4_isWrong 44 = .ok (.bipush 8, 2) := by decide +kernel
theorem d_X4_isWrong_46 : decode b_X4_isWrong 46 = .ok (.invokevirtual 81, 3) := by decide +kernel
theorem d_X4_isWrong_49 : decode b_X4_isWrong 49 = .ok (.ifCond .eq 19, 3) := by decide +kernel
theorem d_X4_isWrong_52 : decode b_X4_isWrong 52 = .ok (.aload_n 0, 1) := by decide +kernel
theorem d_X4_isWrong_53 : decode b_X4_isWrong 53 = .ok (.aload_n 0, 1) := by decide +kernel
theorem d_X4_isWrong_54 : decode b_X4_isWrong 54 = .ok (.getfield 26, 3) := by decide +kernel
theorem d_X4_isWrong_57 : decode b_X4_isWrong 57 = .ok (.iload_n 3, 1) := by decide +kernel
theorem d_X4_isWrong_58 : decode b_X4_isWrong 58 = .ok (.invokevirtual 103, 3) := by decide +kernel
theorem d_X4_isWrong_61 : decode b_X4_isWrong 61 = .ok (.ifCond .ge 7, 3) := by decide +kernel
theorem d_X4_isWrong_64 : decode b_X4_isWrong 64 = .ok (.iconst 1, 1) := by decide +kernel
theorem d_X4_isWrong_65 : decode b_X4_isWrong 65 = .ok (.goto 4, 3) := by decide +kernel
theorem d_X4_isWrong_68 : decode b_X4_isWrong 68 = .ok (.iconst 0, 1) := by decide +kernel
theorem d_X4_isWrong_69 : decode b_X4_isWrong 69 = .ok (.ireturn, 1) := by decide +kernel
theorem d_X4_isWrong_70 : decode b_X4_isWrong 70 = .ok (.iload_n 1, 1) := by decide +kernel
theorem d_X4_isWrong_71 : decode b_X4_isWrong 71 = .ok (.bipush 33, 2) := by decide +kernel
theorem d_X4_isWrong_73 : decode b_X4_isWrong 73 = .ok (.if_icmp .ne 24, 3) := by decide +kernel
theorem d_X4_isWrong_76 : decode b_X4_isWrong 76 = .ok (.aload_n 0, 1) := by decide +kernel
theorem d_X4_isWrong_77 : decode b_X4_isWrong 77 = .ok (.iload_n 3, 1) := by decide +kernel
theorem d_X4_isWrong_78 : decode b_X4_isWrong 78 = .ok (.aload_n 0, 1) := by decide +kernel
theorem d_X4_isWrong_79 : decode b_X4_isWrong 79 = .ok (.aload_n 0, 1) := by decide +kernel
theorem d_X4_isWrong_80 : decode b_X4_isWrong 80 = .ok (.getfield 26, 3) := by decide +kernel
theorem d_X4_isWrong_83 : decode b_X4_isWrong 83 = .ok (.iload_n 3, 1) := by decide +kernel
theorem d_X4_isWrong_84 : decode b_X4_isWrong 84 = .ok (.invokevirtual 103, 3) := by decide +kernel
theorem d_X4_isWrong_87 : decode b_X4_isWrong 87 = .ok (.invokevirtual 107, 3) := by decide +kernel
theorem d_X4_isWrong_90 : decode b_X4_isWrong 90 = .ok (.ifCond .ne 7, 3) := by decide +kernel
theorem d_X4_isWrong_93 : decode b_X4_isWrong 93 = .ok (.iconst 1, 1) := by decide +kernel
theorem d_X4_isWrong_94 : decode b_X4_isWrong 94 = .ok (.goto 4, 3) := by decide +kernel
theorem d_X4_isWrong_97 : decode b_X4_isWrong 97 = .ok (.iconst 0, 1) := by decide +kernel
theorem d_X4_isWrong_98 : decode b_X4_isWrong 98 = .ok (.ireturn, 1) := by decide +kernel
theorem d_X4_join_0 : decode b_X4_join 0 = .ok (.aload_n 0, 1) := by decide +kernel
theorem d_X4_join_1 : decode b_X4_join 1 = .ok (.iconst (-1), 1) := by decide +kernel
theorem d_X4_join_2 : decode b_X4_join 2 = .ok (.putfield 19, 3) := by decide +kernel
theorem d_X4_join_5 : decode b_X4_join 5 = .ok (.aload_n 0, 1) := by decide +kernel
theorem d_X4_join_6 : decode b_X4_join 6 = .ok (.iconst (-1), 1) := by decide +kernel
theorem d_X4_join_7 : decode b_X4_join 7 = .ok (.putfield 23, 3) := by decide +kernel
theorem d_X4_join_10 : decode b_X4_join 10 = .ok (.aload_n 0, 1) := by decide +kernel
theorem d_X4_join_11 : decode b_X4_join 11 = .ok (.aload_n 0, 1) := by decide +kernel
theorem d_X4_join_12 : decode b_X4_join 12 = .ok (.getfield 29, 3) := by decide +kernel
theorem d_X4_join_15 : decode b_X4_join 15 = .ok (.aload_n 0, 1) := by decide +kernel
theorem d_X4_join_16 : decode b_X4_join 16 = .ok (.getfield 26, 3) := by decide +kernel
theorem d_X4_join_19 : decode b_X4_join 19 = .ok (.aload_n 0, 1) := by decide +kernel
theorem d_X4_join_20 : decode b_X4_join 20 = .ok (.getfield 11, 3) := by decide +kernel
theorem d_X4_join_23 : decode b_X4_join 23 = .ok (.iconst 0, 1) := by decide +kernel
theorem d_X4_join_24 : decode b_X4_join 24 = .ok (.iconst 4, 1) := by decide +kernel
theorem d_X4_join_25 : decode b_X4_join 25 = .ok (.invokevirtual 62, 3) := by decide +kernel
theorem d_X4_join_28 : decode b_X4_join 28 = .ok (.istore_n 1, 1) := by decide +kernel
theorem d_X4_join_29 : decode b_X4_join 29 = .ok (.iconst 0, 1) := by decide +kernel
theorem d_X4_join_30 : decode b_X4_join 30 = .ok (.istore_n 2, 1) := by decide +kernel
theorem d_X4_join_31 : decode b_X4_join 31 = .ok (.bipush 31, 2) := by decide +kernel
theorem d_X4_join_33 : decode b_X4_join 33 = .ok (.istore_n 3, 1) := by decide +kernel
theorem d_X4_join_34 : decode b_X4_join 34 = .ok (.iload_n 3, 1) := by decide +kernel
theorem d_X4_join_35 : decode b_X4_join 35 = .ok (.bipush 33, 2) := by decide +kernel
theorem d_X4_join_37 : decode b_X4_join 37 = .ok (.if_icmp .gt 19, 3) := by decide +kernel
theorem d_X4_join_40 : decode b_X4_join 40 = .ok (.iload_n 2, 1) := by decide +kernel
theorem d_X4_join_41 : decode b_X4_join 41 = .ok (.ifCond .ne 15, 3) := by decide +kernel
theorem d_X4_join_44 : decode b_X4_join 44 = .ok (.aload_n 0, 1) := by decide +kernel
theorem d_X4_join_45 : decode b_X4_join 45 = .ok (.iload_n 3, 1) := by decide +kernel
theorem d_X4_join_46 : decode b_X4_join 46 = .ok (.invokevirtual 66, 3) := by decide +kernel
theorem d_X4_join_49 : decode b_X4_join 49 = .ok (.istore_n 2, 1) := by decide +kernel
theorem d_X4_join_50 : decode b_X4_join 50 = .ok (.iinc 3 1, 3) := by decide +kernel
theorem d_X4_join_53 : decode b_X4_join 53 = .ok (.goto (-19), 3) := by decide +kernel
theorem d_X4_join_56 : decode b_X4_join 56 = .ok (.iload_n 2, 1) := by decide +kernel
theorem d_X4_join_57 : decode b_X4_join 57 = .ok (.ifCond .ne 14, 3) := by decide +kernel
theorem d_X4_join_60 : decode b_X4_join 60 = .ok (.aload_n 0, 1) := by decide +kernel
theorem d_X4_join_61 : decode b_X4_join 61 = .ok (.iload_n 1, 1) := by decide +kernel
theorem d_X4_join_62 : decode b_X4_join 62 = .ok (.invokevirtual 70, 3) := by decide +kernel
theorem d_X4_join_65 : decode b_X4_join 65 = .ok (.ifCond .ne 6, 3) := by decide +kernel
theorem d_X4_join_68 : decode b_X4_join 68 = .ok (.bipush 34, 2) := by decide +kernel
theorem d_X4_join_70 : decode b_X4_join 70 = .ok (.istore_n 2, 1) := by decide +kernel
theorem d_X4_join_71 : decode b_X4_join 71 = .ok (.iload_n 2, 1) := by decide +kernel
theorem d_X4_join_72 : decode b_X4_join 72 = .ok (.ifCond .ne 16, 3) := by decide +kernel
theorem d_X4_join_75 : decode b_X4_join 75 = .ok (.aload_n 0, 1) := by decide +kernel
theorem d_X4_join_76 : decode b_X4_join 76 = .ok (.invokevirtual 74, 3) := by decide +kernel
theorem d_X4_join_79 : decode b_X4_join 79 = .ok (.sipush 16000, 3) := by decide +kernel
theorem d_X4_join_82 : decode b_X4_join 82 = .ok (.if_icmp .le 6, 3) := by decide +kernel
theorem d_X4_join_85 : decode b_X4_join 85 = .ok (.bipush 35, 2) := by decide +kernel
theorem d_X4_join_87 : decode b_X4_join 87 = .ok (.istore_n 2, 1) := by decide +kernel
theorem d_X4_join_88 : decode b_X4_join 88 = .ok (.iload_n 2, 1) := by decide +kernel
theorem d_X4_join_89 : decode b_X4_join 89 = .ok (.ifCond .ne 24, 3) := by decide +kernel
theorem d_X4_join_92 : decode b_X4_join 92 = .ok (.aload_n 0, 1) := by decide +kernel
theorem d_X4_join_93 : decode b_X4_join 93 = .ok (.invokevirtual 78, 3) := by decide +kernel
theorem d_X4_join_96 : decode b_X4_join 96 = .ok (.aload_n 0, 1) := by decide +kernel
theorem d_X4_join_97 : decode b_X4_join 97 = .ok (.aload_n 0, 1) := by decide +kernel
theorem d_X4_join_98 : decode b_X4_join 98 = .ok (.getfield 44, 3) := by decide +kernel
theorem d_X4_join_101 : decode b_X4_join 101 = .ok (.iload_n 1, 1) := by decide +kernel
theorem d_X4_join_102 : decode b_X4_join 102 = .ok (.invokestatic 54, 3) := by decide +kernel
theorem d_X4_join_105 : decode b_X4_join 105 = .ok (.putfield 47, 3) := by decide +kernel
theorem d_X4_join_108 : decode b_X4_join 108 = .ok (.aload_n 0, 1) := by decide +kernel
theorem d_X4_join_109 : decode b_X4_join 109 = .ok (.iconst 1, 1) := by decide +kernel
theorem d_X4_join_110 : decode b_X4_join 110 = .ok (.putfield 15, 3) := by decide +kernel
theorem d_X4_join_113 : decode b_X4_join 113 = .ok (.aload_n 0, 1) := by decide +kernel
theorem d_X4_join_114 : decode b_X4_join 114 = .ok (.iconst 1, 1) := by decide +kernel
theorem d_X4_join_115 : decode b_X4_join 115 = .ok (.putfield 26, 3) := by decide +kernel
theorem d_X4_join_118 : decode b_X4_join 118 = .ok (.iload_n 2, 1) := by decide +kernel
theorem d_X4_join_119 : decode b_X4_join 119 = .ok (.ineg, 1) := by decide +kernel
theorem d_X4_join_120 : decode b_X4_join 120 = .ok (.ireturn, 1) := by decide +kernel
theorem d_X4_look_0 : decode b_X4_look 0 = .ok (.iconst 1, 1) := by decide +kernel
theorem d_X4_look_1 : decode b_X4_look 1 = .ok (.istore_n 2, 1) := by decide +kernel
theorem d_X4_look_2 : decode b_X4_look 2 = .ok (.iload_n 2, 1) := by decide +kernel
theorem d_X4_look_3 : decode b_X4_look 3 = .ok (.aload_n 0, 1) := by decide +kernel
theorem d_X4_look_4 : decode b_X4_look 4 = .ok (.getfield 26, 3) := by decide +kernel
theorem d_X4_look_7 : decode b_X4_look 7 = .ok (.if_icmp .ge 119, 3) := by decide +kernel
theorem d_X4_look_10 : decode b_X4_look 10 = .ok (.aload_n 0, 1) := by decide +kernel
theorem d_X4_look_11 : decode b_X4_look 11 = .ok (.getfield 29, 3) := by decide +kernel
theorem d_X4_look_14 : decode b_X4_look 14 = .ok (.iload_n 2, 1) := by decide +kernel
theorem d_X4_look_15 : decode b_X4_look 15 = .ok (.invokestatic 54, 3) := by decide +kernel
theorem d_X4_look_18 : decode b_X4_look 18 = .ok (.istore_n 3, 1) := by decide +kernel
theorem d_X4_look_19 : decode b_X4_look 19 = .ok (.iconst 0, 1) := by decide +kernel
theorem d_X4_look_20 : decode b_X4_look 20 = .ok (.istore 4, 2) := by decide +kernel
theorem d_X4_look_22 : decode b_X4_look 22 = .ok (.aload_n 0, 1) := by decide +kernel
theorem d_X4_look_23 : decode b_X4_look 23 = .ok (.getfield 50, 3) := by decide +kernel
theorem d_X4_look_26 : decode b_X4_look 26 = .ok (.iload_n 3, 1) := by decide +kernel
theorem d_X4_look_27 : decode b_X4_look 27 = .ok (.invokevirtual 93, 3) := by decide +kernel
theorem d_X4_look_30 : decode b_X4_look 30 = .ok (.istore 5, 2) := by decide +kernel
theorem d_X4_look_32 : decode b_X4_look 32 = .ok (.iload 5, 2) := by decide +kernel
theorem d_X4_look_34 : decode b_X4_look 34 = .ok (.aload_n 0, 1) := by decide +kernel
theorem d_X4_look_35 : decode b_X4_look 35 = .ok (.getfield 50, 3) := by decide +kernel
theorem d_X4_look_38 : decode b_X4_look 38 = .ok (.getfield 96, 3) := by decide +kernel
theorem d_X4_look_41 : decode b_X4_look 41 = .ok (.iload_n 3, 1) := by decide +kernel
theorem d_X4_look_42 : decode b_X4_look 42 = .ok (.invokestatic 54, 3) := by decide +kernel
theorem d_X4_look_45 : decode b_X4_look 45 = .ok (.if_icmp .ge 75, 3) := by decide +kernel
theorem d_X4_look_48 : decode b_X4_look 48 = .ok (.aload_n 0, 1) := by decide +kernel
theorem d_X4_look_49 : decode b_X4_look 49 = .ok (.getfield 50, 3) := by decide +kernel
theorem d_X4_look_52 : decode b_X4_look 52 = .ok (.iload 5, 2) := by decide +kernel
theorem d_X4_look_54 : decode b_X4_look 54 = .ok (.iconst 2, 1) := by decide +kernel
theorem d_X4_look_55 : decode b_X4_look 55 = .ok (.invokevirtual 81, 3) := by decide +kernel
theorem d_X4_look_58 : decode b_X4_look 58 = .ok (.ifCond .ne 7, 3) := by decide +kernel
theorem d_X4_look_61 : decode b_X4_look 61 = .ok (.iconst 1, 1) := by decide +kernel
theorem d_X4_look_62 : decode b_X4_look 62 = .ok (.goto 4, 3) := by decide +kernel
theorem d_X4_look_65 : decode b_X4_look 65 = .ok (.iconst 0, 1) := by decide +kernel
theorem d_X4_look_66 : decode b_X4_look 66 = .ok (.istore 6, 2) := by decide +kernel
theorem d_X4_look_68 : decode b_X4_look 68 = .ok (.iload 6, 2) := by decide +kernel
theorem d_X4_look_70 : decode b_X4_look 70 = .ok (.ifCond .eq 29, 3) := by decide +kernel
theorem d_X4_look_73 : decode b_X4_look 73 = .ok (.aload_n 0, 1) := by decide +kernel
theorem d_X4_look_74 : decode b_X4_look 74 = .ok (.iload_n 1, 1) := by decide +kernel
theorem d_X4_look_75 : decode b_X4_look 75 = .ok (.iload_n 2, 1) := by decide +kernel
theorem d_X4_look_76 : decode b_X4_look 76 = .ok (.iload 5, 2) := by decide +kernel
theorem d_X4_look_78 : decode b_X4_look 78 = .ok (.invokevirtual 99, 3) := by decide +kernel
theorem d_X4_look_81 : decode b_X4_look 81 = .ok (.ifCond .eq 18, 3) := by decide +kernel
theorem d_X4_look_84 : decode b_X4_look 84 = .ok (.aload_n 0, 1) := by decide +kernel
theorem d_X4_look_85 : decode b_X4_look 85 = .ok (.iload_n 2, 1) := by decide +kernel
theorem d_X4_look_86 : decode b_X4_look 86 = .ok (.iconst 1, 1) := by decide +kernel
theorem d_X4_look_87 : decode b_X4_look 87 = .ok (.isub, 1) := by decide +kernel
theorem d_X4_look_88 : decode b_X4_look 88 = .ok (.putfield 19, 3) := by decide +kernel
theorem d_X4_look_91 : decode b_X4_look 91 = .ok (.aload_n 0, 1) := by decide +kernel
theorem d_X4_look_92 : decode b_X4_look 92 = .ok (.iload 4, 2) := by decide +kernel
theorem d_X4_look_94 : decode b_X4_look 94 = .ok (.putfield 23, 3) := by decide +kernel
theorem d_X4_look_97 : decode b_X4_look 97 = .ok (.iload_n 1, 1) := by decide +kernel
theorem d_X4_look_98 : decode b_X4_look 98 = .ok (.ireturn, 1) := by decide +kernel
theorem d_X4_look_99 : decode b_X4_look 99 = .ok (.iload 4, 2) := by decide +kernel
theorem d_X4_look_101 : decode b_X4_look 101 = .ok (.iload 6, 2) := by decide +kernel
theorem d_X4_look_103 : decode b_X4_look 103 = .ok (.ifCond .eq 7, 3) := by decide +kernel
theorem d_X4_look_106 : decode b_X4_look 106 = .ok (.iconst 1, 1) := by decide +kernel
theorem d_X4_look_107 : decode b_X4_look 107 = .ok (.goto 4, 3) := by decide +kernel
theorem d_X4_look_110 : decode b_X4_look 110 = .ok (.iconst 0, 1) := by decide +kernel
theorem d_X4_look_111 : decode b_X4_look 111 = .ok (.iadd, 1) := by decide +kernel
theorem d_X4_look_112 : decode b_X4_look 112 = .ok (.istore 4, 2) := by decide +kernel
theorem d_X4_look_114 : decode b_X4_look 114 = .ok (.iinc 5 1, 3) := by decide +kernel
theorem d_X4_look_117 : decode b_X4_look 117 = .ok (.goto (-85), 3) := by decide +kernel
theorem d_X4_look_120 : decode b_X4_look 120 = .ok (.iinc 2 1, 3) := by decide +kernel
theorem d_X4_look_123 : decode b_X4_look 123 = .ok (.goto (-121), 3) := by decide +kernel
theorem d_X4_look_126 : decode b_X4_look 126 = .ok (.iconst 0, 1) := by decide +kernel
theorem d_X4_look_127 : decode b_X4_look 127 = .ok (.ireturn, 1) := by decide +kernel
theorem d_X4_refer_0 : decode b_X4_refer 0 = .ok (.aload_n 0, 1) := by decide +kernel
theorem d_X4_refer_1 : decode b_X4_refer 1 = .ok (.getfield 50, 3) := by decide +kernel
theorem d_X4_refer_4 : decode b_X4_refer 4 = .ok (.iload_n 1, 1) := by decide +kernel
theorem d_X4_refer_5 : decode b_X4_refer 5 = .ok (.invokevirtual 93, 3) := by decide +kernel
theorem d_X4_refer_8 : decode b_X4_refer 8 = .ok (.istore_n 2, 1) := by decide +kernel
theorem d_X4_refer_9 : decode b_X4_refer 9 = .ok (.iload_n 2, 1) := by decide +kernel
theorem d_X4_refer_10 : decode b_X4_refer 10 = .ok (.aload_n 0, 1) := by decide +kernel
theorem d_X4_refer_11 : decode b_X4_refer 11 = .ok (.getfield 50, 3) := by decide +kernel
theorem d_X4_refer_14 : decode b_X4_refer 14 = .ok (.getfield 96, 3) := by decide +kernel
theorem d_X4_refer_17 : decode b_X4_refer 17 = .ok (.iload_n 1, 1) := by decide +kernel
theorem d_X4_refer_18 : decode b_X4_refer 18 = .ok (.invokestatic 54, 3) := by decide +kernel
theorem d_X4_refer_21 : decode b_X4_refer 21 = .ok (.if_icmp .ge 45, 3) := by decide +kernel
theorem d_X4_refer_24 : decode b_X4_refer 24 = .ok (.aload_n 0, 1) := by decide +kernel
theorem d_X4_refer_25 : decode b_X4_refer 25 = .ok (.getfield 50, 3) := by decide +kernel
theorem d_X4_refer_28 : decode b_X4_refer 28 = .ok (.iload_n 2, 1) := by decide +kernel
theorem d_X4_refer_29 : decode b_X4_refer 29 = .ok (.iconst 4, 1) := by decide +kernel
theorem d_X4_refer_30 : decode b_X4_refer 30 = .ok (.invokevirtual 81, 3) := by decide +kernel
theorem d_X4_refer_33 : decode b_X4_refer 33 = .ok (.ifCond .ne 27, 3) := by decide +kernel
theorem d_X4_refer_36 : decode b_X4_refer 36 = .ok (.aload_n 0, 1) := by decide +kernel
theorem d_X4_refer_37 : decode b_X4_refer 37 = .ok (.getfield 44, 3) := by decide +kernel
theorem d_X4_refer_40 : decode b_X4_refer 40 = .ok (.iload_n 2, 1) := by decide +kernel
theorem d_X4_refer_41 : decode b_X4_refer 41 = .ok (.aload_n 0, 1) := by decide +kernel
theorem d_X4_refer_42 : decode b_X4_refer 42 = .ok (.getfield 44, 3) := by decide +kernel
theorem d_X4_refer_45 : decode b_X4_refer 45 = .ok (.aload_n 0, 1) := by decide +kernel
theorem d_X4_refer_46 : decode b_X4_refer 46 = .ok (.aload_n 0, 1) := by decide +kernel
theorem d_X4_refer_47 : decode b_X4_refer 47 = .ok (.getfield 33, 3) := by decide +kernel
theorem d_X4_refer_50 : decode b_X4_refer 50 = .ok (.iload_n 2, 1) := by decide +kernel
theorem d_X4_refer_51 : decode b_X4_refer 51 = .ok (.invokevirtual 103, 3) := by decide +kernel
theorem d_X4_refer_54 : decode b_X4_refer 54 = .ok (.invokestatic 54, 3) := by decide +kernel
theorem d_X4_refer_57 : decode b_X4_refer 57 = .ok (.invokestatic 58, 3) := by decide +kernel
theorem d_X4_refer_60 : decode b_X4_refer 60 = .ok (.iinc 2 1, 3) := by decide +kernel
theorem d_X4_refer_63 : decode b_X4_refer 63 = .ok (.goto (-54), 3) := by decide +kernel
theorem d_X4_refer_66 : decode b_X4_refer 66 = .ok (.return_, 1) := by decide +kernel
theorem d_X4_settle_0 : decode b_X4_settle 0 = .ok (.aload_n 0, 1) := by decide +kernel
theorem d_X4_settle_1 : decode b_X4_settle 1 = .ok (.aload_n 0, 1) := by decide +kernel
theorem d_X4_settle_2 : decode b_X4_settle 2 = .ok (.getfield 26, 3) := by decide +kernel
theorem d_X4_settle_5 : decode b_X4_settle 5 = .ok (.putfield 33, 3) := by decide +kernel
theorem d_X4_settle_8 : decode b_X4_settle 8 = .ok (.bipush 16, 2) := by decide +kernel
theorem d_X4_settle_10 : decode b_X4_settle 10 = .ok (.istore_n 1, 1) := by decide +kernel
theorem d_X4_settle_11 : decode b_X4_settle 11 = .ok (.iconst 0, 1) := by decide +kernel
theorem d_X4_settle_12 : decode b_X4_settle 12 = .ok (.istore_n 2, 1) := by decide +kernel
theorem d_X4_settle_13 : decode b_X4_settle 13 = .ok (.iload_n 2, 1) := by decide +kernel
theorem d_X4_settle_14 : decode b_X4_settle 14 = .ok (.aload_n 0, 1) := by decide +kernel
theorem d_X4_settle_15 : decode b_X4_settle 15 = .ok (.getfield 33, 3) := by decide +kernel
theorem d_X4_settle_18 : decode b_X4_settle 18 = .ok (.if_icmp .ge 133, 3) := by decide +kernel
theorem d_X4_settle_21 : decode b_X4_settle 21 = .ok (.aload_n 0, 1) := by decide +kernel
theorem d_X4_settle_22 : decode b_X4_settle 22 = .ok (.getfield 29, 3) := by decide +kernel
theorem d_X4_settle_25 : decode b_X4_settle 25 = .ok (.iload_n 2, 1) := by decide +kernel
theorem d_X4_settle_26 : decode b_X4_settle 26 = .ok (.invokestatic 54, 3) := by decide +kernel
theorem d_X4_settle_29 : decode b_X4_settle 29 = .ok (.istore_n 3, 1) := by decide +kernel
theorem d_X4_settle_30 : decode b_X4_settle 30 = .ok (.aload_n 0, 1) := by decide +kernel
theorem d_X4_settle_31 : decode b_X4_settle 31 = .ok (.getfield 36, 3) := by decide +kernel
theorem d_X4_settle_34 : decode b_X4_settle 34 = .ok (.iload_n 2, 1) := by decide +kernel
theorem d_X4_settle_35 : decode b_X4_settle 35 = .ok (.iload_n 3, 1) := by decide +kernel
theorem d_X4_settle_36 : decode b_X4_settle 36 = .ok (.invokestatic 58, 3) := by decide +kernel
theorem d_X4_settle_39 : decode b_X4_settle 39 = .ok (.aload_n 0, 1) := by decide +kernel
theorem d_X4_settle_40 : decode b_X4_settle 40 = .ok (.getfield 39, 3) := by decide +kernel
theorem d_X4_settle_43 : decode b_X4_settle 43 = .ok (.iload_n 3, 1) := by decide +kernel
theorem d_X4_settle_44 : decode b_X4_settle 44 = .ok (.iload_n 1, 1) := by decide +kernel
theorem d_X4_settle_45 : decode b_X4_settle 45 = .ok (.invokestatic 58, 3) := by decide +kernel
theorem d_X4_settle_48 : decode b_X4_settle 48 = .ok (.iload_n 1, 1) := by decide +kernel
theorem d_X4_settle_49 : decode b_X4_settle 49 = .ok (.aload_n 0, 1) := by decide +kernel
theorem d_X4_settle_50 : decode b_X4_settle 50 = .ok (.getfield 50, 3) := by decide +kernel
theorem d_X4_settle_53 : decode b_X4_settle 53 = .ok (.getfield 91, 3) := by decide +kernel
theorem d_X4_settle_56 : decode b_X4_settle 56 = .ok (.iload_n 3, 1) := by decide +kernel
theorem d_X4_settle_57 : decode b_X4_settle 57 = .ok (.invokestatic 54, 3) := by decide +kernel
theorem d_X4_settle_60 : decode b_X4_settle 60 = .ok (.iadd, 1) := by decide +kernel
theorem d_X4_settle_61 : decode b_X4_settle 61 = .ok (.istore_n 1, 1) := by decide +kernel
theorem d_X4_settle_62 : decode b_X4_settle 62 = .ok (.aload_n 0, 1) := by decide +kernel
theorem d_X4_settle_63 : decode b_X4_settle 63 = .ok (.getfield 50, 3) := by decide +kernel
theorem d_X4_settle_66 : decode b_X4_settle 66 = .ok (.iload_n 3, 1) := by decide +kernel
theorem d_X4_settle_67 : decode b_X4_settle 67 = .ok (.invokevirtual 93, 3) := by decide +kernel
theorem d_X4_settle_70 : decode b_X4_settle 70 = .ok (.istore 4, 2) := by decide +kernel
theorem d_X4_settle_72 : decode b_X4_settle 72 = .ok (.iload 4, 2) := by decide +kernel
theorem d_X4_settle_74 : decode b_X4_settle 74 = .ok (.aload_n 0, 1) := by decide +kernel
theorem d_X4_settle_75 : decode b_X4_settle 75 = .ok (.getfield 50, 3) := by decide +kernel
theorem d_X4_settle_78 : decode b_X4_settle 78 = .ok (.getfield 96, 3) := by decide +kernel
theorem d_X4_settle_81 : decode b_X4_settle 81 = .ok (.iload_n 3, 1) := by decide +kernel
theorem d_X4_settle_82 : decode b_X4_settle 82 = .ok (.invokestatic 54, 3) := by decide +kernel
theorem d_X4_settle_85 : decode b_X4_settle 85 = .ok (.if_icmp .ge 60, 3) := by decide +kernel
theorem d_X4_settle_88 : decode b_X4_settle 88 = .ok (.aload_n 0, 1) := by decide +kernel
theorem d_X4_settle_89 : decode b_X4_settle 89 = .ok (.getfield 50, 3) := by decide +kernel
theorem d_X4_settle_92 : decode b_X4_settle 92 = .ok (.iload 4, 2) := by decide +kernel
theorem d_X4_settle_94 : decode b_X4_settle 94 = .ok (.iconst 1, 1) := by decide +kernel
theorem d_X4_settle_95 : decode b_X4_settle 95 = .ok (.invokevirtual 81, 3) := by decide +kernel
theorem d_X4_settle_98 : decode b_X4_settle 98 = .ok (.ifCond .eq 7, 3) := by decide +kernel
theorem d_X4_settle_101 : decode b_X4_settle 101 = .ok (.iconst 0, 1) := by decide +kernel
theorem d_X4_settle_102 : decode b_X4_settle 102 = .ok (.goto 11, 3) := by decide +kernel
theorem d_X4_settle_105 : decode b_X4_settle 105 = .ok (.aload_n 0, 1) := by decide +kernel
theorem d_X4_settle_106 : decode b_X4_settle 106 = .ok (.getfield 39, 3) := by decide +kernel
theorem d_X4_settle_109 : decode b_X4_settle 109 = .ok (.iload_n 3, 1) := by decide +kernel
theorem d_X4_settle_110 : decode b_X4_settle 110 = .ok (.invokestatic 54, 3) := by decide +kernel
theorem d_X4_settle_113 : decode b_X4_settle 113 = .ok (.istore 5, 2) := by decide +kernel
theorem d_X4_settle_115 : decode b_X4_settle 115 = .ok (.aload_n 0, 1) := by decide +kernel
theorem d_X4_settle_116 : decode b_X4_settle 116 = .ok (.getfield 44, 3) := by decide +kernel
theorem d_X4_settle_119 : decode b_X4_settle 119 = .ok (.iload 4, 2) := by decide +kernel
theorem d_X4_settle_121 : decode b_X4_settle 121 = .ok (.iload 5, 2) := by decide +kernel
theorem d_X4_settle_123 : decode b_X4_settle 123 = .ok (.aload_n 0, 1) := by decide +kernel
theorem d_X4_settle_124 : decode b_X4_settle 124 = .ok (.getfield 50, 3) := by decide +kernel
theorem d_X4_settle_127 : decode b_X4_settle 127 = .ok (.getfield 123, 3) := by decide +kernel
theorem d_X4_settle_130 : decode b_X4_settle 130 = .ok (.iload 4, 2) := by decide +kernel
theorem d_X4_settle_132 : decode b_X4_settle 132 = .ok (.invokestatic 54, 3) := by decide +kernel
theorem d_X4_settle_135 : decode b_X4_settle 135 = .ok (.iadd, 1) := by decide +kernel
theorem d_X4_settle_136 : decode b_X4_settle 136 = .ok (.invokestatic 58, 3) := by decide +kernel
theorem d_X4_settle_139 : decode b_X4_settle 139 = .ok (.iinc 4 1, 3) := by decide +kernel
theorem d_X4_settle_142 : decode b_X4_settle 142 = .ok (.goto (-70), 3) := by decide +kernel
theorem d_X4_settle_145 : decode b_X4_settle 145 = .ok (.iinc 2 1, 3) := by decide +kernel
theorem d_X4_settle_148 : decode b_X4_settle 148 = .ok (.goto (-135), 3) := by decide +kernel
theorem d_X4_settle_151 : decode b_X4_settle 151 = .ok (.iconst 1, 1) := by decide +kernel
theorem d_X4_settle_152 : decode b_X4_settle 152 = .ok (.istore_n 2, 1) := by decide +kernel
theorem d_X4_settle_153 : decode b_X4_settle 153 = .ok (.iload_n 2, 1) := by decide +kernel
theorem d_X4_settle_154 : decode b_X4_settle 154 = .ok (.aload_n 0, 1) := by decide +kernel
theorem d_X4_settle_155 : decode b_X4_settle 155 = .ok (.getfield 33, 3) := by decide +kernel
theorem d_X4_settle_158 : decode b_X4_settle 158 = .ok (.if_icmp .ge 21, 3) := by decide +kernel
theorem d_X4_settle_161 : decode b_X4_settle 161 = .ok (.aload_n 0, 1) := by decide +kernel
theorem d_X4_settle_162 : decode b_X4_settle 162 = .ok (.aload_n 0, 1) := by decide +kernel
theorem d_X4_settle_163 : decode b_X4_settle 163 = .ok (.getfield 36, 3) := by decide +kernel
theorem d_X4_settle_166 : decode b_X4_settle 166 = .ok (.iload_n 2, 1) := by decide +kernel
theorem d_X4_settle_167 : decode b_X4_settle 167 = .ok (.invokestatic 54, 3) := by decide +kernel
theorem d_X4_settle_170 : decode b_X4_settle 170 = .ok (.invokevirtual 126, 3) := by decide +kernel
theorem d_X4_settle_173 : decode b_X4_settle 173 = .ok (.iinc 2 1, 3) := by decide +kernel
theorem d_X4_settle_176 : decode b_X4_settle 176 = .ok (.goto (-23), 3) := by decide +kernel
theorem d_X4_settle_179 : decode b_X4_settle 179 = .ok (.return_, 1) := by decide +kernel
theorem d_X5_init_0 : decode b_X5_init 0 = .ok (.aload_n 0, 1) := by decide +kernel
theorem d_X5_init_1 : decode b_X5_init 1 = .ok (.invokespecial 5, 3) := by decide +kernel
theorem d_X5_init_4 : decode b_X5_init 4 = .ok (.aload_n 0, 1) := by decide +kernel
theorem d_X5_init_5 : decode b_X5_init 5 = .ok (.ldc 11, 2) := by decide +kernel
theorem d_X5_init_7 : decode b_X5_init 7 = .ok (.newarray .int, 2) := by decide +kernel
theorem d_X5_init_9 : decode b_X5_init 9 = .ok (.putfield 12, 3) := by decide +kernel
theorem d_X5_init_12 : decode b_X5_init 12 = .ok (.aload_n 0, 1) := by decide +kernel
theorem d_X5_init_13 : decode b_X5_init 13 = .ok (.ldc 16, 2) := by decide +kernel
theorem d_X5_init_15 : decode b_X5_init 15 = .ok (.newarray .int, 2) := by decide +kernel
theorem d_X5_init_17 : decode b_X5_init 17 = .ok (.putfield 17, 3) := by decide +kernel
theorem d_X5_init_20 : decode b_X5_init 20 = .ok (.aload_n 0, 1) := by decide +kernel
theorem d_X5_init_21 : decode b_X5_init 21 = .ok (.sipush 771, 3) := by decide +kernel
theorem d_X5_init_24 : decode b_X5_init 24 = .ok (.newarray .int, 2) := by decide +kernel
theorem d_X5_init_26 : decode b_X5_init 26 = .ok (.putfield 20, 3) := by decide +kernel
theorem d_X5_init_29 : decode b_X5_init 29 = .ok (.aload_n 0, 1) := by decide +kernel
theorem d_X5_init_30 : decode b_X5_init 30 = .ok (.iconst 0, 1) := by decide +kernel
theorem d_X5_init_31 : decode b_X5_init 31 = .ok (.putfield 23, 3) := by decide +kernel
theorem d_X5_init_34 : decode b_X5_init 34 = .ok (.aload_n 0, 1) := by decide +kernel
theorem d_X5_init_35 : decode b_X5_init 35 = .ok (.iconst 0, 1) := by decide +kernel
theorem d_X5_init_36 : decode b_X5_init 36 = .ok (.putfield 27, 3) := by decide +kernel
theorem d_X5_init_39 : decode b_X5_init 39 = .ok (.aload_n 0, 1) := by decide +kernel
theorem d_X5_init_40 : decode b_X5_init 40 = .ok (.iconst (-1), 1) := by decide +kernel
theorem d_X5_init_41 : decode b_X5_init 41 = .ok (.putfield 30, 3) := by decide +kernel
theorem d_X5_init_44 : decode b_X5_init 44 = .ok (.aload_n 0, 1) := by decide +kernel
theorem d_X5_init_45 : decode b_X5_init 45 = .ok (.iconst 0, 1) := by decide +kernel
theorem d_X5_init_46 : decode b_X5_init 46 = .ok (.putfield 33, 3) := by decide +kernel
theorem d_X5_init_49 : decode b_X5_init 49 = .ok (.aload_n 0, 1) := by decide +kernel
theorem d_X5_init_50 : decode b_X5_init 50 = .ok (.iconst 0, 1) := by decide +kernel
theorem d_X5_init_51 : decode b_X5_init 51 = .ok (.putfield 36, 3) := by decide +kernel
theorem d_X5_init_54 : decode b_X5_init 54 = .ok (.aload_n 0, 1) := by decide +kernel
theorem d_X5_init_55 : decode b_X5_init 55 = .ok (.aload_n 1, 1) := by decide +kernel
theorem d_X5_init_56 : decode b_X5_init 56 = .ok (.putfield 39, 3) := by decide +kernel
theorem d_X5_init_59 : decode b_X5_init 59 = .ok (.aload_n 0, 1) := by decide +kernel
theorem d_X5_init_60 : decode b_X5_init 60 = .ok (.aload_n 1, 1) := by decide +kernel
theorem d_X5_init_61 : decode b_X5_init 61 = .ok (.getfield 43, 3) := by decide +kernel
theorem d_X5_init_64 : decode b_X5_init 64 = .ok (.putfield 49, 3) := by decide +kernel
theorem d_X5_init_67 : decode b_X5_init 67 = .ok (.aload_n 0, 1) := by decide +kernel
theorem d_X5_init_68 : decode b_X5_init 68 = .ok (.aload_n 2, 1) := by decide +kernel
theorem d_X5_init_69 : decode b_X5_init 69 = .ok (.putfield 50, 3) := by decide +kernel
theorem d_X5_init_72 : decode b_X5_init 72 = .ok (.aload_n 0, 1) := by decide +kernel
theorem d_X5_init_73 : decode b_X5_init 73 = .ok (.aload_n 0, 1) := by decide +kernel
theorem d_X5_init_74 : decode b_X5_init 74 = .ok (.getfield 49, 3) := by decide +kernel
theorem d_X5_init_77 : decode b_X5_init 77 = .ok (.getfield 54, 3) := by decide +kernel
theorem d_X5_init_80 : decode b_X5_init 80 = .ok (.getfield 60, 3) := by decide +kernel
theorem d_X5_init_83 : decode b_X5_init 83 = .ok (.putfield 65, 3) := by decide +kernel
theorem d_X5_init_86 : decode b_X5_init 86 = .ok (.return_, 1) := by decide +kernel
theorem d_X5_begin_0 : decode b_X5_begin 0 = .ok (.aload_n 0, 1) := by decide +kernel
theorem d_X5_begin_1 : decode b_X5_begin 1 = .ok (.getfield 12, 3) := by decide +kernel
theorem d_X5_begin_4 : decode b_X5_begin 4 = .ok (.iconst 0, 1) := by decide +kernel
theorem d_X5_begin_5 : decode b_X5_begin 5 = .ok (.invokestatic 101, 3) := by decide +kernel
theorem d_X5_begin_8 : decode b_X5_begin 8 = .ok (.aload_n 0, 1) := by decide +kernel
theorem d_X5_begin_9 : decode b_X5_begin 9 = .ok (.getfield 39, 3) := by decide +kernel
theorem d_X5_begin_12 : decode b_X5_begin 12 = .ok (.aload_n 0, 1) := by decide +kernel
theorem d_X5_begin_13 : decode b_X5_begin 13 = .ok (.getfield 12, 3) := by decide +kernel
theorem d_X5_begin_16 : decode b_X5_begin 16 = .ok (.invokevirtual 107, 3) := by decide +kernel
theorem d_X5_begin_19 : decode b_X5_begin 19 = .ok (.aload_n 0, 1) := by decide +kernel
theorem d_X5_begin_20 : decode b_X5_begin 20 = .ok (.getfield 50, 3) := by decide +kernel
theorem d_X5_begin_23 : decode b_X5_begin 23 = .ok (.invokevirtual 110, 3) := by decide +kernel
theorem d_X5_begin_26 : decode b_X5_begin 26 = .ok (.aload_n 0, 1) := by decide +kernel
theorem d_X5_begin_27 : decode b_X5_begin 27 = .ok (.iload_n 1, 1) := by decide +kernel
theorem d_X5_begin_28 : decode b_X5_begin 28 = .ok (.putfield 79, 3) := by decide +kernel
theorem d_X5_begin_31 : decode b_X5_begin 31 = .ok (.aload_n 0, 1) := by decide +kernel
theorem d_X5_begin_32 : decode b_X5_begin 32 = .ok (.iconst (-1), 1) := by decide +kernel
theorem d_X5_begin_33 : decode b_X5_begin 33 = .ok (.putfield 87, 3) := by decide +kernel
theorem d_X5_begin_36 : decode b_X5_begin 36 = .ok (.aload_n 0, 1) := by decide +kernel
theorem d_X5_begin_37 : decode b_X5_begin 37 = .ok (.iconst 0, 1) := by decide +kernel
theorem d_X5_begin_38 : decode b_X5_begin 38 = .ok (.putfield 23, 3) := by decide +kernel
theorem d_X5_begin_41 : decode b_X5_begin 41 = .ok (.aload_n 0, 1) := by decide +kernel
theorem d_X5_begin_42 : decode b_X5_begin 42 = .ok (.iconst 0, 1) := by decide +kernel
theorem d_X5_begin_43 : decode b_X5_begin 43 = .ok (.putfield 27, 3) := by decide +kernel
theorem d_X5_begin_46 : decode b_X5_begin 46 = .ok (.aload_n 0, 1) := by decide +kernel
theorem d_X5_begin_47 : decode b_X5_begin 47 = .ok (.iconst (-1), 1) := by decide +kernel
theorem d_X5_begin_48 : decode b_X5_begin 48 = .ok (.putfield 30, 3) := by decide +kernel
theorem d_X5_begin_51 : decode b_X5_begin 51 = .ok (.aload_n 0, 1) := by decide +kernel
theorem d_X5_begin_52 : decode b_X5_begin 52 = .ok (.iconst 0, 1) := by decide +kernel
theorem d_X5_begin_53 : decode b_X5_begin 53 = .ok (.putfield 33, 3) := by decide +kernel
theorem d_X5_begin_56 : decode b_X5_begin 56 = .ok (.aload_n 0, 1) := by decide +kernel
theorem d_X5_begin_57 : decode b_X5_begin 57 = .ok (.iconst 0, 1) := by decide +kernel
theorem d_X5_begin_58 : decode b_X5_begin 58 = .ok (.putfield 112, 3) := by decide +kernel
theorem d_X5_begin_61 : decode b_X5_begin 61 = .ok (.aload_n 0, 1) := by decide +kernel
theorem d_X5_begin_62 : decode b_X5_begin 62 = .ok (.iconst 0, 1) := by decide +kernel
theorem d_X5_begin_63 : decode b_X5_begin 63 = .ok (.putfield 115, 3) := by decide +kernel
theorem d_X5_begin_66 : decode b_X5_begin 66 = .ok (.aload_n 0, 1) := by decide +kernel
theorem d_X5_begin_67 : decode b_X5_begin 67 = .ok (.bipush 8, 2) := by decide +kernel
theorem d_X5_begin_69 : decode b_X5_begin 69 = .ok (.putfield 118, 3) := by decide +kernel
theorem d_X5_begin_72 : decode b_X5_begin 72 = .ok (.aload_n 0, 1) := by decide +kernel
theorem d_X5_begin_73 : decode b_X5_begin 73 = .ok (.bipush 8, 2) := by decide +kernel
theorem d_X5_begin_75 : decode b_X5_begin 75 = .ok (.putfield 121, 3) := by decide +kernel
theorem d_X5_begin_78 : decode b_X5_begin 78 = .ok (.aload_n 0, 1) := by decide +kernel
theorem d_X5_begin_79 : decode b_X5_begin 79 = .ok (.ldc 11, 2) := by decide +kernel
theorem d_X5_begin_81 : decode b_X5_begin 81 = .ok (.putfield 124, 3) := by decide +kernel
theorem d_X5_begin_84 : decode b_X5_begin 84 = .ok (.return_, 1) := by decide +kernel
theorem d_X5_calculate_0 : decode b_X5_calculate 0 = .ok (.aload_n 0, 1) := by decide +kernel
theorem d_X5_calculate_1 : decode b_X5_calculate 1 = .ok (.invokevirtual 140, 3) := by decide +kernel
theorem d_X5_calculate_4 : decode b_X5_calculate 4 = .ok (.istore_n 3, 1) := by decide +kernel
theorem d_X5_calculate_5 : decode b_X5_calculate 5 = .ok (.aload_n 0, 1) := by decide +kernel
theorem d_X5_calculate_6 : decode b_X5_calculate 6 = .ok (.invokevirtual 140, 3) := by decide +kernel
theorem d_X5_calculate_9 : decode b_X5_calculate 9 = .ok (.istore 4, 2) := by decide +kernel
theorem d_X5_calculate_11 : decode b_X5_calculate 11 = .ok (.iload_n 1, 1) := by decide +kernel
theorem d_X5_calculate_12 : decode b_X5_calculate 12 = .ok (.bipush 46, 2) := by decide +kernel
theorem d_X5_calculate_14 : decode b_X5_calculate 14 = .ok (.if_icmp .eq 9, 3) := by decide +kernel
theorem d_X5_calculate_17 : decode b_X5_calculate 17 = .ok (.iload_n 1, 1) := by decide +kernel
theorem d_X5_calculate_18 : decode b_X5_calculate 18 = .ok (.bipush 47, 2) := by decide +kernel
theorem d_X5_calculate_20 : decode b_X5_calculate 20 = .ok (.if_icmp .ne 25, 3) := by decide +kernel
theorem d_X5_calculate_23 : decode b_X5_calculate 23 = .ok (.iload_n 3, 1) := by decide +kernel
theorem d_X5_calculate_24 : decode b_X5_calculate 24 = .ok (.ifCond .ne 21, 3) := by decide +kernel
theorem d_X5_calculate_27 : decode b_X5_calculate 27 = .ok (.aload_n 0, 1) := by decide +kernel
theorem d_X5_calculate_28 : decode b_X5_calculate 28 = .ok (.iconst 1, 1) := by decide +kernel
theorem d_X5_calculate_29 : decode b_X5_calculate 29 = .ok (.aload_n 0, 1) := by decide +kernel
theorem d_X5_calculate_30 : decode b_X5_calculate 30 = .ok (.getfield 65, 3) := by decide +kernel
theorem d_X5_calculate_33 : decode b_X5_calculate 33 = .ok (.iload_n 2, 1) := by decide +kernel
theorem d_X5_calculate_34 : decode b_X5_calculate 34 = .ok (.iconst 1, 1) := by decide +kernel
theorem d_X5_calculate_35 : decode b_X5_calculate 35 = .ok (.iadd, 1) := by decide +kernel
theorem d_X5_calculate_36 : decode b_X5_calculate 36 = .ok (.invokestatic 127, 3) := by decide +kernel
theorem d_X5_calculate_39 : decode b_X5_calculate 39 = .ok (.invokevirtual 173, 3) := by decide +kernel
theorem d_X5_calculate_42 : decode b_X5_calculate 42 = .ok (.goto 14, 3) := by decide +kernel
theorem d_X5_calculate_45 : decode b_X5_calculate 45 = .ok (.aload_n 0, 1) := by decide +kernel
theorem d_X5_calculate_46 : decode b_X5_calculate 46 = .ok (.iload_n 1, 1) := by decide +kernel
theorem d_X5_calculate_47 : decode b_X5_calculate 47 = .ok (.iload 4, 2) := by decide +kernel
theorem d_X5_calculate_49 : decode b_X5_calculate 49 = .ok (.iload_n 3, 1) := by decide +kernel
theorem d_X5_calculate_50 : decode b_X5_calculate 50 = .ok (.invokestatic 176, 3) := by decide +kernel
theorem d_X5_calculate_53 : decode b_X5_calculate 53 = .ok (.invokevirtual 148, 3) := by decide +kernel
theorem d_X5_calculate_56 : decode b_X5_calculate 56 = .ok (.return_, 1) := by decide +kernel
theorem d_X5_call_0 : decode b_X5_call 0 = .ok (.iload_n 1, 1) := by decide +kernel
theorem d_X5_call_1 : decode b_X5_call 1 = .ok (.ifCond .lt 12, 3) := by decide +kernel
theorem d_X5_call_4 : decode b_X5_call 4 = .ok (.aload_n 0, 1) := by decide +kernel
theorem d_X5_call_5 : decode b_X5_call 5 = .ok (.iload_n 1, 1) := by decide +kernel
theorem d_X5_call_6 : decode b_X5_call 6 = .ok (.iload_n 2, 1) := by decide +kernel
theorem d_X5_call_7 : decode b_X5_call 7 = .ok (.invokevirtual 73, 3) := by decide +kernel
theorem d_X5_call_10 : decode b_X5_call 10 = .ok (.goto 11, 3) := by decide +kernel
theorem d_X5_call_13 : decode b_X5_call 13 = .ok (.aload_n 0, 1) := by decide +kernel
theorem d_X5_call_14 : decode b_X5_call 14 = .ok (.iconst (-1), 1) := by decide +kernel
theorem d_X5_call_15 : decode b_X5_call 15 = .ok (.iload_n 1, 1) := by decide +kernel
theorem d_X5_call_16 : decode b_X5_call 16 = .ok (.isub, 1) := by decide +kernel
theorem d_X5_call_17 : decode b_X5_call 17 = .ok (.iload_n 2, 1) := by decide +kernel
theorem d_X5_call_18 : decode b_X5_call 18 = .ok (.invokevirtual 209, 3) := by decide +kernel
theorem d_X5_call_21 : decode b_X5_call 21 = .ok (.return_, 1) := by decide +kernel
theorem d_X5_compared_0 : decode b_X5_compared 0 = .ok (.ldc 170, 2) := by decide +kernel
theorem d_X5_compared_2 : decode b_X5_compared 2 = .ok (.istore_n 3, 1) := by decide +kernel
theorem d_X5_compared_3 : decode b_X5_compared 3 = .ok (.iload_n 0, 1) := by decide +kernel
theorem d_X5_compared_4 : decode b_X5_compared 4 = .ok (.tableswitch 182 51 60 #[56, 67, 78, 89, 100, 111, 122, 137, 152, 167], 56) := by decide +kernel
theorem d_X5_compared_60 : decode b_X5_compared 60 = .ok (.iload_n 1, 1) := by decide +kernel
theorem d_X5_compared_61 : decode b_X5_compared 61 = .ok (.iload_n 2, 1) := by decide +kernel
theorem d_X5_compared_62 : decode b_X5_compared 62 = .ok (.if_icmp .ne 7, 3) := by decide +kernel
theorem d_X5_compared_65 : decode b_X5_compared 65 = .ok (.iconst 1, 1) := by decide +kernel
theorem d_X5_compared_66 : decode b_X5_compared 66 = .ok (.goto 4, 3) := by decide +kernel
theorem d_X5_compared_69 : decode b_X5_compared 69 = .ok (.iconst 0, 1) := by decide +kernel
theorem d_X5_compared_70 : decode b_X5_compared 70 = .ok (.ireturn, 1) := by decide +kernel
theorem d_X5_compared_71 : decode b_X5_compared 71 = .ok (.iload_n 1, 1) := by decide +kernel
theorem d_X5_compared_72 : decode b_X5_compared 72 = .ok (.iload_n 2, 1) := by decide +kernel
theorem d_X5_compared_73 : decode b_X5_compared 73 = .ok (.if_icmp .eq 7, 3) := by decide +kernel
theorem d_X5_compared_76 : decode b_X5_compared 76 = .ok (.iconst 1, 1) := by decide +kernel
theorem d_X5_compared_77 : decode b_X5_compared 77 = .ok (.goto 4, 3) := by decide +kernel
theorem d_X5_compared_80 : decode b_X5_compared 80 = .ok (.iconst 0, 1) := by decide +kernel
theorem d_X5_compared_81 : decode b_X5_compared 81 = .ok (.ireturn, 1) := by decide +kernel
theorem d_X5_compared_82 : decode b_X5_compared 82 = .ok (.iload_n 1, 1) := by decide +kernel
theorem d_X5_compared_83 : decode b_X5_compared 83 = .ok (.iload_n 2, 1) := by decide +kernel
theorem d_X5_compared_84 : decode b_X5_compared 84 = .ok (.if_icmp .ge 7, 3) := by decide +kernel
theorem d_X5_compared_87 : decode b_X5_compared 87 = .ok (.iconst 1, 1) := by decide +kernel
theorem d_X5_compared_88 : decode b_X5_compared 88 = .ok (.goto 4, 3) := by decide +kernel
theorem d_X5_compared_91 : decode b_X5_compared 91 = .ok (.iconst 0, 1) := by decide +kernel
theorem d_X5_compared_92 : decode b_X5_compared 92 = .ok (.ireturn, 1) := by decide +kernel
theorem d_X5_compared_93 : decode b_X5_compared 93 = .ok (.iload_n 1, 1) := by decide +kernel
theorem d_X5_compared_94 : decode b_X5_compared 94 = .ok (.iload_n 2, 1) := by decide +kernel
theorem d_X5_compared_95 : decode b_X5_compared 95 = .ok (.if_icmp .le 7, 3) := by decide +kernel
theorem d_X5_compared_98 : decode b_X5_compared 98 = .ok (.iconst 1, 1) := by decide +kernel
theorem d_X5_compared_99 : decode b_X5_compared 99 = .ok (.goto 4, 3) := by decide +kernel
theorem d_X5_compared_102 : decode b_X5_compared 102 = .ok (.iconst 0, 1) := by decide +kernel
theorem d_X5_compared_103 : decode b_X5_compared 103 = .ok (.ireturn, 1) := by decide +kernel
theorem d_X5_compared_104 : decode b_X5_compared 104 = .ok (.iload_n 1, 1) := by decide +kernel
theorem d_X5_compared_105 : decode b_X5_compared 105 = .ok (.iload_n 2, 1) := by decide +kernel
theorem d_X5_compared_106 : decode b_X5_compared 106 = .ok (.if_icmp .gt 7, 3) := by decide +kernel
theorem d_X5_compared_109 : decode b_X5_compared 109 = .ok (.iconst 1, 1) := by decide +kernel
theorem d_X5_compared_110 : decode b_X5_compared 110 = .ok (.goto 4, 3) := by decide +kernel
theorem d_X5_compared_113 : decode b_X5_compared 113 = .ok (.iconst 0, 1) := by decide +kernel
theorem d_X5_compared_114 : decode b_X5_compared 114 = .ok (.ireturn, 1) := by decide +kernel
theorem d_X5_compared_115 : decode b_X5_compared 115 = .ok (.iload_n 1, 1) := by decide +kernel
theorem d_X5_compared_116 : decode b_X5_compared 116 = .ok (.iload_n 2, 1) := by decide +kernel
theorem d_X5_compared_117 : decode b_X5_compared 117 = .ok (.if_icmp .lt 7, 3) := by decide +kernel
theorem d_X5_compared_120 : decode b_X5_compared 120 = .ok (.iconst 1, 1) := by decide +kernel
theorem d_X5_compared_121 : decode b_X5_compared 121 = .ok (.goto 4, 3) := by decide +kernel
theorem d_X5_compared_124 : decode b_X5_compared 124 = .ok (.iconst 0, 1) := by decide +kernel
theorem d_X5_compared_125 : decode b_X5_compared 125 = .ok (.ireturn, 1) := by decide +kernel
theorem d_X5_compared_126 : decode b_X5_compared 126 = .ok (.iload_n 1, 1) := by decide +kernel
theorem d_X5_compared_127 : decode b_X5_compared 127 = .ok (.iload_n 3, 1) := by decide +kernel
theorem d_X5_compared_128 : decode b_X5_compared 128 = .ok (.iadd, 1) := by decide +kernel
theorem d_X5_compared_129 : decode b_X5_compared 129 = .ok (.iload_n 2, 1) := by decide +kernel
theorem d_X5_compared_130 : decode b_X5_compared 130 = .ok (.iload_n 3, 1) := by decide +kernel
theorem d_X5_compared_131 : decode b_X5_compared 131 = .ok (.iadd, 1) := by decide +kernel
theorem d_X5_compared_132 : decode b_X5_compared 132 = .ok (.if_icmp .ge 7, 3) := by decide +kernel
theorem d_X5_compared_135 : decode b_X5_compared 135 = .ok (.iconst 1, 1) := by decide +kernel
theorem d_X5_compared_136 : decode b_X5_compared 136 = .ok (.goto 4, 3) := by decide +kernel
theorem d_X5_compared_139 : decode b_X5_compared 139 = .ok (.iconst 0, 1) := by decide +kernel
theorem d_X5_compared_140 : decode b_X5_compared 140 = .ok (.ireturn, 1) := by decide +kernel
theorem d_X5_compared_141 : decode b_X5_compared 141 = .ok (.iload_n 1, 1) := by decide +kernel
theorem d_X5_compared_142 : decode b_X5_compared 142 = .ok (.iload_n 3, 1) := by decide +kernel
theorem d_X5_compared_143 : decode b_X5_compared 143 = .ok (.iadd, 1) := by decide +kernel
theorem d_X5_compared_144 : decode b_X5_compared 144 = .ok (.iload_n 2, 1) := by decide +kernel
theorem d_X5_compared_145 : decode b_X5_compared 145 = .ok (.iload_n 3, 1) := by decide +kernel
theorem d_X5_compared_146 : decode b_X5_compared 146 = .ok (.iadd, 1) := by decide +kernel
theorem d_X5_compared_147 : decode b_X5_compared 147 = .ok (.if_icmp .le 7, 3) := by decide +kernel
theorem d_X5_compared_150 : decode b_X5_compared 150 = .ok (.iconst 1, 1) := by decide +kernel
theorem d_X5_compared_151 : decode b_X5_compared 151 = .ok (.goto 4, 3) := by decide +kernel
theorem d_X5_compared_154 : decode b_X5_compared 154 = .ok (.iconst 0, 1) := by decide +kernel
theorem d_X5_compared_155 : decode b_X5_compared 155 = .ok (.ireturn, 1) := by decide +kernel
theorem d_X5_compared_156 : decode b_X5_compared 156 = .ok (.iload_n 1, 1) := by decide +kernel
theorem d_X5_compared_157 : decode b_X5_compared 157 = .ok (.iload_n 3, 1) := by decide +kernel
theorem d_X5_compared_158 : decode b_X5_compared 158 = .ok (.iadd, 1) := by decide +kernel
theorem d_X5_compared_159 : decode b_X5_compared 159 = .ok (.iload_n 2, 1) := by decide +kernel
theorem d_X5_compared_160 : decode b_X5_compared 160 = .ok (.iload_n 3, 1) := by decide +kernel
theorem d_X5_compared_161 : decode b_X5_compared 161 = .ok (.iadd, 1) := by decide +kernel
theorem d_X5_compared_162 : decode b_X5_compared 162 = .ok (.if_icmp .gt 7, 3) := by decide +kernel
theorem d_X5_compared_165 : decode b_X5_compared 165 = .ok (.iconst 1, 1) := by decide +kernel
theorem d_X5_compared_166 : decode b_X5_compared 166 = .ok (.goto 4, 3) := by decide +kernel
theorem d_X5_compared_169 : decode b_X5_compared 169 = .ok (.iconst 0, 1) := by decide +kernel
theorem d_X5_compared_170 : decode b_X5_compared 170 = .ok (.ireturn, 1) := by decide +kernel
theorem d_X5_compared_171 : decode b_X5_compared 171 = .ok (.iload_n 1, 1) := by decide +kernel
theorem d_X5_compared_172 : decode b_X5_compared 172 = .ok (.iload_n 3, 1) := by decide +kernel
theorem d_X5_compared_173 : decode b_X5_compared 173 = .ok (.iadd, 1) := by decide +kernel
theorem d_X5_compared_174 : decode b_X5_compared 174 = .ok (.iload_n 2, 1) := by decide +kernel
theorem d_X5_compared_175 : decode b_X5_compared 175 = .ok (.iload_n 3, 1) := by decide +kernel
theorem d_X5_compared_176 : decode b_X5_compared 176 = .ok (.iadd, 1) := by decide +kernel
theorem d_X5_compared_177 : decode b_X5_compared 177 = .ok (.if_icmp .lt 7, 3) := by decide +kernel
theorem d_X5_compared_180 : decode b_X5_compared 180 = .ok (.iconst 1, 1) := by decide +kernel
theorem d_X5_compared_181 : decode b_X5_compared 181 = .ok (.goto 4, 3) := by decide +kernel
theorem d_X5_compared_184 : decode b_X5_compared 184 = .ok (.iconst 0, 1) := by decide +kernel
theorem d_X5_compared_185 : decode b_X5_compared 185 = .ok (.ireturn, 1) := by decide +kernel
theorem d_X5_compared_186 : decode b_X5_compared 186 = .ok (.iconst 0, 1) := by decide +kernel
theorem d_X5_compared_187 : decode b_X5_compared 187 = .ok (.ireturn, 1) := by decide +kernel
theorem d_X5_copyParameters_0 : decode b_X5_copyParameters 0 = .ok (.aload_n 0, 1) := by decide +kernel
theorem d_X5_copyParameters_1 : decode b_X5_copyParameters 1 = .ok (.getfield 124, 3) := by decide +kernel
theorem d_X5_copyParameters_4 : decode b_X5_copyParameters 4 = .ok (.istore_n 3, 1) := by decide +kernel
theorem d_X5_copyParameters_5 : decode b_X5_copyParameters 5 = .ok (.iconst 0, 1) := by decide +kernel
theorem d_X5_copyParameters_6 : decode b_X5_copyParameters 6 = .ok (.istore 4, 2) := by decide +kernel
theorem d_X5_copyParameters_8 : decode b_X5_copyParameters 8 = .ok (.iload 4, 2) := by decide +kernel
theorem d_X5_copyParameters_10 : decode b_X5_copyParameters 10 = .ok (.iload_n 1, 1) := by decide +kernel
theorem d_X5_copyParameters_11 : decode b_X5_copyParameters 11 = .ok (.if_icmp .ge 43, 3) := by decide +kernel
theorem d_X5_copyParameters_14 : decode b_X5_copyParameters 14 = .ok (.iload_n 2, 1) := by decide +kernel
theorem d_X5_copyParameters_15 : decode b_X5_copyParameters 15 = .ok (.iload 4, 2) := by decide +kernel
theorem d_X5_copyParameters_17 : decode b_X5_copyParameters 17 = .ok (.ishr, 1) := by decide +kernel
theorem d_X5_copyParameters_18 : decode b_X5_copyParameters 18 = .ok (.iconst 1, 1) := by decide +kernel
theorem d_X5_copyParameters_19 : decode b_X5_copyParameters 19 = .ok (.iand, 1) := by decide +kernel
theorem d_X5_copyParameters_20 : decode b_X5_copyParameters 20 = .ok (.ifCond .eq 28, 3) := by decide +kernel
theorem d_X5_copyParameters_23 : decode b_X5_copyParameters 23 = .ok (.aload_n 0, 1) := by decide +kernel
theorem d_X5_copyParameters_24 : decode b_X5_copyParameters 24 = .ok (.getfield 12, 3) := by decide +kernel
theorem d_X5_copyParameters_27 : decode b_X5_copyParameters 27 = .ok (.iload_n 3, 1) := by decide +kernel
theorem d_X5_copyParameters_28 : decode b_X5_copyParameters 28 = .ok (.aload_n 0, 1) := by decide +kernel
theorem d_X5_copyParameters_29 : decode b_X5_copyParameters 29 = .ok (.getfield 17, 3) := by decide +kernel
theorem d_X5_copyParameters_32 : decode b_X5_copyParameters 32 = .ok (.aload_n 0, 1) := by decide +kernel
theorem d_X5_copyParameters_33 : decode b_X5_copyParameters 33 = .ok (.getfield 121, 3) := by decide +kernel
theorem d_X5_copyParameters_36 : decode b_X5_copyParameters 36 = .ok (.iload 4, 2) := by decide +kernel
theorem d_X5_copyParameters_38 : decode b_X5_copyParameters 38 = .ok (.iadd, 1) := by decide +kernel
theorem d_X5_copyParameters_39 : decode b_X5_copyParameters 39 = .ok (.invokestatic 127, 3) := by decide +kernel
theorem d_X5_copyParameters_42 : decode b_X5_copyParameters 42 = .ok (.invokestatic 160, 3) := by decide +kernel
theorem d_X5_copyParameters_45 : decode b_X5_copyParameters 45 = .ok (.iinc 3 1, 3) := by decide +kernel
theorem d_X5_copyParameters_48 : decode b_X5_copyParameters 48 = .ok (.iinc 4 1, 3) := by decide +kernel
theorem d_X5_copyParameters_51 : decode b_X5_copyParameters 51 = .ok (.goto (-43), 3) := by decide +kernel
theorem d_X5_copyParameters_54 : decode b_X5_copyParameters 54 = .ok (.return_, 1) := by decide +kernel
theorem d_X5_decide_0 : decode b_X5_decide 0 = .ok (.aload_n 0, 1) := by decide +kernel
theorem d_X5_decide_1 : decode b_X5_decide 1 = .ok (.invokevirtual 140, 3) := by decide +kernel
theorem d_X5_decide_4 : decode b_X5_decide 4 = .ok (.ifCond .eq 7, 3) := by decide +kernel
theorem d_X5_decide_7 : decode b_X5_decide 7 = .ok (.iconst 1, 1) := by decide +kernel
theorem d_X5_decide_8 : decode b_X5_decide 8 = .ok (.goto 4, 3) := by decide +kernel
theorem d_X5_decide_11 : decode b_X5_decide 11 = .ok (.iconst 0, 1) := by decide +kernel
theorem d_X5_decide_12 : decode b_X5_decide 12 = .ok (.iload_n 1, 1) := by decide +kernel
theorem d_X5_decide_13 : decode b_X5_decide 13 = .ok (.if_icmp .ne 21, 3) := by decide +kernel
theorem d_X5_decide_16 : decode b_X5_decide 16 = .ok (.aload_n 0, 1) := by decide +kernel
theorem d_X5_decide_17 : decode b_X5_decide 17 = .ok (.iload_n 1, 1) := by decide +kernel
theorem d_X5_decide_18 : decode b_X5_decide 18 = .ok (.ifCond .eq 7, 3) := by decide +kernel
theorem d_X5_decide_21 : decode b_X5_decide 21 = .ok (.iconst 1, 1) := by decide +kernel
theorem d_X5_decide_22 : decode b_X5_decide 22 = .ok (.goto 4, 3) := by decide +kernel
theorem d_X5_decide_25 : decode b_X5_decide 25 = .ok (.iconst 0, 1) := by decide +kernel
theorem d_X5_decide_26 : decode b_X5_decide 26 = .ok (.invokevirtual 148, 3) := by decide +kernel
theorem d_X5_decide_29 : decode b_X5_decide 29 = .ok (.aload_n 0, 1) := by decide +kernel
theorem d_X5_decide_30 : decode b_X5_decide 30 = .ok (.iload_n 2, 1) := by decide +kernel
theorem d_X5_decide_31 : decode b_X5_decide 31 = .ok (.putfield 115, 3) := by decide +kernel
theorem d_X5_decide_34 : decode b_X5_decide 34 = .ok (.return_, 1) := by decide +kernel
theorem d_X5_enter_0 : decode b_X5_enter 0 = .ok (.aload_n 0, 1) := by decide +kernel
theorem d_X5_enter_1 : decode b_X5_enter 1 = .ok (.iload_n 2, 1) := by decide +kernel
theorem d_X5_enter_2 : decode b_X5_enter 2 = .ok (.invokevirtual 200, 3) := by decide +kernel
theorem d_X5_enter_5 : decode b_X5_enter 5 = .ok (.ifCond .ne 4, 3) := by decide +kernel
theorem d_X5_enter_8 : decode b_X5_enter 8 = .ok (.return_, 1) := by decide +kernel
theorem d_X5_enter_9 : decode b_X5_enter 9 = .ok (.aload_n 0, 1) := by decide +kernel
theorem d_X5_enter_10 : decode b_X5_enter 10 = .ok (.getfield 124, 3) := by decide +kernel
theorem d_X5_enter_13 : decode b_X5_enter 13 = .ok (.bipush 32, 2) := by decide +kernel
theorem d_X5_enter_15 : decode b_X5_enter 15 = .ok (.isub, 1) := by decide +kernel
theorem d_X5_enter_16 : decode b_X5_enter 16 = .ok (.aload_n 0, 1) := by decide +kernel
theorem d_X5_enter_17 : decode b_X5_enter 17 = .ok (.getfield 65, 3) := by decide +kernel
theorem d_X5_enter_20 : decode b_X5_enter 20 = .ok (.iload_n 1, 1) := by decide +kernel
theorem d_X5_enter_21 : decode b_X5_enter 21 = .ok (.invokestatic 127, 3) := by decide +kernel
theorem d_X5_enter_24 : decode b_X5_enter 24 = .ok (.isub, 1) := by decide +kernel
theorem d_X5_enter_25 : decode b_X5_enter 25 = .ok (.istore_n 3, 1) := by decide +kernel
theorem d_X5_enter_26 : decode b_X5_enter 26 = .ok (.iload_n 3, 1) := by decide +kernel
theorem d_X5_enter_27 : decode b_X5_enter 27 = .ok (.sipush 24576, 3) := by decide +kernel
theorem d_X5_enter_30 : decode b_X5_enter 30 = .ok (.if_icmp .ge 10, 3) := by decide +kernel
theorem d_X5_enter_33 : decode b_X5_enter 33 = .ok (.aload_n 0, 1) := by decide +kernel
theorem d_X5_enter_34 : decode b_X5_enter 34 = .ok (.iconst 3, 1) := by decide +kernel
theorem d_X5_enter_35 : decode b_X5_enter 35 = .ok (.iload_n 2, 1) := by decide +kernel
theorem d_X5_enter_36 : decode b_X5_enter 36 = .ok (.invokevirtual 173, 3) := by decide +kernel
theorem d_X5_enter_39 : decode b_X5_enter 39 = .ok (.return_, 1) := by decide +kernel
theorem d_X5_enter_40 : decode b_X5_enter 40 = .ok (.aload_n 0, 1) := by decide +kernel
theorem d_X5_enter_41 : decode b_X5_enter 41 = .ok (.getfield 20, 3) := by decide +kernel
theorem d_X5_enter_44 : decode b_X5_enter 44 = .ok (.iconst 3, 1) := by decide +kernel
theorem d_X5_enter_45 : decode b_X5_enter 45 = .ok (.aload_n 0, 1) := by decide +kernel
theorem d_X5_enter_46 : decode b_X5_enter 46 = .ok (.getfield 112, 3) := by decide +kernel
theorem d_X5_enter_49 : decode b_X5_enter 49 = .ok (.imul, 1) := by decide +kernel
theorem d_X5_enter_50 : decode b_X5_enter 50 = .ok (.aload_n 0, 1) := by decide +kernel
theorem d_X5_enter_51 : decode b_X5_enter 51 = .ok (.getfield 115, 3) := by decide +kernel
theorem d_X5_enter_54 : decode b_X5_enter 54 = .ok (.invokestatic 160, 3) := by decide +kernel
theorem d_X5_enter_57 : decode b_X5_enter 57 = .ok (.aload_n 0, 1) := by decide +kernel
theorem d_X5_enter_58 : decode b_X5_enter 58 = .ok (.getfield 20, 3) := by decide +kernel
theorem d_X5_enter_61 : decode b_X5_enter 61 = .ok (.iconst 3, 1) := by decide +kernel
theorem d_X5_enter_62 : decode b_X5_enter 62 = .ok (.aload_n 0, 1) := by decide +kernel
theorem d_X5_enter_63 : decode b_X5_enter 63 = .ok (.getfield 112, 3) := by decide +kernel
theorem d_X5_enter_66 : decode b_X5_enter 66 = .ok (.imul, 1) := by decide +kernel
theorem d_X5_enter_67 : decode b_X5_enter 67 = .ok (.iconst 1, 1) := by decide +kernel
theorem d_X5_enter_68 : decode b_X5_enter 68 = .ok (.iadd, 1) := by decide +kernel
theorem d_X5_enter_69 : decode b_X5_enter 69 = .ok (.aload_n 0, 1) := by decide +kernel
theorem d_X5_enter_70 : decode b_X5_enter 70 = .ok (.getfield 121, 3) := by decide +kernel
theorem d_X5_enter_73 : decode b_X5_enter 73 = .ok (.invokestatic 160, 3) := by decide +kernel
theorem d_X5_enter_76 : decode b_X5_enter 76 = .ok (.aload_n 0, 1) := by decide +kernel
theorem d_X5_enter_77 : decode b_X5_enter 77 = .ok (.getfield 20, 3) := by decide +kernel
theorem d_X5_enter_80 : decode b_X5_enter 80 = .ok (.iconst 3, 1) := by decide +kernel
theorem d_X5_enter_81 : decode b_X5_enter 81 = .ok (.aload_n 0, 1) := by decide +kernel
theorem d_X5_enter_82 : decode b_X5_enter 82 = .ok (.getfield 112, 3) := by decide +kernel
theorem d_X5_enter_85 : decode b_X5_enter 85 = .ok (.imul, 1) := by decide +kernel
theorem d_X5_enter_86 : decode b_X5_enter 86 = .ok (.iconst 2, 1) := by decide +kernel
theorem d_X5_enter_87 : decode b_X5_enter 87 = .ok (.iadd, 1) := by decide +kernel
theorem d_X5_enter_88 : decode b_X5_enter 88 = .ok (.aload_n 0, 1) := by decide +kernel
theorem d_X5_enter_89 : decode b_X5_enter 89 = .ok (.getfield 124, 3) := by decide +kernel
theorem d_X5_enter_92 : decode b_X5_enter 92 = .ok (.invokestatic 160, 3) := by decide +kernel
theorem d_X5_enter_95 : decode b_X5_enter 95 = .ok (.aload_n 0, 1) := by decide +kernel
theorem d_X5_enter_96 : decode b_X5_enter 96 = .ok (.dup, 1) := by decide +kernel
theorem d_X5_enter_97 : decode b_X5_enter 97 = .ok (.getfield 112, 3) := by decide +kernel
theorem d_X5_enter_100 : decode b_X5_enter 100 = .ok (.iconst 1, 1) := by decide +kernel
theorem d_X5_enter_101 : decode b_X5_enter 101 = .ok (.iadd, 1) := by decide +kernel
theorem d_X5_enter_102 : decode b_X5_enter 102 = .ok (.putfield 112, 3) := by decide +kernel
theorem d_X5_enter_105 : decode b_X5_enter 105 = .ok (.aload_n 0, 1) := by decide +kernel
theorem d_X5_enter_106 : decode b_X5_enter 106 = .ok (.aload_n 0, 1) := by decide +kernel
theorem d_X5_enter_107 : decode b_X5_enter 107 = .ok (.getfield 118, 3) := by decide +kernel
theorem d_X5_enter_110 : decode b_X5_enter 110 = .ok (.aload_n 0, 1) := by decide +kernel
theorem d_X5_enter_111 : decode b_X5_enter 111 = .ok (.getfield 65, 3) := by decide +kernel
theorem d_X5_enter_114 : decode b_X5_enter 114 = .ok (.iload_n 1, 1) := by decide +kernel
theorem d_X5_enter_115 : decode b_X5_enter 115 = .ok (.iconst 2, 1) := by decide +kernel
theorem d_X5_enter_116 : decode b_X5_enter 116 = .ok (.iadd, 1) := by decide +kernel
theorem d_X5_enter_117 : decode b_X5_enter 117 = .ok (.invokestatic 127, 3) := by decide +kernel
theorem d_X5_enter_120 : decode b_X5_enter 120 = .ok (.isub, 1) := by decide +kernel
theorem d_X5_enter_121 : decode b_X5_enter 121 = .ok (.putfield 121, 3) := by decide +kernel
theorem d_X5_enter_124 : decode b_X5_enter 124 = .ok (.aload_n 0, 1) := by decide +kernel
theorem d_X5_enter_125 : decode b_X5_enter 125 = .ok (.aload_n 0, 1) := by decide +kernel
theorem d_X5_enter_126 : decode b_X5_enter 126 = .ok (.getfield 121, 3) := by decide +kernel
theorem d_X5_enter_129 : decode b_X5_enter 129 = .ok (.aload_n 0, 1) := by decide +kernel
theorem d_X5_enter_130 : decode b_X5_enter 130 = .ok (.getfield 65, 3) := by decide +kernel
theorem d_X5_enter_133 : decode b_X5_enter 133 = .ok (.iload_n 1, 1) := by decide +kernel
theorem d_X5_enter_134 : decode b_X5_enter 134 = .ok (.iconst 1, 1) := by decide +kernel
theorem d_X5_enter_135 : decode b_X5_enter 135 = .ok (.iadd, 1) := by decide +kernel
theorem d_X5_enter_136 : decode b_X5_enter 136 = .ok (.invokestatic 127, 3) := by decide +kernel
theorem d_X5_enter_139 : decode b_X5_enter 139 = .ok (.iadd, 1) := by decide +kernel
theorem d_X5_enter_140 : decode b_X5_enter 140 = .ok (.putfield 118, 3) := by decide +kernel
theorem d_X5_enter_143 : decode b_X5_enter 143 = .ok (.aload_n 0, 1) := by decide +kernel
theorem d_X5_enter_144 : decode b_X5_enter 144 = .ok (.iload_n 3, 1) := by decide +kernel
theorem d_X5_enter_145 : decode b_X5_enter 145 = .ok (.putfield 124, 3) := by decide +kernel
theorem d_X5_enter_148 : decode b_X5_enter 148 = .ok (.aload_n 0, 1) := by decide +kernel
theorem d_X5_enter_149 : decode b_X5_enter 149 = .ok (.iload_n 1, 1) := by decide +kernel
theorem d_X5_enter_150 : decode b_X5_enter 150 = .ok (.iconst 4, 1) := by decide +kernel
theorem d_X5_enter_151 : decode b_X5_enter 151 = .ok (.iadd, 1) := by decide +kernel
theorem d_X5_enter_152 : decode b_X5_enter 152 = .ok (.putfield 115, 3) := by decide +kernel
theorem d_X5_enter_155 : decode b_X5_enter 155 = .ok (.aload_n 0, 1) := by decide +kernel
theorem d_X5_enter_156 : decode b_X5_enter 156 = .ok (.aload_n 0, 1) := by decide +kernel
theorem d_X5_enter_157 : decode b_X5_enter 157 = .ok (.getfield 65, 3) := by decide +kernel
theorem d_X5_enter_160 : decode b_X5_enter 160 = .ok (.iload_n 1, 1) := by decide +kernel
theorem d_X5_enter_161 : decode b_X5_enter 161 = .ok (.iconst 2, 1) := by decide +kernel
theorem d_X5_enter_162 : decode b_X5_enter 162 = .ok (.iadd, 1) := by decide +kernel
theorem d_X5_enter_163 : decode b_X5_enter 163 = .ok (.invokestatic 127, 3) := by decide +kernel
theorem d_X5_enter_166 : decode b_X5_enter 166 = .ok (.aload_n 0, 1) := by decide +kernel
theorem d_X5_enter_167 : decode b_X5_enter 167 = .ok (.getfield 65, 3) := by decide +kernel
theorem d_X5_enter_170 : decode b_X5_enter 170 = .ok (.iload_n 1, 1) := by decide +kernel
theorem d_X5_enter_171 : decode b_X5_enter 171 = .ok (.iconst 3, 1) := by decide +kernel
theorem d_X5_enter_172 : decode b_X5_enter 172 = .ok (.iadd, 1) := by decide +kernel
theorem d_X5_enter_173 : decode b_X5_enter 173 = .ok (.invokestatic 127, 3) := by decide +kernel
theorem d_X5_enter_176 : decode b_X5_enter 176 = .ok (.invokevirtual 220, 3) := by decide +kernel
theorem d_X5_enter_179 : decode b_X5_enter 179 = .ok (.return_, 1) := by decide +kernel
theorem d_X5_execute_0 : decode b_X5_execute 0 = .ok (.aload_n 0, 1) := by decide +kernel
theorem d_X5_execute_1 : decode b_X5_execute 1 = .ok (.iload_n 1, 1) := by decide +kernel
theorem d_X5_execute_2 : decode b_X5_execute 2 = .ok (.invokevirtual 66, 3) := by decide +kernel
theorem d_X5_execute_5 : decode b_X5_execute 5 = .ok (.aload_n 0, 1) := by decide +kernel
theorem d_X5_execute_6 : decode b_X5_execute 6 = .ok (.aload_n 0, 1) := by decide +kernel
theorem d_X5_execute_7 : decode b_X5_execute 7 = .ok (.getfield 39, 3) := by decide +kernel
theorem d_X5_execute_10 : decode b_X5_execute 10 = .ok (.getfield 70, 3) := by decide +kernel
theorem d_X5_execute_13 : decode b_X5_execute 13 = .ok (.iconst 0, 1) := by decide +kernel
theorem d_X5_execute_14 : decode b_X5_execute 14 = .ok (.invokevirtual 73, 3) := by decide +kernel
theorem d_X5_execute_17 : decode b_X5_execute 17 = .ok (.ldc2_w 77, 3) := by decide +kernel
theorem d_X5_execute_20 : decode b_X5_execute 20 = .ok (.aload_n 0, 1) := by decide +kernel
theorem d_X5_execute_21 : decode b_X5_execute 21 = .ok (.getfield 79, 3) := by decide +kernel
theorem d_X5_execute_24 : decode b_X5_execute 24 = .ok (.i2l, 1) := by decide +kernel
theorem d_X5_execute_25 : decode b_X5_execute 25 = .ok (.lmul, 1) := by decide +kernel
theorem d_X5_execute_26 : decode b_X5_execute 26 = .ok (.ldc2_w 82, 3) := by decide +kernel
theorem d_X5_execute_29 : decode b_X5_execute 29 = .ok (.ladd, 1) := by decide +kernel
theorem d_X5_execute_30 : decode b_X5_execute 30 = .ok (.aload_n 0, 1) := by decide +kernel
theorem d_X5_execute_31 : decode b_X5_execute 31 = .ok (.getfield 49, 3) := by decide +kernel
theorem d_X5_execute_34 : decode b_X5_execute 34 = .ok (.getfield 54, 3) := by decide +kernel
theorem d_X5_execute_37 : decode b_X5_execute 37 = .ok (.getfield 84, 3) := by decide +kernel
theorem d_X5_execute_40 : decode b_X5_execute 40 = .ok (.i2l, 1) := by decide +kernel
theorem d_X5_execute_41 : decode b_X5_execute 41 = .ok (.lconst 1, 1) := by decide +kernel
theorem d_X5_execute_42 : decode b_X5_execute 42 = .ok (.ladd, 1) := by decide +kernel
theorem d_X5_execute_43 : decode b_X5_execute 43 = .ok (.lmul, 1) := by decide +kernel
theorem d_X5_execute_44 : decode b_X5_execute 44 = .ok (.lstore_n 2, 1) := by decide +kernel
theorem d_X5_execute_45 : decode b_X5_execute 45 = .ok (.lconst 0, 1) := by decide +kernel
theorem d_X5_execute_46 : decode b_X5_execute 46 = .ok (.lstore 4, 2) := by decide +kernel
theorem d_X5_execute_48 : decode b_X5_execute 48 = .ok (.lload 4, 2) := by decide +kernel
theorem d_X5_execute_50 : decode b_X5_execute 50 = .ok (.lload_n 2, 1) := by decide +kernel
theorem d_X5_execute_51 : decode b_X5_execute 51 = .ok (.lcmp, 1) := by decide +kernel
theorem d_X5_execute_52 : decode b_X5_execute 52 = .ok (.ifCond .ge 24, 3) := by decide +kernel
theorem d_X5_execute_55 : decode b_X5_execute 55 = .ok (.aload_n 0, 1) := by decide +kernel
theorem d_X5_execute_56 : decode b_X5_execute 56 = .ok (.getfield 87, 3) := by decide +kernel
theorem d_X5_execute_59 : decode b_X5_execute 59 = .ok (.iconst (-1), 1) := by decide +kernel
theorem d_X5_execute_60 : decode b_X5_execute 60 = .ok (.if_icmp .ne 16, 3) := by decide +kernel
theorem d_X5_execute_63 : decode b_X5_execute 63 = .ok (.aload_n 0, 1) := by decide +kernel
theorem d_X5_execute_64 : decode b_X5_execute 64 = .ok (.invokevirtual 90, 3) := by decide +kernel
theorem d_X5_execute_67 : decode b_X5_execute 67 = .ok (.lload 4, 2) := by decide +kernel
theorem d_X5_execute_69 : decode b_X5_execute 69 = .ok (.lconst 1, 1) := by decide +kernel
theorem d_X5_execute_70 : decode b_X5_execute 70 = .ok (.ladd, 1) := by decide +kernel
theorem d_X5_execute_71 : decode b_X5_execute 71 = .ok (.lstore 4, 2) := by decide +kernel
theorem d_X5_execute_73 : decode b_X5_execute 73 = .ok (.goto (-25), 3) := by decide +kernel
theorem d_X5_execute_76 : decode b_X5_execute 76 = .ok (.aload_n 0, 1) := by decide +kernel
theorem d_X5_execute_77 : decode b_X5_execute 77 = .ok (.getfield 87, 3) := by decide +kernel
theorem d_X5_execute_80 : decode b_X5_execute 80 = .ok (.iconst (-1), 1) := by decide +kernel
theorem d_X5_execute_81 : decode b_X5_execute 81 = .ok (.if_icmp .ne 7, 3) := by decide +kernel
theorem d_X5_execute_84 : decode b_X5_execute 84 = .ok (.aload_n 0, 1) := by decide +kernel
theorem d_X5_execute_85 : decode b_X5_execute 85 = .ok (.invokevirtual 93, 3) := by decide +kernel
theorem d_X5_execute_88 : decode b_X5_execute 88 = .ok (.aload_n 0, 1) := by decide +kernel
theorem d_X5_execute_89 : decode b_X5_execute 89 = .ok (.getfield 50, 3) := by decide +kernel
theorem d_X5_execute_92 : decode b_X5_execute 92 = .ok (.invokevirtual 96, 3) := by decide +kernel
theorem d_X5_execute_95 : decode b_X5_execute 95 = .ok (.aload_n 0, 1) := by decide +kernel
theorem d_X5_execute_96 : decode b_X5_execute 96 = .ok (.getfield 87, 3) := by decide +kernel
theorem d_X5_execute_99 : decode b_X5_execute 99 = .ok (.ireturn, 1) := by decide +kernel
theorem d_X5_fail_0 : decode b_X5_fail 0 = .ok (.aload_n 0, 1) := by decide +kernel
theorem d_X5_fail_1 : decode b_X5_fail 1 = .ok (.iload_n 1, 1) := by decide +kernel
theorem d_X5_fail_2 : decode b_X5_fail 2 = .ok (.putfield 87, 3) := by decide +kernel
theorem d_X5_fail_5 : decode b_X5_fail 5 = .ok (.aload_n 0, 1) := by decide +kernel
theorem d_X5_fail_6 : decode b_X5_fail 6 = .ok (.aload_n 0, 1) := by decide +kernel
theorem d_X5_fail_7 : decode b_X5_fail 7 = .ok (.getfield 115, 3) := by decide +kernel
theorem d_X5_fail_10 : decode b_X5_fail 10 = .ok (.iconst 1, 1) := by decide +kernel
theorem d_X5_fail_11 : decode b_X5_fail 11 = .ok (.isub, 1) := by decide +kernel
theorem d_X5_fail_12 : decode b_X5_fail 12 = .ok (.putfield 30, 3) := by decide +kernel
theorem d_X5_fail_15 : decode b_X5_fail 15 = .ok (.aload_n 0, 1) := by decide +kernel
theorem d_X5_fail_16 : decode b_X5_fail 16 = .ok (.iload_n 2, 1) := by decide +kernel
theorem d_X5_fail_17 : decode b_X5_fail 17 = .ok (.putfield 33, 3) := by decide +kernel
theorem d_X5_fail_20 : decode b_X5_fail 20 = .ok (.return_, 1) := by decide +kernel
theorem d_X5_giveBack_0 : decode b_X5_giveBack 0 = .ok (.aload_n 0, 1) := by decide +kernel
theorem d_X5_giveBack_1 : decode b_X5_giveBack 1 = .ok (.invokevirtual 140, 3) := by decide +kernel
theorem d_X5_giveBack_4 : decode b_X5_giveBack 4 = .ok (.istore_n 1, 1) := by decide +kernel
theorem d_X5_giveBack_5 : decode b_X5_giveBack 5 = .ok (.aload_n 0, 1) := by decide +kernel
theorem d_X5_giveBack_6 : decode b_X5_giveBack 6 = .ok (.dup, 1) := by decide +kernel
theorem d_X5_giveBack_7 : decode b_X5_giveBack 7 = .ok (.getfield 112, 3) := by decide +kernel
theorem d_X5_giveBack_10 : decode b_X5_giveBack 10 = .ok (.iconst 1, 1) := by decide +kernel
theorem d_X5_giveBack_11 : decode b_X5_giveBack 11 = .ok (.isub, 1) := by decide +kernel
theorem d_X5_giveBack_12 : decode b_X5_giveBack 12 = .ok (.putfield 112, 3) := by decide +kernel
theorem d_X5_giveBack_15 : decode b_X5_giveBack 15 = .ok (.aload_n 0, 1) := by decide +kernel
theorem d_X5_giveBack_16 : decode b_X5_giveBack 16 = .ok (.aload_n 0, 1) := by decide +kernel
theorem d_X5_giveBack_17 : decode b_X5_giveBack 17 = .ok (.getfield 121, 3) := by decide +kernel
theorem d_X5_giveBack_20 : decode b_X5_giveBack 20 = .ok (.putfield 118, 3) := by decide +kernel
theorem d_X5_giveBack_23 : decode b_X5_giveBack 23 = .ok (.aload_n 0, 1) := by decide +kernel
theorem d_X5_giveBack_24 : decode b_X5_giveBack 24 = .ok (.aload_n 0, 1) := by decide +kernel
theorem d_X5_giveBack_25 : decode b_X5_giveBack 25 = .ok (.getfield 20, 3) := by decide +kernel
theorem d_X5_giveBack_28 : decode b_X5_giveBack 28 = .ok (.iconst 3, 1) := by decide +kernel
theorem d_X5_giveBack_29 : decode b_X5_giveBack 29 = .ok (.aload_n 0, 1) := by decide +kernel
theorem d_X5_giveBack_30 : decode b_X5_giveBack 30 = .ok (.getfield 112, 3) := by decide +kernel
theorem d_X5_giveBack_33 : decode b_X5_giveBack 33 = .ok (.imul, 1) := by decide +kernel
theorem d_X5_giveBack_34 : decode b_X5_giveBack 34 = .ok (.invokestatic 127, 3) := by decide +kernel
theorem d_X5_giveBack_37 : decode b_X5_giveBack 37 = .ok (.putfield 115, 3) := by decide +kernel
theorem d_X5_giveBack_40 : decode b_X5_giveBack 40 = .ok (.aload_n 0, 1) := by decide +kernel
theorem d_X5_giveBack_41 : decode b_X5_giveBack 41 = .ok (.aload_n 0, 1) := by decide +kernel
theorem d_X5_giveBack_42 : decode b_X5_giveBack 42 = .ok (.getfield 20, 3) := by decide +kernel
theorem d_X5_giveBack_45 : decode b_X5_giveBack 45 = .ok (.iconst 3, 1) := by decide +kernel
theorem d_X5_giveBack_46 : decode b_X5_giveBack 46 = .ok (.aload_n 0, 1) := by decide +kernel
theorem d_X5_giveBack_47 : decode b_X5_giveBack 47 = .ok (.getfield 112, 3) := by decide +kernel
theorem d_X5_giveBack_50 : decode b_X5_giveBack 50 = .ok (.imul, 1) := by decide +kernel
theorem d_X5_giveBack_51 : decode b_X5_giveBack 51 = .ok (.iconst 1, 1) := by decide +kernel
theorem d_X5_giveBack_52 : decode b_X5_giveBack 52 = .ok (.iadd, 1) := by decide +kernel
theorem d_X5_giveBack_53 : decode b_X5_giveBack 53 = .ok (.invokestatic 127, 3) := by decide +kernel
theorem d_X5_giveBack_56 : decode b_X5_giveBack 56 = .ok (.putfield 121, 3) := by decide +kernel
theorem d_X5_giveBack_59 : decode b_X5_giveBack 59 = .ok (.aload_n 0, 1) := by decide +kernel
theorem d_X5_giveBack_60 : decode b_X5_giveBack 60 = .ok (.aload_n 0, 1) := by decide +kernel
theorem d_X5_giveBack_61 : decode b_X5_giveBack 61 = .ok (.getfield 20, 3) := by decide +kernel
theorem d_X5_giveBack_64 : decode b_X5_giveBack 64 = .ok (.iconst 3, 1) := by decide +kernel
theorem d_X5_giveBack_65 : decode b_X5_giveBack 65 = .ok (.aload_n 0, 1) := by decide +kernel
theorem d_X5_giveBack_66 : decode b_X5_giveBack 66 = .ok (.getfield 112, 3) := by decide +kernel
theorem d_X5_giveBack_69 : decode b_X5_giveBack 69 = .ok (.imul, 1) := by decide +kernel
theorem d_X5_giveBack_70 : decode b_X5_giveBack 70 = .ok (.iconst 2, 1) := by decide +kernel
theorem d_X5_giveBack_71 : decode b_X5_giveBack 71 = .ok (.iadd, 1) := by decide +kernel
theorem d_X5_giveBack_72 : decode b_X5_giveBack 72 = .ok (.invokestatic 127, 3) := by decide +kernel
theorem d_X5_giveBack_75 : decode b_X5_giveBack 75 = .ok (.putfield 124, 3) := by decide +kernel
theorem d_X5_giveBack_78 : decode b_X5_giveBack 78 = .ok (.aload_n 0, 1) := by decide +kernel
theorem d_X5_giveBack_79 : decode b_X5_giveBack 79 = .ok (.getfield 112, 3) := by decide +kernel
theorem d_X5_giveBack_82 : decode b_X5_giveBack 82 = .ok (.ifCond .gt 16, 3) := by decide +kernel
theorem d_X5_giveBack_85 : decode b_X5_giveBack 85 = .ok (.aload_n 0, 1) := by decide +kernel
theorem d_X5_giveBack_86 : decode b_X5_giveBack 86 = .ok (.iload_n 1, 1) := by decide +kernel
theorem d_X5_giveBack_87 : decode b_X5_giveBack 87 = .ok (.putfield 27, 3) := by decide +kernel
theorem d_X5_giveBack_90 : decode b_X5_giveBack 90 = .ok (.aload_n 0, 1) := by decide +kernel
theorem d_X5_giveBack_91 : decode b_X5_giveBack 91 = .ok (.iconst 0, 1) := by decide +kernel
theorem d_X5_giveBack_92 : decode b_X5_giveBack 92 = .ok (.putfield 87, 3) := by decide +kernel
theorem d_X5_giveBack_95 : decode b_X5_giveBack 95 = .ok (.goto 8, 3) := by decide +kernel
theorem d_X5_giveBack_98 : decode b_X5_giveBack 98 = .ok (.aload_n 0, 1) := by decide +kernel
theorem d_X5_giveBack_99 : decode b_X5_giveBack 99 = .ok (.iload_n 1, 1) := by decide +kernel
theorem d_X5_giveBack_100 : decode b_X5_giveBack 100 = .ok (.invokevirtual 148, 3) := by decide +kernel
theorem d_X5_giveBack_103 : decode b_X5_giveBack 103 = .ok (.return_, 1) := by decide +kernel
theorem d_X5_inFrame_0 : decode b_X5_inFrame 0 = .ok (.aload_n 0, 1) := by decide +kernel
theorem d_X5_inFrame_1 : decode b_X5_inFrame 1 = .ok (.getfield 124, 3) := by decide +kernel
theorem d_X5_inFrame_4 : decode b_X5_inFrame 4 = .ok (.aload_n 0, 1) := by decide +kernel
theorem d_X5_inFrame_5 : decode b_X5_inFrame 5 = .ok (.getfield 65, 3) := by decide +kernel
theorem d_X5_inFrame_8 : decode b_X5_inFrame 8 = .ok (.iload_n 2, 1) := by decide +kernel
theorem d_X5_inFrame_9 : decode b_X5_inFrame 9 = .ok (.iconst 1, 1) := by decide +kernel
theorem d_X5_inFrame_10 : decode b_X5_inFrame 10 = .ok (.iadd, 1) := by decide +kernel
theorem d_X5_inFrame_11 : decode b_X5_inFrame 11 = .ok (.invokestatic 127, 3) := by decide +kernel
theorem d_X5_inFrame_14 : decode b_X5_inFrame 14 = .ok (.iadd, 1) := by decide +kernel
theorem d_X5_inFrame_15 : decode b_X5_inFrame 15 = .ok (.istore_n 3, 1) := by decide +kernel
theorem d_X5_inFrame_16 : decode b_X5_inFrame 16 = .ok (.aload_n 0, 1) := by decide +kernel
theorem d_X5_inFrame_17 : decode b_X5_inFrame 17 = .ok (.getfield 65, 3) := by decide +kernel
theorem d_X5_inFrame_20 : decode b_X5_inFrame 20 = .ok (.iload_n 2, 1) := by decide +kernel
theorem d_X5_inFrame_21 : decode b_X5_inFrame 21 = .ok (.iconst 2, 1) := by decide +kernel
theorem d_X5_inFrame_22 : decode b_X5_inFrame 22 = .ok (.iadd, 1) := by decide +kernel
theorem d_X5_inFrame_23 : decode b_X5_inFrame 23 = .ok (.invokestatic 127, 3) := by decide +kernel
theorem d_X5_inFrame_26 : decode b_X5_inFrame 26 = .ok (.istore 4, 2) := by decide +kernel
theorem d_X5_inFrame_28 : decode b_X5_inFrame 28 = .ok (.iload_n 1, 1) := by decide +kernel
theorem d_X5_inFrame_29 : decode b_X5_inFrame 29 = .ok (.tableswitch 146 11 16 #[39, 54, 69, 82, 90, 128], 39) := by decide +kernel
theorem d_X5_inFrame_68 : decode b_X5_inFrame 68 = .ok (.aload_n 0, 1) := by decide +kernel
theorem d_X5_inFrame_69 : decode b_X5_inFrame 69 = .ok (.aload_n 0, 1) := by decide +kernel
theorem d_X5_inFrame_70 : decode b_X5_inFrame 70 = .ok (.getfield 12, 3) := by decide +kernel
theorem d_X5_inFrame_73 : decode b_X5_inFrame 73 = .ok (.iload_n 3, 1) := by decide +kernel
theorem d_X5_inFrame_74 : decode b_X5_inFrame 74 = .ok (.invokestatic 127, 3) := by decide +kernel
theorem d_X5_inFrame_77 : decode b_X5_inFrame 77 = .ok (.invokevirtual 148, 3) := by decide +kernel
theorem d_X5_inFrame_80 : decode b_X5_inFrame 80 = .ok (.goto 116, 3) := by decide +kernel
theorem d_X5_inFrame_83 : decode b_X5_inFrame 83 = .ok (.aload_n 0, 1) := by decide +kernel
theorem d_X5_inFrame_84 : decode b_X5_inFrame 84 = .ok (.getfield 12, 3) := by decide +kernel
theorem d_X5_inFrame_87 : decode b_X5_inFrame 87 = .ok (.iload_n 3, 1) := by decide +kernel
theorem d_X5_inFrame_88 : decode b_X5_inFrame 88 = .ok (.aload_n 0, 1) := by decide +kernel
theorem d_X5_inFrame_89 : decode b_X5_inFrame 89 = .ok (.invokevirtual 186, 3) := by decide +kernel
theorem d_X5_inFrame_92 : decode b_X5_inFrame 92 = .ok (.invokestatic 160, 3) := by decide +kernel
theorem d_X5_inFrame_95 : decode b_X5_inFrame 95 = .ok (.goto 101, 3) := by decide +kernel
theorem d_X5_inFrame_98 : decode b_X5_inFrame 98 = .ok (.aload_n 0, 1) := by decide +kernel
theorem d_X5_inFrame_99 : decode b_X5_inFrame 99 = .ok (.aload_n 0, 1) := by decide +kernel
theorem d_X5_inFrame_100 : decode b_X5_inFrame 100 = .ok (.getfield 12, 3) := by decide +kernel
theorem d_X5_inFrame_103 : decode b_X5_inFrame 103 = .ok (.iload_n 3, 1) := by decide +kernel
theorem d_X5_inFrame_104 : decode b_X5_inFrame 104 = .ok (.iload_n 2, 1) := by decide +kernel
theorem d_X5_inFrame_105 : decode b_X5_inFrame 105 = .ok (.invokevirtual 189, 3) := by decide +kernel
theorem d_X5_inFrame_108 : decode b_X5_inFrame 108 = .ok (.goto 88, 3) := by decide +kernel
theorem d_X5_inFrame_111 : decode b_X5_inFrame 111 = .ok (.aload_n 0, 1) := by decide +kernel
theorem d_X5_inFrame_112 : decode b_X5_inFrame 112 = .ok (.iload_n 3, 1) := by decide +kernel
theorem d_X5_inFrame_113 : decode b_X5_inFrame 113 = .ok (.invokevirtual 148, 3) := by decide +kernel
theorem d_X5_inFrame_116 : decode b_X5_inFrame 116 = .ok (.goto 80, 3) := by decide +kernel
theorem d_X5_inFrame_119 : decode b_X5_inFrame 119 = .ok (.iconst 0, 1) := by decide +kernel
theorem d_X5_inFrame_120 : decode b_X5_inFrame 120 = .ok (.istore 5, 2) := by decide +kernel
theorem d_X5_inFrame_122 : decode b_X5_inFrame 122 = .ok (.iload 5, 2) := by decide +kernel
theorem d_X5_inFrame_124 : decode b_X5_inFrame 124 = .ok (.iload 4, 2) := by decide +kernel
theorem d_X5_inFrame_126 : decode b_X5_inFrame 126 = .ok (.if_icmp .ge 28, 3) := by decide +kernel
theorem d_X5_inFrame_129 : decode b_X5_inFrame 129 = .ok (.iload 5, 2) := by decide +kernel
theorem d_X5_inFrame_131 : decode b_X5_inFrame 131 = .ok (.ldc 11, 2) := by decide +kernel
theorem d_X5_inFrame_133 : decode b_X5_inFrame 133 = .ok (.if_icmp .ge 21, 3) := by decide +kernel
theorem d_X5_inFrame_136 : decode b_X5_inFrame 136 = .ok (.aload_n 0, 1) := by decide +kernel
theorem d_X5_inFrame_137 : decode b_X5_inFrame 137 = .ok (.getfield 12, 3) := by decide +kernel
theorem d_X5_inFrame_140 : decode b_X5_inFrame 140 = .ok (.iload_n 3, 1) := by decide +kernel
theorem d_X5_inFrame_141 : decode b_X5_inFrame 141 = .ok (.iload 5, 2) := by decide +kernel
theorem d_X5_inFrame_143 : decode b_X5_inFrame 143 = .ok (.iadd, 1) := by decide +kernel
theorem d_X5_inFrame_144 : decode b_X5_inFrame 144 = .ok (.iconst 0, 1) := by decide +kernel
theorem d_X5_inFrame_145 : decode b_X5_inFrame 145 = .ok (.invokestatic 160, 3) := by decide +kernel
theorem d_X5_inFrame_148 : decode b_X5_inFrame 148 = .ok (.iinc 5 1, 3) := by decide +kernel
theorem d_X5_inFrame_151 : decode b_X5_inFrame 151 = .ok (.goto (-29), 3) := by decide +kernel
theorem d_X5_inFrame_154 : decode b_X5_inFrame 154 = .ok (.goto 42, 3) := by decide +kernel
theorem d_X5_inFrame_157 : decode b_X5_inFrame 157 = .ok (.aload_n 0, 1) := by decide +kernel
theorem d_X5_inFrame_158 : decode b_X5_inFrame 158 = .ok (.getfield 12, 3) := by decide +kernel
theorem d_X5_inFrame_161 : decode b_X5_inFrame 161 = .ok (.iload_n 3, 1) := by decide +kernel
theorem d_X5_inFrame_162 : decode b_X5_inFrame 162 = .ok (.iload 4, 2) := by decide +kernel
theorem d_X5_inFrame_164 : decode b_X5_inFrame 164 = .ok (.iadd, 1) := by decide +kernel
theorem d_X5_inFrame_165 : decode b_X5_inFrame 165 = .ok (.aload_n 0, 1) := by decide +kernel
theorem d_X5_inFrame_166 : decode b_X5_inFrame 166 = .ok (.invokevirtual 140, 3) := by decide +kernel
theorem d_X5_inFrame_169 : decode b_X5_inFrame 169 = .ok (.invokestatic 160, 3) := by decide +kernel
theorem d_X5_inFrame_172 : decode b_X5_inFrame 172 = .ok (.goto 24, 3) := by decide +kernel
theorem d_X5_inFrame_175 : decode b_X5_inFrame 175 = .ok (.aload_n 0, 1) := by decide +kernel
theorem d_X5_inFrame_176 : decode b_X5_inFrame 176 = .ok (.getfield 12, 3) := by decide +kernel
theorem d_X5_inFrame_179 : decode b_X5_inFrame 179 = .ok (.iload_n 3, 1) := by decide +kernel
theorem d_X5_inFrame_180 : decode b_X5_inFrame 180 = .ok (.iload 4, 2) := by decide +kernel
theorem d_X5_inFrame_182 : decode b_X5_inFrame 182 = .ok (.iadd, 1) := by decide +kernel
theorem d_X5_inFrame_183 : decode b_X5_inFrame 183 = .ok (.aload_n 0, 1) := by decide +kernel
theorem d_X5_inFrame_184 : decode b_X5_inFrame 184 = .ok (.getfield 65, 3) := by decide +kernel
theorem d_X5_inFrame_187 : decode b_X5_inFrame 187 = .ok (.iload_n 2, 1) := by decide +kernel
theorem d_X5_inFrame_188 : decode b_X5_inFrame 188 = .ok (.iconst 3, 1) := by decide +kernel
theorem d_X5_inFrame_189 : decode b_X5_inFrame 189 = .ok (.iadd, 1) := by decide +kernel
theorem d_X5_inFrame_190 : decode b_X5_inFrame 190 = .ok (.invokestatic 127, 3) := by decide +kernel
theorem d_X5_inFrame_193 : decode b_X5_inFrame 193 = .ok (.invokestatic 160, 3) := by decide +kernel
theorem d_X5_inFrame_196 : decode b_X5_inFrame 196 = .ok (.return_, 1) := by decide +kernel
theorem d_X5_inverted_0 : decode b_X5_inverted 0 = .ok (.iload_n 0, 1) := by decide +kernel
theorem d_X5_inverted_1 : decode b_X5_inverted 1 = .ok (.tableswitch 44 22 24 #[27, 30, 34], 27) := by decide +kernel
theorem d_X5_inverted_28 : decode b_X5_inverted 28 = .ok (.iload_n 1, 1) := by decide +kernel
theorem d_X5_inverted_29 : decode b_X5_inverted 29 = .ok (.ineg, 1) := by decide +kernel
theorem d_X5_inverted_30 : decode b_X5_inverted 30 = .ok (.ireturn, 1) := by decide +kernel
theorem d_X5_inverted_31 : decode b_X5_inverted 31 = .ok (.iload_n 1, 1) := by decide +kernel
theorem d_X5_inverted_32 : decode b_X5_inverted 32 = .ok (.iconst (-1), 1) := by decide +kernel
theorem d_X5_inverted_33 : decode b_X5_inverted 33 = .ok (.ixor, 1) := by decide +kernel
theorem d_X5_inverted_34 : decode b_X5_inverted 34 = .ok (.ireturn, 1) := by decide +kernel
theorem d_X5_inverted_35 : decode b_X5_inverted 35 = .ok (.iload_n 1, 1) := by decide +kernel
theorem d_X5_inverted_36 : decode b_X5_inverted 36 = .ok (.ifCond .ne 7, 3) := by decide +kernel
theorem d_X5_inverted_39 : decode b_X5_inverted 39 = .ok (.iconst 1, 1) := by decide +kernel
theorem d_X5_inverted_40 : decode b_X5_inverted 40 = .ok (.goto 4, 3) := by decide +kernel
theorem d_X5_inverted_43 : decode b_X5_inverted 43 = .ok (.iconst 0, 1) := by decide +kernel
theorem d_X5_inverted_44 : decode b_X5_inverted 44 = .ok (.ireturn, 1) := by decide +kernel
theorem d_X5_inverted_45 : decode b_X5_inverted 45 = .ok (.iload_n 1, 1) := by decide +kernel
theorem d_X5_inverted_46 : decode b_X5_inverted 46 = .ok (.ifCond .eq 7, 3) := by decide +kernel
theorem d_X5_inverted_49 : decode b_X5_inverted 49 = .ok (.iconst 1, 1) := by decide +kernel
theorem d_X5_inverted_50 : decode b_X5_inverted 50 = .ok (.goto 4, 3) := by decide +kernel
theorem d_X5_inverted_53 : decode b_X5_inverted 53 = .ok (.iconst 0, 1) := by decide +kernel
theorem d_X5_inverted_54 : decode b_X5_inverted 54 = .ok (.ireturn, 1) := by decide +kernel
theorem d_X5_isCell_0 : decode b_X5_isCell 0 = .ok (.iload_n 0, 1) := by decide +kernel
theorem d_X5_isCell_1 : decode b_X5_isCell 1 = .ok (.bipush 16, 2) := by decide +kernel
theorem d_X5_isCell_3 : decode b_X5_isCell 3 = .ok (.if_icmp .lt 13, 3) := by decide +kernel
theorem d_X5_isCell_6 : decode b_X5_isCell 6 = .ok (.iload_n 0, 1) := by decide +kernel
theorem d_X5_isCell_7 : decode b_X5_isCell 7 = .ok (.ldc 11, 2) := by decide +kernel
theorem d_X5_isCell_9 : decode b_X5_isCell 9 = .ok (.if_icmp .ge 7, 3) := by decide +kernel
theorem d_X5_isCell_12 : decode b_X5_isCell 12 = .ok (.iconst 1, 1) := by decide +kernel
theorem d_X5_isCell_13 : decode b_X5_isCell 13 = .ok (.goto 4, 3) := by decide +kernel
theorem d_X5_isCell_16 : decode b_X5_isCell 16 = .ok (.iconst 0, 1) := by decide +kernel
theorem d_X5_isCell_17 : decode b_X5_isCell 17 = .ok (.ireturn, 1) := by decide +kernel
theorem d_X5_lead_0 : decode b_X5_lead 0 = .ok (.aload_n 0, 1) := by decide +kernel
theorem d_X5_lead_1 : decode b_X5_lead 1 = .ok (.getfield 65, 3) := by decide +kernel
theorem d_X5_lead_4 : decode b_X5_lead 4 = .ok (.iload_n 2, 1) := by decide +kernel
theorem d_X5_lead_5 : decode b_X5_lead 5 = .ok (.iconst 1, 1) := by decide +kernel
theorem d_X5_lead_6 : decode b_X5_lead 6 = .ok (.iadd, 1) := by decide +kernel
theorem d_X5_lead_7 : decode b_X5_lead 7 = .ok (.invokestatic 127, 3) := by decide +kernel
theorem d_X5_lead_10 : decode b_X5_lead 10 = .ok (.istore_n 3, 1) := by decide +kernel
theorem d_X5_lead_11 : decode b_X5_lead 11 = .ok (.iload_n 1, 1) := by decide +kernel
theorem d_X5_lead_12 : decode b_X5_lead 12 = .ok (.tableswitch 152 26 32 #[44, 52, 74, 96, 96, 115, 124], 44) := by decide +kernel
theorem d_X5_lead_56 : decode b_X5_lead 56 = .ok (.aload_n 0, 1) := by decide +kernel
theorem d_X5_lead_57 : decode b_X5_lead 57 = .ok (.iload_n 3, 1) := by decide +kernel
theorem d_X5_lead_58 : decode b_X5_lead 58 = .ok (.putfield 115, 3) := by decide +kernel
theorem d_X5_lead_61 : decode b_X5_lead 61 = .ok (.goto 107, 3) := by decide +kernel
theorem d_X5_lead_64 : decode b_X5_lead 64 = .ok (.aload_n 0, 1) := by decide +kernel
theorem d_X5_lead_65 : decode b_X5_lead 65 = .ok (.aload_n 0, 1) := by decide +kernel
theorem d_X5_lead_66 : decode b_X5_lead 66 = .ok (.invokevirtual 140, 3) := by decide +kernel
theorem d_X5_lead_69 : decode b_X5_lead 69 = .ok (.ifCond .ne 7, 3) := by decide +kernel
theorem d_X5_lead_72 : decode b_X5_lead 72 = .ok (.iload_n 3, 1) := by decide +kernel
theorem d_X5_lead_73 : decode b_X5_lead 73 = .ok (.goto 7, 3) := by decide +kernel
theorem d_X5_lead_76 : decode b_X5_lead 76 = .ok (.aload_n 0, 1) := by decide +kernel
theorem d_X5_lead_77 : decode b_X5_lead 77 = .ok (.getfield 115, 3) := by decide +kernel
theorem d_X5_lead_80 : decode b_X5_lead 80 = .ok (.putfield 115, 3) := by decide +kernel
theorem d_X5_lead_83 : decode b_X5_lead 83 = .ok (.goto 85, 3) := by decide +kernel
theorem d_X5_lead_86 : decode b_X5_lead 86 = .ok (.aload_n 0, 1) := by decide +kernel
theorem d_X5_lead_87 : decode b_X5_lead 87 = .ok (.aload_n 0, 1) := by decide +kernel
theorem d_X5_lead_88 : decode b_X5_lead 88 = .ok (.invokevirtual 140, 3) := by decide +kernel
theorem d_X5_lead_91 : decode b_X5_lead 91 = .ok (.ifCond .eq 7, 3) := by decide +kernel
theorem d_X5_lead_94 : decode b_X5_lead 94 = .ok (.iload_n 3, 1) := by decide +kernel
theorem d_X5_lead_95 : decode b_X5_lead 95 = .ok (.goto 7, 3) := by decide +kernel
theorem d_X5_lead_98 : decode b_X5_lead 98 = .ok (.aload_n 0, 1) := by decide +kernel
theorem d_X5_lead_99 : decode b_X5_lead 99 = .ok (.getfield 115, 3) := by decide +kernel
theorem d_X5_lead_102 : decode b_X5_lead 102 = .ok (.putfield 115, 3) := by decide +kernel
theorem d_X5_lead_105 : decode b_X5_lead 105 = .ok (.goto 63, 3) := by decide +kernel
theorem d_X5_lead_108 : decode b_X5_lead 108 = .ok (.aload_n 0, 1) := by decide +kernel
theorem d_X5_lead_109 : decode b_X5_lead 109 = .ok (.iload_n 1, 1) := by decide +kernel
theorem d_X5_lead_110 : decode b_X5_lead 110 = .ok (.bipush 30, 2) := by decide +kernel
theorem d_X5_lead_112 : decode b_X5_lead 112 = .ok (.if_icmp .ne 7, 3) := by decide +kernel
theorem d_X5_lead_115 : decode b_X5_lead 115 = .ok (.iconst 1, 1) := by decide +kernel
theorem d_X5_lead_116 : decode b_X5_lead 116 = .ok (.goto 4, 3) := by decide +kernel
theorem d_X5_lead_119 : decode b_X5_lead 119 = .ok (.iconst 0, 1) := by decide +kernel
theorem d_X5_lead_120 : decode b_X5_lead 120 = .ok (.iload_n 3, 1) := by decide +kernel
theorem d_X5_lead_121 : decode b_X5_lead 121 = .ok (.invokevirtual 196, 3) := by decide +kernel
theorem d_X5_lead_124 : decode b_X5_lead 124 = .ok (.goto 44, 3) := by decide +kernel
theorem d_X5_lead_127 : decode b_X5_lead 127 = .ok (.aload_n 0, 1) := by decide +kernel
theorem d_X5_lead_128 : decode b_X5_lead 128 = .ok (.iload_n 3, 1) := by decide +kernel
theorem d_X5_lead_129 : decode b_X5_lead 129 = .ok (.invokevirtual 200, 3) := by decide +kernel
theorem d_X5_lead_132 : decode b_X5_lead 132 = .ok (.pop, 1) := by decide +kernel
theorem d_X5_lead_133 : decode b_X5_lead 133 = .ok (.goto 35, 3) := by decide +kernel
theorem d_X5_lead_136 : decode b_X5_lead 136 = .ok (.aload_n 0, 1) := by decide +kernel
theorem d_X5_lead_137 : decode b_X5_lead 137 = .ok (.aload_n 0, 1) := by decide +kernel
theorem d_X5_lead_138 : decode b_X5_lead 138 = .ok (.getfield 39, 3) := by decide +kernel
theorem d_X5_lead_141 : decode b_X5_lead 141 = .ok (.getfield 183, 3) := by decide +kernel
theorem d_X5_lead_144 : decode b_X5_lead 144 = .ok (.iload_n 3, 1) := by decide +kernel
theorem d_X5_lead_145 : decode b_X5_lead 145 = .ok (.invokestatic 127, 3) := by decide +kernel
theorem d_X5_lead_148 : decode b_X5_lead 148 = .ok (.aload_n 0, 1) := by decide +kernel
theorem d_X5_lead_149 : decode b_X5_lead 149 = .ok (.getfield 65, 3) := by decide +kernel
theorem d_X5_lead_152 : decode b_X5_lead 152 = .ok (.iload_n 2, 1) := by decide +kernel
theorem d_X5_lead_153 : decode b_X5_lead 153 = .ok (.iconst 2, 1) := by decide +kernel
theorem d_X5_lead_154 : decode b_X5_lead 154 = .ok (.iadd, 1) := by decide +kernel
theorem d_X5_lead_155 : decode b_X5_lead 155 = .ok (.invokestatic 127, 3) := by decide +kernel
theorem d_X5_lead_158 : decode b_X5_lead 158 = .ok (.invokevirtual 203, 3) := by decide +kernel
theorem d_X5_lead_161 : decode b_X5_lead 161 = .ok (.goto 7, 3) := by decide +kernel
theorem d_X5_lead_164 : decode b_X5_lead 164 = .ok (.aload_n 0, 1) := by decide +kernel
theorem d_X5_lead_165 : decode b_X5_lead 165 = .ok (.invokevirtual 206, 3) := by decide +kernel
theorem d_X5_lead_168 : decode b_X5_lead 168 = .ok (.return_, 1) := by decide +kernel
theorem d_X5_peeked_0 : decode b_X5_peeked 0 = .ok (.aload_n 0, 1) := by decide +kernel
theorem d_X5_peeked_1 : decode b_X5_peeked 1 = .ok (.getfield 17, 3) := by decide +kernel
theorem d_X5_peeked_4 : decode b_X5_peeked 4 = .ok (.aload_n 0, 1) := by decide +kernel
theorem d_X5_peeked_5 : decode b_X5_peeked 5 = .ok (.getfield 118, 3) := by decide +kernel
theorem d_X5_peeked_8 : decode b_X5_peeked 8 = .ok (.iconst 1, 1) := by decide +kernel
theorem d_X5_peeked_9 : decode b_X5_peeked 9 = .ok (.isub, 1) := by decide +kernel
theorem d_X5_peeked_10 : decode b_X5_peeked 10 = .ok (.invokestatic 127, 3) := by decide +kernel
theorem d_X5_peeked_13 : decode b_X5_peeked 13 = .ok (.ireturn, 1) := by decide +kernel
theorem d_X5_plain_0 : decode b_X5_plain 0 = .ok (.aload_n 0, 1) := by decide +kernel
theorem d_X5_plain_1 : decode b_X5_plain 1 = .ok (.getfield 65, 3) := by decide +kernel
theorem d_X5_plain_4 : decode b_X5_plain 4 = .ok (.iload_n 2, 1) := by decide +kernel
theorem d_X5_plain_5 : decode b_X5_plain 5 = .ok (.iconst 1, 1) := by decide +kernel
theorem d_X5_plain_6 : decode b_X5_plain 6 = .ok (.iadd, 1) := by decide +kernel
theorem d_X5_plain_7 : decode b_X5_plain 7 = .ok (.invokestatic 127, 3) := by decide +kernel
theorem d_X5_plain_10 : decode b_X5_plain 10 = .ok (.istore_n 3, 1) := by decide +kernel
theorem d_X5_plain_11 : decode b_X5_plain 11 = .ok (.aload_n 0, 1) := by decide +kernel
theorem d_X5_plain_12 : decode b_X5_plain 12 = .ok (.getfield 65, 3) := by decide +kernel
theorem d_X5_plain_15 : decode b_X5_plain 15 = .ok (.iload_n 2, 1) := by decide +kernel
theorem d_X5_plain_16 : decode b_X5_plain 16 = .ok (.iconst 2, 1) := by decide +kernel
theorem d_X5_plain_17 : decode b_X5_plain 17 = .ok (.iadd, 1) := by decide +kernel
theorem d_X5_plain_18 : decode b_X5_plain 18 = .ok (.invokestatic 127, 3) := by decide +kernel
theorem d_X5_plain_21 : decode b_X5_plain 21 = .ok (.istore 4, 2) := by decide +kernel
theorem d_X5_plain_23 : decode b_X5_plain 23 = .ok (.iload_n 1, 1) := by decide +kernel
theorem d_X5_plain_24 : decode b_X5_plain 24 = .ok (.tableswitch 220 1 9 #[52, 60, 68, 89, 107, 132, 157, 180, 200], 52) := by decide +kernel
theorem d_X5_plain_76 : decode b_X5_plain 76 = .ok (.aload_n 0, 1) := by decide +kernel
theorem d_X5_plain_77 : decode b_X5_plain 77 = .ok (.iload_n 3, 1) := by decide +kernel
theorem d_X5_plain_78 : decode b_X5_plain 78 = .ok (.invokevirtual 148, 3) := by decide +kernel
theorem d_X5_plain_81 : decode b_X5_plain 81 = .ok (.goto 178, 3) := by decide +kernel
theorem d_X5_plain_84 : decode b_X5_plain 84 = .ok (.aload_n 0, 1) := by decide +kernel
theorem d_X5_plain_85 : decode b_X5_plain 85 = .ok (.invokevirtual 140, 3) := by decide +kernel
theorem d_X5_plain_88 : decode b_X5_plain 88 = .ok (.pop, 1) := by decide +kernel
theorem d_X5_plain_89 : decode b_X5_plain 89 = .ok (.goto 170, 3) := by decide +kernel
theorem d_X5_plain_92 : decode b_X5_plain 92 = .ok (.aload_n 0, 1) := by decide +kernel
theorem d_X5_plain_93 : decode b_X5_plain 93 = .ok (.aload_n 0, 1) := by decide +kernel
theorem d_X5_plain_94 : decode b_X5_plain 94 = .ok (.getfield 39, 3) := by decide +kernel
theorem d_X5_plain_97 : decode b_X5_plain 97 = .ok (.getfield 180, 3) := by decide +kernel
theorem d_X5_plain_100 : decode b_X5_plain 100 = .ok (.iload_n 3, 1) := by decide +kernel
theorem d_X5_plain_101 : decode b_X5_plain 101 = .ok (.invokestatic 127, 3) := by decide +kernel
theorem d_X5_plain_104 : decode b_X5_plain 104 = .ok (.iload 4, 2) := by decide +kernel
theorem d_X5_plain_106 : decode b_X5_plain 106 = .ok (.iadd, 1) := by decide +kernel
theorem d_X5_plain_107 : decode b_X5_plain 107 = .ok (.invokevirtual 148, 3) := by decide +kernel
theorem d_X5_plain_110 : decode b_X5_plain 110 = .ok (.goto 149, 3) := by decide +kernel
theorem d_X5_plain_113 : decode b_X5_plain 113 = .ok (.aload_n 0, 1) := by decide +kernel
theorem d_X5_plain_114 : decode b_X5_plain 114 = .ok (.aload_n 0, 1) := by decide +kernel
theorem d_X5_plain_115 : decode b_X5_plain 115 = .ok (.getfield 39, 3) := by decide +kernel
theorem d_X5_plain_118 : decode b_X5_plain 118 = .ok (.getfield 183, 3) := by decide +kernel
theorem d_X5_plain_121 : decode b_X5_plain 121 = .ok (.iload_n 3, 1) := by decide +kernel
theorem d_X5_plain_122 : decode b_X5_plain 122 = .ok (.invokestatic 127, 3) := by decide +kernel
theorem d_X5_plain_125 : decode b_X5_plain 125 = .ok (.invokevirtual 148, 3) := by decide +kernel
theorem d_X5_plain_128 : decode b_X5_plain 128 = .ok (.goto 131, 3) := by decide +kernel
theorem d_X5_plain_131 : decode b_X5_plain 131 = .ok (.aload_n 0, 1) := by decide +kernel
theorem d_X5_plain_132 : decode b_X5_plain 132 = .ok (.aload_n 0, 1) := by decide +kernel
theorem d_X5_plain_133 : decode b_X5_plain 133 = .ok (.getfield 12, 3) := by decide +kernel
theorem d_X5_plain_136 : decode b_X5_plain 136 = .ok (.aload_n 0, 1) := by decide +kernel
theorem d_X5_plain_137 : decode b_X5_plain 137 = .ok (.getfield 39, 3) := by decide +kernel
theorem d_X5_plain_140 : decode b_X5_plain 140 = .ok (.getfield 183, 3) := by decide +kernel
theorem d_X5_plain_143 : decode b_X5_plain 143 = .ok (.iload_n 3, 1) := by decide +kernel
theorem d_X5_plain_144 : decode b_X5_plain 144 = .ok (.invokestatic 127, 3) := by decide +kernel
theorem d_X5_plain_147 : decode b_X5_plain 147 = .ok (.invokestatic 127, 3) := by decide +kernel
theorem d_X5_plain_150 : decode b_X5_plain 150 = .ok (.invokevirtual 148, 3) := by decide +kernel
theorem d_X5_plain_153 : decode b_X5_plain 153 = .ok (.goto 106, 3) := by decide +kernel
theorem d_X5_plain_156 : decode b_X5_plain 156 = .ok (.aload_n 0, 1) := by decide +kernel
theorem d_X5_plain_157 : decode b_X5_plain 157 = .ok (.getfield 12, 3) := by decide +kernel
theorem d_X5_plain_160 : decode b_X5_plain 160 = .ok (.aload_n 0, 1) := by decide +kernel
theorem d_X5_plain_161 : decode b_X5_plain 161 = .ok (.getfield 39, 3) := by decide +kernel
theorem d_X5_plain_164 : decode b_X5_plain 164 = .ok (.getfield 183, 3) := by decide +kernel
theorem d_X5_plain_167 : decode b_X5_plain 167 = .ok (.iload_n 3, 1) := by decide +kernel
theorem d_X5_plain_168 : decode b_X5_plain 168 = .ok (.invokestatic 127, 3) := by decide +kernel
theorem d_X5_plain_171 : decode b_X5_plain 171 = .ok (.aload_n 0, 1) := by decide +kernel
theorem d_X5_plain_172 : decode b_X5_plain 172 = .ok (.invokevirtual 186, 3) := by decide +kernel
theorem d_X5_plain_175 : decode b_X5_plain 175 = .ok (.invokestatic 160, 3) := by decide +kernel
theorem d_X5_plain_178 : decode b_X5_plain 178 = .ok (.goto 81, 3) := by decide +kernel
theorem d_X5_plain_181 : decode b_X5_plain 181 = .ok (.aload_n 0, 1) := by decide +kernel
theorem d_X5_plain_182 : decode b_X5_plain 182 = .ok (.aload_n 0, 1) := by decide +kernel
theorem d_X5_plain_183 : decode b_X5_plain 183 = .ok (.getfield 12, 3) := by decide +kernel
theorem d_X5_plain_186 : decode b_X5_plain 186 = .ok (.aload_n 0, 1) := by decide +kernel
theorem d_X5_plain_187 : decode b_X5_plain 187 = .ok (.getfield 39, 3) := by decide +kernel
theorem d_X5_plain_190 : decode b_X5_plain 190 = .ok (.getfield 183, 3) := by decide +kernel
theorem d_X5_plain_193 : decode b_X5_plain 193 = .ok (.iload_n 3, 1) := by decide +kernel
theorem d_X5_plain_194 : decode b_X5_plain 194 = .ok (.invokestatic 127, 3) := by decide +kernel
theorem d_X5_plain_197 : decode b_X5_plain 197 = .ok (.iload_n 2, 1) := by decide +kernel
theorem d_X5_plain_198 : decode b_X5_plain 198 = .ok (.invokevirtual 189, 3) := by decide +kernel
theorem d_X5_plain_201 : decode b_X5_plain 201 = .ok (.goto 58, 3) := by decide +kernel
theorem d_X5_plain_204 : decode b_X5_plain 204 = .ok (.aload_n 0, 1) := by decide +kernel
theorem d_X5_plain_205 : decode b_X5_plain 205 = .ok (.aload_n 0, 1) := by decide +kernel
theorem d_X5_plain_206 : decode b_X5_plain 206 = .ok (.getfield 17, 3) := by decide +kernel
theorem d_X5_plain_209 : decode b_X5_plain 209 = .ok (.aload_n 0, 1) := by decide +kernel
theorem d_X5_plain_210 : decode b_X5_plain 210 = .ok (.getfield 121, 3) := by decide +kernel
theorem d_X5_plain_213 : decode b_X5_plain 213 = .ok (.iload_n 3, 1) := by decide +kernel
theorem d_X5_plain_214 : decode b_X5_plain 214 = .ok (.iadd, 1) := by decide +kernel
theorem d_X5_plain_215 : decode b_X5_plain 215 = .ok (.invokestatic 127, 3) := by decide +kernel
theorem d_X5_plain_218 : decode b_X5_plain 218 = .ok (.invokevirtual 148, 3) := by decide +kernel
theorem d_X5_plain_221 : decode b_X5_plain 221 = .ok (.goto 38, 3) := by decide +kernel
theorem d_X5_plain_224 : decode b_X5_plain 224 = .ok (.aload_n 0, 1) := by decide +kernel
theorem d_X5_plain_225 : decode b_X5_plain 225 = .ok (.getfield 17, 3) := by decide +kernel
theorem d_X5_plain_228 : decode b_X5_plain 228 = .ok (.aload_n 0, 1) := by decide +kernel
theorem d_X5_plain_229 : decode b_X5_plain 229 = .ok (.getfield 121, 3) := by decide +kernel
theorem d_X5_plain_232 : decode b_X5_plain 232 = .ok (.iload_n 3, 1) := by decide +kernel
theorem d_X5_plain_233 : decode b_X5_plain 233 = .ok (.iadd, 1) := by decide +kernel
theorem d_X5_plain_234 : decode b_X5_plain 234 = .ok (.aload_n 0, 1) := by decide +kernel
theorem d_X5_plain_235 : decode b_X5_plain 235 = .ok (.invokevirtual 186, 3) := by decide +kernel
theorem d_X5_plain_238 : decode b_X5_plain 238 = .ok (.invokestatic 160, 3) := by decide +kernel
theorem d_X5_plain_241 : decode b_X5_plain 241 = .ok (.goto 18, 3) := by decide +kernel
theorem d_X5_plain_244 : decode b_X5_plain 244 = .ok (.aload_n 0, 1) := by decide +kernel
theorem d_X5_plain_245 : decode b_X5_plain 245 = .ok (.aload_n 0, 1) := by decide +kernel
theorem d_X5_plain_246 : decode b_X5_plain 246 = .ok (.getfield 17, 3) := by decide +kernel
theorem d_X5_plain_249 : decode b_X5_plain 249 = .ok (.aload_n 0, 1) := by decide +kernel
theorem d_X5_plain_250 : decode b_X5_plain 250 = .ok (.getfield 121, 3) := by decide +kernel
theorem d_X5_plain_253 : decode b_X5_plain 253 = .ok (.iload_n 3, 1) := by decide +kernel
theorem d_X5_plain_254 : decode b_X5_plain 254 = .ok (.iadd, 1) := by decide +kernel
theorem d_X5_plain_255 : decode b_X5_plain 255 = .ok (.iload_n 2, 1) := by decide +kernel
theorem d_X5_plain_256 : decode b_X5_plain 256 = .ok (.invokevirtual 189, 3) := by decide +kernel
theorem d_X5_plain_259 : decode b_X5_plain 259 = .ok (.return_, 1) := by decide +kernel
theorem d_X5_pop_0 : decode b_X5_pop 0 = .ok (.aload_n 0, 1) := by decide +kernel
theorem d_X5_pop_1 : decode b_X5_pop 1 = .ok (.dup, 1) := by decide +kernel
theorem d_X5_pop_2 : decode b_X5_pop 2 = .ok (.getfield 118, 3) := by decide +kernel
theorem d_X5_pop_5 : decode b_X5_pop 5 = .ok (.iconst 1, 1) := by decide +kernel
theorem d_X5_pop_6 : decode b_X5_pop 6 = .ok (.isub, 1) := by decide +kernel
theorem d_X5_pop_7 : decode b_X5_pop 7 = .ok (.putfield 118, 3) := by decide +kernel
theorem d_X5_pop_10 : decode b_X5_pop 10 = .ok (.aload_n 0, 1) := by decide +kernel
theorem d_X5_pop_11 : decode b_X5_pop 11 = .ok (.getfield 17, 3) := by decide +kernel
theorem d_X5_pop_14 : decode b_X5_pop 14 = .ok (.aload_n 0, 1) := by decide +kernel
theorem d_X5_pop_15 : decode b_X5_pop 15 = .ok (.getfield 118, 3) := by decide +kernel
theorem d_X5_pop_18 : decode b_X5_pop 18 = .ok (.invokestatic 127, 3) := by decide +kernel
theorem d_X5_pop_21 : decode b_X5_pop 21 = .ok (.ireturn, 1) := by decide +kernel
theorem d_X5_push_0 : decode b_X5_push 0 = .ok (.aload_n 0, 1) := by decide +kernel
theorem d_X5_push_1 : decode b_X5_push 1 = .ok (.getfield 17, 3) := by decide +kernel
theorem d_X5_push_4 : decode b_X5_push 4 = .ok (.aload_n 0, 1) := by decide +kernel
theorem d_X5_push_5 : decode b_X5_push 5 = .ok (.getfield 118, 3) := by decide +kernel
theorem d_X5_push_8 : decode b_X5_push 8 = .ok (.iload_n 1, 1) := by decide +kernel
theorem d_X5_push_9 : decode b_X5_push 9 = .ok (.invokestatic 160, 3) := by decide +kernel
theorem d_X5_push_12 : decode b_X5_push 12 = .ok (.aload_n 0, 1) := by decide +kernel
theorem d_X5_push_13 : decode b_X5_push 13 = .ok (.dup, 1) := by decide +kernel
theorem d_X5_push_14 : decode b_X5_push 14 = .ok (.getfield 118, 3) := by decide +kernel
theorem d_X5_push_17 : decode b_X5_push 17 = .ok (.iconst 1, 1) := by decide +kernel
theorem d_X5_push_18 : decode b_X5_push 18 = .ok (.iadd, 1) := by decide +kernel
theorem d_X5_push_19 : decode b_X5_push 19 = .ok (.putfield 118, 3) := by decide +kernel
theorem d_X5_push_22 : decode b_X5_push 22 = .ok (.return_, 1) := by decide +kernel
theorem d_X5_reach_0 : decode b_X5_reach 0 = .ok (.aload_n 0, 1) := by decide +kernel
theorem d_X5_reach_1 : decode b_X5_reach 1 = .ok (.getfield 65, 3) := by decide +kernel
theorem d_X5_reach_4 : decode b_X5_reach 4 = .ok (.iload_n 2, 1) := by decide +kernel
theorem d_X5_reach_5 : decode b_X5_reach 5 = .ok (.iconst 1, 1) := by decide +kernel
theorem d_X5_reach_6 : decode b_X5_reach 6 = .ok (.iadd, 1) := by decide +kernel
theorem d_X5_reach_7 : decode b_X5_reach 7 = .ok (.invokestatic 127, 3) := by decide +kernel
theorem d_X5_reach_10 : decode b_X5_reach 10 = .ok (.istore_n 3, 1) := by decide +kernel
theorem d_X5_reach_11 : decode b_X5_reach 11 = .ok (.iload_n 1, 1) := by decide +kernel
theorem d_X5_reach_12 : decode b_X5_reach 12 = .ok (.bipush 19, 2) := by decide +kernel
theorem d_X5_reach_14 : decode b_X5_reach 14 = .ok (.if_icmp .ne 10, 3) := by decide +kernel
theorem d_X5_reach_17 : decode b_X5_reach 17 = .ok (.aload_n 0, 1) := by decide +kernel
theorem d_X5_reach_18 : decode b_X5_reach 18 = .ok (.invokevirtual 140, 3) := by decide +kernel
theorem d_X5_reach_21 : decode b_X5_reach 21 = .ok (.goto 4, 3) := by decide +kernel
theorem d_X5_reach_24 : decode b_X5_reach 24 = .ok (.iconst 0, 1) := by decide +kernel
theorem d_X5_reach_25 : decode b_X5_reach 25 = .ok (.istore 4, 2) := by decide +kernel
theorem d_X5_reach_27 : decode b_X5_reach 27 = .ok (.aload_n 0, 1) := by decide +kernel
theorem d_X5_reach_28 : decode b_X5_reach 28 = .ok (.invokevirtual 140, 3) := by decide +kernel
theorem d_X5_reach_31 : decode b_X5_reach 31 = .ok (.istore 5, 2) := by decide +kernel
theorem d_X5_reach_33 : decode b_X5_reach 33 = .ok (.iload 5, 2) := by decide +kernel
theorem d_X5_reach_35 : decode b_X5_reach 35 = .ok (.invokestatic 192, 3) := by decide +kernel
theorem d_X5_reach_38 : decode b_X5_reach 38 = .ok (.ifCond .ne 12, 3) := by decide +kernel
theorem d_X5_reach_41 : decode b_X5_reach 41 = .ok (.aload_n 0, 1) := by decide +kernel
theorem d_X5_reach_42 : decode b_X5_reach 42 = .ok (.iconst 2, 1) := by decide +kernel
theorem d_X5_reach_43 : decode b_X5_reach 43 = .ok (.iload_n 3, 1) := by decide +kernel
theorem d_X5_reach_44 : decode b_X5_reach 44 = .ok (.invokevirtual 173, 3) := by decide +kernel
theorem d_X5_reach_47 : decode b_X5_reach 47 = .ok (.goto 90, 3) := by decide +kernel
theorem d_X5_reach_50 : decode b_X5_reach 50 = .ok (.iload_n 1, 1) := by decide +kernel
theorem d_X5_reach_51 : decode b_X5_reach 51 = .ok (.bipush 18, 2) := by decide +kernel
theorem d_X5_reach_53 : decode b_X5_reach 53 = .ok (.if_icmp .ne 19, 3) := by decide +kernel
theorem d_X5_reach_56 : decode b_X5_reach 56 = .ok (.aload_n 0, 1) := by decide +kernel
theorem d_X5_reach_57 : decode b_X5_reach 57 = .ok (.aload_n 0, 1) := by decide +kernel
theorem d_X5_reach_58 : decode b_X5_reach 58 = .ok (.getfield 12, 3) := by decide +kernel
theorem d_X5_reach_61 : decode b_X5_reach 61 = .ok (.iload 5, 2) := by decide +kernel
theorem d_X5_reach_63 : decode b_X5_reach 63 = .ok (.invokestatic 127, 3) := by decide +kernel
theorem d_X5_reach_66 : decode b_X5_reach 66 = .ok (.invokevirtual 148, 3) := by decide +kernel
theorem d_X5_reach_69 : decode b_X5_reach 69 = .ok (.goto 68, 3) := by decide +kernel
theorem d_X5_reach_72 : decode b_X5_reach 72 = .ok (.iload_n 1, 1) := by decide +kernel
theorem d_X5_reach_73 : decode b_X5_reach 73 = .ok (.bipush 19, 2) := by decide +kernel
theorem d_X5_reach_75 : decode b_X5_reach 75 = .ok (.if_icmp .ne 23, 3) := by decide +kernel
theorem d_X5_reach_78 : decode b_X5_reach 78 = .ok (.aload_n 0, 1) := by decide +kernel
theorem d_X5_reach_79 : decode b_X5_reach 79 = .ok (.getfield 12, 3) := by decide +kernel
theorem d_X5_reach_82 : decode b_X5_reach 82 = .ok (.iload 5, 2) := by decide +kernel
theorem d_X5_reach_84 : decode b_X5_reach 84 = .ok (.iload 4, 2) := by decide +kernel
theorem d_X5_reach_86 : decode b_X5_reach 86 = .ok (.invokestatic 160, 3) := by decide +kernel
theorem d_X5_reach_89 : decode b_X5_reach 89 = .ok (.aload_n 0, 1) := by decide +kernel
theorem d_X5_reach_90 : decode b_X5_reach 90 = .ok (.iload 4, 2) := by decide +kernel
theorem d_X5_reach_92 : decode b_X5_reach 92 = .ok (.invokevirtual 148, 3) := by decide +kernel
theorem d_X5_reach_95 : decode b_X5_reach 95 = .ok (.goto 42, 3) := by decide +kernel
theorem d_X5_reach_98 : decode b_X5_reach 98 = .ok (.iload_n 1, 1) := by decide +kernel
theorem d_X5_reach_99 : decode b_X5_reach 99 = .ok (.bipush 20, 2) := by decide +kernel
theorem d_X5_reach_101 : decode b_X5_reach 101 = .ok (.if_icmp .ne 17, 3) := by decide +kernel
theorem d_X5_reach_104 : decode b_X5_reach 104 = .ok (.aload_n 0, 1) := by decide +kernel
theorem d_X5_reach_105 : decode b_X5_reach 105 = .ok (.aload_n 0, 1) := by decide +kernel
theorem d_X5_reach_106 : decode b_X5_reach 106 = .ok (.getfield 12, 3) := by decide +kernel
theorem d_X5_reach_109 : decode b_X5_reach 109 = .ok (.iload 5, 2) := by decide +kernel
theorem d_X5_reach_111 : decode b_X5_reach 111 = .ok (.iload_n 2, 1) := by decide +kernel
theorem d_X5_reach_112 : decode b_X5_reach 112 = .ok (.invokevirtual 189, 3) := by decide +kernel
theorem d_X5_reach_115 : decode b_X5_reach 115 = .ok (.goto 22, 3) := by decide +kernel
theorem d_X5_reach_118 : decode b_X5_reach 118 = .ok (.aload_n 0, 1) := by decide +kernel
theorem d_X5_reach_119 : decode b_X5_reach 119 = .ok (.iload 5, 2) := by decide +kernel
theorem d_X5_reach_121 : decode b_X5_reach 121 = .ok (.invokevirtual 148, 3) := by decide +kernel
theorem d_X5_reach_124 : decode b_X5_reach 124 = .ok (.aload_n 0, 1) := by decide +kernel
theorem d_X5_reach_125 : decode b_X5_reach 125 = .ok (.aload_n 0, 1) := by decide +kernel
theorem d_X5_reach_126 : decode b_X5_reach 126 = .ok (.getfield 12, 3) := by decide +kernel
theorem d_X5_reach_129 : decode b_X5_reach 129 = .ok (.iload 5, 2) := by decide +kernel
theorem d_X5_reach_131 : decode b_X5_reach 131 = .ok (.invokestatic 127, 3) := by decide +kernel
theorem d_X5_reach_134 : decode b_X5_reach 134 = .ok (.invokevirtual 148, 3) := by decide +kernel
theorem d_X5_reach_137 : decode b_X5_reach 137 = .ok (.return_, 1) := by decide +kernel
theorem d_X5_step_0 : decode b_X5_step 0 = .ok (.aload_n 0, 1) := by decide +kernel
theorem d_X5_step_1 : decode b_X5_step 1 = .ok (.getfield 115, 3) := by decide +kernel
theorem d_X5_step_4 : decode b_X5_step 4 = .ok (.istore_n 1, 1) := by decide +kernel
theorem d_X5_step_5 : decode b_X5_step 5 = .ok (.aload_n 0, 1) := by decide +kernel
theorem d_X5_step_6 : decode b_X5_step 6 = .ok (.getfield 65, 3) := by decide +kernel
theorem d_X5_step_9 : decode b_X5_step 9 = .ok (.iload_n 1, 1) := by decide +kernel
theorem d_X5_step_10 : decode b_X5_step 10 = .ok (.invokestatic 127, 3) := by decide +kernel
theorem d_X5_step_13 : decode b_X5_step 13 = .ok (.istore_n 2, 1) := by decide +kernel
theorem d_X5_step_14 : decode b_X5_step 14 = .ok (.getstatic 131, 3) := by decide +kernel
theorem d_X5_step_17 : decode b_X5_step 17 = .ok (.iload_n 2, 1) := by decide +kernel
theorem d_X5_step_18 : decode b_X5_step 18 = .ok (.invokestatic 127, 3) := by decide +kernel
theorem d_X5_step_21 : decode b_X5_step 21 = .ok (.istore_n 3, 1) := by decide +kernel
theorem d_X5_step_22 : decode b_X5_step 22 = .ok (.iload_n 3, 1) := by decide +kernel
theorem d_X5_step_23 : decode b_X5_step 23 = .ok (.ifCond .eq 27, 3) := by decide +kernel
theorem d_X5_step_26 : decode b_X5_step 26 = .ok (.aload_n 0, 1) := by decide +kernel
theorem d_X5_step_27 : decode b_X5_step 27 = .ok (.getfield 118, 3) := by decide +kernel
theorem d_X5_step_30 : decode b_X5_step 30 = .ok (.bipush 8, 2) := by decide +kernel
theorem d_X5_step_32 : decode b_X5_step 32 = .ok (.if_icmp .lt 18, 3) := by decide +kernel
theorem d_X5_step_35 : decode b_X5_step 35 = .ok (.aload_n 0, 1) := by decide +kernel
theorem d_X5_step_36 : decode b_X5_step 36 = .ok (.getfield 118, 3) := by decide +kernel
theorem d_X5_step_39 : decode b_X5_step 39 = .ok (.aload_n 0, 1) := by decide +kernel
theorem d_X5_step_40 : decode b_X5_step 40 = .ok (.getfield 17, 3) := by decide +kernel
theorem d_X5_step_43 : decode b_X5_step 43 = .ok (.arraylength, 1) := by decide +kernel
theorem d_X5_step_44 : decode b_X5_step 44 = .ok (.bipush 8, 2) := by decide +kernel
theorem d_X5_step_46 : decode b_X5_step 46 = .ok (.isub, 1) := by decide +kernel
theorem d_X5_step_47 : decode b_X5_step 47 = .ok (.if_icmp .lt 8, 3) := by decide +kernel
theorem d_X5_step_50 : decode b_X5_step 50 = .ok (.aload_n 0, 1) := by decide +kernel
theorem d_X5_step_51 : decode b_X5_step 51 = .ok (.invokevirtual 93, 3) := by decide +kernel
theorem d_X5_step_54 : decode b_X5_step 54 = .ok (.return_, 1) := by decide +kernel
theorem d_X5_step_55 : decode b_X5_step 55 = .ok (.aload_n 0, 1) := by decide +kernel
theorem d_X5_step_56 : decode b_X5_step 56 = .ok (.iload_n 1, 1) := by decide +kernel
theorem d_X5_step_57 : decode b_X5_step 57 = .ok (.iload_n 3, 1) := by decide +kernel
theorem d_X5_step_58 : decode b_X5_step 58 = .ok (.iadd, 1) := by decide +kernel
theorem d_X5_step_59 : decode b_X5_step 59 = .ok (.putfield 115, 3) := by decide +kernel
theorem d_X5_step_62 : decode b_X5_step 62 = .ok (.iload_n 2, 1) := by decide +kernel
theorem d_X5_step_63 : decode b_X5_step 63 = .ok (.bipush 41, 2) := by decide +kernel
theorem d_X5_step_65 : decode b_X5_step 65 = .ok (.if_icmp .lt 12, 3) := by decide +kernel
theorem d_X5_step_68 : decode b_X5_step 68 = .ok (.aload_n 0, 1) := by decide +kernel
theorem d_X5_step_69 : decode b_X5_step 69 = .ok (.iload_n 2, 1) := by decide +kernel
theorem d_X5_step_70 : decode b_X5_step 70 = .ok (.iload_n 1, 1) := by decide +kernel
theorem d_X5_step_71 : decode b_X5_step 71 = .ok (.invokevirtual 134, 3) := by decide +kernel
theorem d_X5_step_74 : decode b_X5_step 74 = .ok (.goto 75, 3) := by decide +kernel
theorem d_X5_step_77 : decode b_X5_step 77 = .ok (.iload_n 2, 1) := by decide +kernel
theorem d_X5_step_78 : decode b_X5_step 78 = .ok (.bipush 26, 2) := by decide +kernel
theorem d_X5_step_80 : decode b_X5_step 80 = .ok (.if_icmp .lt 12, 3) := by decide +kernel
theorem d_X5_step_83 : decode b_X5_step 83 = .ok (.aload_n 0, 1) := by decide +kernel
theorem d_X5_step_84 : decode b_X5_step 84 = .ok (.iload_n 2, 1) := by decide +kernel
theorem d_X5_step_85 : decode b_X5_step 85 = .ok (.iload_n 1, 1) := by decide +kernel
theorem d_X5_step_86 : decode b_X5_step 86 = .ok (.invokevirtual 137, 3) := by decide +kernel
theorem d_X5_step_89 : decode b_X5_step 89 = .ok (.goto 60, 3) := by decide +kernel
theorem d_X5_step_92 : decode b_X5_step 92 = .ok (.iload_n 2, 1) := by decide +kernel
theorem d_X5_step_93 : decode b_X5_step 93 = .ok (.bipush 22, 2) := by decide +kernel
theorem d_X5_step_95 : decode b_X5_step 95 = .ok (.if_icmp .lt 18, 3) := by decide +kernel
theorem d_X5_step_98 : decode b_X5_step 98 = .ok (.aload_n 0, 1) := by decide +kernel
theorem d_X5_step_99 : decode b_X5_step 99 = .ok (.iload_n 2, 1) := by decide +kernel
theorem d_X5_step_100 : decode b_X5_step 100 = .ok (.aload_n 0, 1) := by decide +kernel
theorem d_X5_step_101 : decode b_X5_step 101 = .ok (.invokevirtual 140, 3) := by decide +kernel
theorem d_X5_step_104 : decode b_X5_step 104 = .ok (.invokestatic 144, 3) := by decide +kernel
theorem d_X5_step_107 : decode b_X5_step 107 = .ok (.invokevirtual 148, 3) := by decide +kernel
theorem d_X5_step_110 : decode b_X5_step 110 = .ok (.goto 39, 3) := by decide +kernel
theorem d_X5_step_113 : decode b_X5_step 113 = .ok (.iload_n 2, 1) := by decide +kernel
theorem d_X5_step_114 : decode b_X5_step 114 = .ok (.bipush 18, 2) := by decide +kernel
theorem d_X5_step_116 : decode b_X5_step 116 = .ok (.if_icmp .lt 12, 3) := by decide +kernel
theorem d_X5_step_119 : decode b_X5_step 119 = .ok (.aload_n 0, 1) := by decide +kernel
theorem d_X5_step_120 : decode b_X5_step 120 = .ok (.iload_n 2, 1) := by decide +kernel
theorem d_X5_step_121 : decode b_X5_step 121 = .ok (.iload_n 1, 1) := by decide +kernel
theorem d_X5_step_122 : decode b_X5_step 122 = .ok (.invokevirtual 151, 3) := by decide +kernel
theorem d_X5_step_125 : decode b_X5_step 125 = .ok (.goto 24, 3) := by decide +kernel
theorem d_X5_step_128 : decode b_X5_step 128 = .ok (.iload_n 2, 1) := by decide +kernel
theorem d_X5_step_129 : decode b_X5_step 129 = .ok (.bipush 11, 2) := by decide +kernel
theorem d_X5_step_131 : decode b_X5_step 131 = .ok (.if_icmp .lt 12, 3) := by decide +kernel
theorem d_X5_step_134 : decode b_X5_step 134 = .ok (.aload_n 0, 1) := by decide +kernel
theorem d_X5_step_135 : decode b_X5_step 135 = .ok (.iload_n 2, 1) := by decide +kernel
theorem d_X5_step_136 : decode b_X5_step 136 = .ok (.iload_n 1, 1) := by decide +kernel
theorem d_X5_step_137 : decode b_X5_step 137 = .ok (.invokevirtual 154, 3) := by decide +kernel
theorem d_X5_step_140 : decode b_X5_step 140 = .ok (.goto 9, 3) := by decide +kernel
theorem d_X5_step_143 : decode b_X5_step 143 = .ok (.aload_n 0, 1) := by decide +kernel
theorem d_X5_step_144 : decode b_X5_step 144 = .ok (.iload_n 2, 1) := by decide +kernel
theorem d_X5_step_145 : decode b_X5_step 145 = .ok (.iload_n 1, 1) := by decide +kernel
theorem d_X5_step_146 : decode b_X5_step 146 = .ok (.invokevirtual 157, 3) := by decide +kernel
theorem d_X5_step_149 : decode b_X5_step 149 = .ok (.return_, 1) := by decide +kernel
theorem d_X5_stepped_0 : decode b_X5_stepped 0 = .ok (.aload_n 1, 1) := by decide +kernel
theorem d_X5_stepped_1 : decode b_X5_stepped 1 = .ok (.iload_n 2, 1) := by decide +kernel
theorem d_X5_stepped_2 : decode b_X5_stepped 2 = .ok (.invokestatic 127, 3) := by decide +kernel
theorem d_X5_stepped_5 : decode b_X5_stepped 5 = .ok (.aload_n 0, 1) := by decide +kernel
theorem d_X5_stepped_6 : decode b_X5_stepped 6 = .ok (.getfield 65, 3) := by decide +kernel
theorem d_X5_stepped_9 : decode b_X5_stepped 9 = .ok (.iload_n 3, 1) := by decide +kernel
theorem d_X5_stepped_10 : decode b_X5_stepped 10 = .ok (.iconst 2, 1) := by decide +kernel
theorem d_X5_stepped_11 : decode b_X5_stepped 11 = .ok (.iadd, 1) := by decide +kernel
theorem d_X5_stepped_12 : decode b_X5_stepped 12 = .ok (.invokestatic 127, 3) := by decide +kernel
theorem d_X5_stepped_15 : decode b_X5_stepped 15 = .ok (.iadd, 1) := by decide +kernel
theorem d_X5_stepped_16 : decode b_X5_stepped 16 = .ok (.istore 4, 2) := by decide +kernel
theorem d_X5_stepped_18 : decode b_X5_stepped 18 = .ok (.aload_n 1, 1) := by decide +kernel
theorem d_X5_stepped_19 : decode b_X5_stepped 19 = .ok (.iload_n 2, 1) := by decide +kernel
theorem d_X5_stepped_20 : decode b_X5_stepped 20 = .ok (.iload 4, 2) := by decide +kernel
theorem d_X5_stepped_22 : decode b_X5_stepped 22 = .ok (.invokestatic 160, 3) := by decide +kernel
theorem d_X5_stepped_25 : decode b_X5_stepped 25 = .ok (.aload_n 0, 1) := by decide +kernel
theorem d_X5_stepped_26 : decode b_X5_stepped 26 = .ok (.iload 4, 2) := by decide +kernel
theorem d_X5_stepped_28 : decode b_X5_stepped 28 = .ok (.aload_n 0, 1) := by decide +kernel
theorem d_X5_stepped_29 : decode b_X5_stepped 29 = .ok (.getfield 65, 3) := by decide +kernel
theorem d_X5_stepped_32 : decode b_X5_stepped 32 = .ok (.iload_n 3, 1) := by decide +kernel
theorem d_X5_stepped_33 : decode b_X5_stepped 33 = .ok (.iconst 3, 1) := by decide +kernel
theorem d_X5_stepped_34 : decode b_X5_stepped 34 = .ok (.iadd, 1) := by decide +kernel
theorem d_X5_stepped_35 : decode b_X5_stepped 35 = .ok (.invokestatic 127, 3) := by decide +kernel
theorem d_X5_stepped_38 : decode b_X5_stepped 38 = .ok (.isub, 1) := by decide +kernel
theorem d_X5_stepped_39 : decode b_X5_stepped 39 = .ok (.invokevirtual 148, 3) := by decide +kernel
theorem d_X5_stepped_42 : decode b_X5_stepped 42 = .ok (.return_, 1) := by decide +kernel
theorem d_X5_stray_0 : decode b_X5_stray 0 = .ok (.aload_n 0, 1) := by decide +kernel
theorem d_X5_stray_1 : decode b_X5_stray 1 = .ok (.dup, 1) := by decide +kernel
theorem d_X5_stray_2 : decode b_X5_stray 2 = .ok (.getfield 36, 3) := by decide +kernel
theorem d_X5_stray_5 : decode b_X5_stray 5 = .ok (.iconst 1, 1) := by decide +kernel
theorem d_X5_stray_6 : decode b_X5_stray 6 = .ok (.iadd, 1) := by decide +kernel
theorem d_X5_stray_7 : decode b_X5_stray 7 = .ok (.putfield 36, 3) := by decide +kernel
theorem d_X5_stray_10 : decode b_X5_stray 10 = .ok (.aload_n 0, 1) := by decide +kernel
theorem d_X5_stray_11 : decode b_X5_stray 11 = .ok (.iconst 0, 1) := by decide +kernel
theorem d_X5_stray_12 : decode b_X5_stray 12 = .ok (.putfield 87, 3) := by decide +kernel
theorem d_X5_stray_15 : decode b_X5_stray 15 = .ok (.return_, 1) := by decide +kernel
theorem d_X5_turn_0 : decode b_X5_turn 0 = .ok (.aload_n 0, 1) := by decide +kernel
theorem d_X5_turn_1 : decode b_X5_turn 1 = .ok (.getfield 23, 3) := by decide +kernel
theorem d_X5_turn_4 : decode b_X5_turn 4 = .ok (.aload_n 0, 1) := by decide +kernel
theorem d_X5_turn_5 : decode b_X5_turn 5 = .ok (.getfield 79, 3) := by decide +kernel
theorem d_X5_turn_8 : decode b_X5_turn 8 = .ok (.if_icmp .lt 11, 3) := by decide +kernel
theorem d_X5_turn_11 : decode b_X5_turn 11 = .ok (.aload_n 0, 1) := by decide +kernel
theorem d_X5_turn_12 : decode b_X5_turn 12 = .ok (.iconst 4, 1) := by decide +kernel
theorem d_X5_turn_13 : decode b_X5_turn 13 = .ok (.iload_n 1, 1) := by decide +kernel
theorem d_X5_turn_14 : decode b_X5_turn 14 = .ok (.invokevirtual 173, 3) := by decide +kernel
theorem d_X5_turn_17 : decode b_X5_turn 17 = .ok (.iconst 0, 1) := by decide +kernel
theorem d_X5_turn_18 : decode b_X5_turn 18 = .ok (.ireturn, 1) := by decide +kernel
theorem d_X5_turn_19 : decode b_X5_turn 19 = .ok (.aload_n 0, 1) := by decide +kernel
theorem d_X5_turn_20 : decode b_X5_turn 20 = .ok (.dup, 1) := by decide +kernel
theorem d_X5_turn_21 : decode b_X5_turn 21 = .ok (.getfield 23, 3) := by decide +kernel
theorem d_X5_turn_24 : decode b_X5_turn 24 = .ok (.iconst 1, 1) := by decide +kernel
theorem d_X5_turn_25 : decode b_X5_turn 25 = .ok (.iadd, 1) := by decide +kernel
theorem d_X5_turn_26 : decode b_X5_turn 26 = .ok (.putfield 23, 3) := by decide +kernel
theorem d_X5_turn_29 : decode b_X5_turn 29 = .ok (.iconst 1, 1) := by decide +kernel
theorem d_X5_turn_30 : decode b_X5_turn 30 = .ok (.ireturn, 1) := by decide +kernel
theorem d_X5_useLibrary_0 : decode b_X5_useLibrary 0 = .ok (.iload_n 1, 1) := by decide +kernel
theorem d_X5_useLibrary_1 : decode b_X5_useLibrary 1 = .ok (.ifCond .ne 7, 3) := by decide +kernel
theorem d_X5_useLibrary_4 : decode b_X5_useLibrary 4 = .ok (.iconst 0, 1) := by decide +kernel
theorem d_X5_useLibrary_5 : decode b_X5_useLibrary 5 = .ok (.goto 7, 3) := by decide +kernel
theorem d_X5_useLibrary_8 : decode b_X5_useLibrary 8 = .ok (.aload_n 0, 1) := by decide +kernel
theorem d_X5_useLibrary_9 : decode b_X5_useLibrary 9 = .ok (.invokevirtual 140, 3) := by decide +kernel
theorem d_X5_useLibrary_12 : decode b_X5_useLibrary 12 = .ok (.istore_n 3, 1) := by decide +kernel
theorem d_X5_useLibrary_13 : decode b_X5_useLibrary 13 = .ok (.aload_n 0, 1) := by decide +kernel
theorem d_X5_useLibrary_14 : decode b_X5_useLibrary 14 = .ok (.iload_n 1, 1) := by decide +kernel
theorem d_X5_useLibrary_15 : decode b_X5_useLibrary 15 = .ok (.ifCond .ne 13, 3) := by decide +kernel
theorem d_X5_useLibrary_18 : decode b_X5_useLibrary 18 = .ok (.aload_n 0, 1) := by decide +kernel
theorem d_X5_useLibrary_19 : decode b_X5_useLibrary 19 = .ok (.getfield 50, 3) := by decide +kernel
theorem d_X5_useLibrary_22 : decode b_X5_useLibrary 22 = .ok (.invokevirtual 212, 3) := by decide +kernel
theorem d_X5_useLibrary_25 : decode b_X5_useLibrary 25 = .ok (.goto 4, 3) := by decide +kernel
theorem d_X5_useLibrary_28 : decode b_X5_useLibrary 28 = .ok (.iconst 0, 1) := by decide +kernel
theorem d_X5_useLibrary_29 : decode b_X5_useLibrary 29 = .ok (.invokevirtual 148, 3) := by decide +kernel
theorem d_X5_useLibrary_32 : decode b_X5_useLibrary 32 = .ok (.iload_n 1, 1) := by decide +kernel
theorem d_X5_useLibrary_33 : decode b_X5_useLibrary 33 = .ok (.iconst 1, 1) := by decide +kernel
theorem d_X5_useLibrary_34 : decode b_X5_useLibrary 34 = .ok (.if_icmp .ne 14, 3) := by decide +kernel
theorem d_X5_useLibrary_37 : decode b_X5_useLibrary 37 = .ok (.aload_n 0, 1) := by decide +kernel
theorem d_X5_useLibrary_38 : decode b_X5_useLibrary 38 = .ok (.getfield 50, 3) := by decide +kernel
theorem d_X5_useLibrary_41 : decode b_X5_useLibrary 41 = .ok (.iload_n 3, 1) := by decide +kernel
theorem d_X5_useLibrary_42 : decode b_X5_useLibrary 42 = .ok (.invokevirtual 214, 3) := by decide +kernel
theorem d_X5_useLibrary_45 : decode b_X5_useLibrary 45 = .ok (.ifCond .eq 19, 3) := by decide +kernel
theorem d_X5_useLibrary_48 : decode b_X5_useLibrary 48 = .ok (.iload_n 1, 1) := by decide +kernel
theorem d_X5_useLibrary_49 : decode b_X5_useLibrary 49 = .ok (.iconst 2, 1) := by decide +kernel
theorem d_X5_useLibrary_50 : decode b_X5_useLibrary 50 = .ok (.if_icmp .ne 24, 3) := by decide +kernel
theorem d_X5_useLibrary_53 : decode b_X5_useLibrary 53 = .ok (.aload_n 0, 1) := by decide +kernel
theorem d_X5_useLibrary_54 : decode b_X5_useLibrary 54 = .ok (.getfield 50, 3) := by decide +kernel
theorem d_X5_useLibrary_57 : decode b_X5_useLibrary 57 = .ok (.iload_n 3, 1) := by decide +kernel
theorem d_X5_useLibrary_58 : decode b_X5_useLibrary 58 = .ok (.invokevirtual 217, 3) := by decide +kernel
theorem d_X5_useLibrary_61 : decode b_X5_useLibrary 61 = .ok (.ifCond .ne 13, 3) := by decide +kernel
theorem d_X5_useLibrary_64 : decode b_X5_useLibrary 64 = .ok (.aload_n 0, 1) := by decide +kernel
theorem d_X5_useLibrary_65 : decode b_X5_useLibrary 65 = .ok (.bipush 6, 2) := by decide +kernel
theorem d_X5_useLibrary_67 : decode b_X5_useLibrary 67 = .ok (.iload_n 2, 1) := by decide +kernel
theorem d_X5_useLibrary_68 : decode b_X5_useLibrary 68 = .ok (.invokevirtual 173, 3) := by decide +kernel
theorem d_X5_useLibrary_71 : decode b_X5_useLibrary 71 = .ok (.goto 18, 3) := by decide +kernel
theorem d_X5_useLibrary_74 : decode b_X5_useLibrary 74 = .ok (.iload_n 1, 1) := by decide +kernel
theorem d_X5_useLibrary_75 : decode b_X5_useLibrary 75 = .ok (.iconst 3, 1) := by decide +kernel
theorem d_X5_useLibrary_76 : decode b_X5_useLibrary 76 = .ok (.if_icmp .ne 13, 3) := by decide +kernel
theorem d_X5_useLibrary_79 : decode b_X5_useLibrary 79 = .ok (.aload_n 0, 1) := by decide +kernel
theorem d_X5_useLibrary_80 : decode b_X5_useLibrary 80 = .ok (.iload_n 3, 1) := by decide +kernel
theorem d_X5_useLibrary_81 : decode b_X5_useLibrary 81 = .ok (.putfield 27, 3) := by decide +kernel
theorem d_X5_useLibrary_84 : decode b_X5_useLibrary 84 = .ok (.aload_n 0, 1) := by decide +kernel
theorem d_X5_useLibrary_85 : decode b_X5_useLibrary 85 = .ok (.iconst 5, 1) := by decide +kernel
theorem d_X5_useLibrary_86 : decode b_X5_useLibrary 86 = .ok (.putfield 87, 3) := by decide +kernel
theorem d_X5_useLibrary_89 : decode b_X5_useLibrary 89 = .ok (.return_, 1) := by decide +kernel
theorem d_X5_worked_0 : decode b_X5_worked 0 = .ok (.iload_n 0, 1) := by decide +kernel
theorem d_X5_worked_1 : decode b_X5_worked 1 = .ok (.tableswitch 117 41 50 #[55, 62, 69, 73, 77, 81, 93, 105, 109, 113], 55) := by decide +kernel
theorem d_X5_worked_56 : decode b_X5_worked 56 = .ok (.iload_n 1, 1) := by decide +kernel
theorem d_X5_worked_57 : decode b_X5_worked 57 = .ok (.iload_n 2, 1) := by decide +kernel
theorem d_X5_worked_58 : decode b_X5_worked 58 = .ok (.bipush 31, 2) := by decide +kernel
theorem d_X5_worked_60 : decode b_X5_worked 60 = .ok (.iand, 1) := by decide +kernel
theorem d_X5_worked_61 : decode b_X5_worked 61 = .ok (.ishl, 1) := by decide +kernel
theorem d_X5_worked_62 : decode b_X5_worked 62 = .ok (.ireturn, 1) := by decide +kernel
theorem d_X5_worked_63 : decode b_X5_worked 63 = .ok (.iload_n 1, 1) := by decide +kernel
theorem d_X5_worked_64 : decode b_X5_worked 64 = .ok (.iload_n 2, 1) := by decide +kernel
theorem d_X5_worked_65 : decode b_X5_worked 65 = .ok (.bipush 31, 2) := by decide +kernel
theorem d_X5_worked_67 : decode b_X5_worked 67 = .ok (.iand, 1) := by decide +kernel
theorem d_X5_worked_68 : decode b_X5_worked 68 = .ok (.ishr, 1) := by decide +kernel
theorem d_X5_worked_69 : decode b_X5_worked 69 = .ok (.ireturn, 1) := by decide +kernel
theorem d_X5_worked_70 : decode b_X5_worked 70 = .ok (.iload_n 1, 1) := by decide +kernel
theorem d_X5_worked_71 : decode b_X5_worked 71 = .ok (.iload_n 2, 1) := by decide +kernel
theorem d_X5_worked_72 : decode b_X5_worked 72 = .ok (.iadd, 1) := by decide +kernel
theorem d_X5_worked_73 : decode b_X5_worked 73 = .ok (.ireturn, 1) := by decide +kernel
theorem d_X5_worked_74 : decode b_X5_worked 74 = .ok (.iload_n 1, 1) := by decide +kernel
theorem d_X5_worked_75 : decode b_X5_worked 75 = .ok (.iload_n 2, 1) := by decide +kernel
theorem d_X5_worked_76 : decode b_X5_worked 76 = .ok (.isub, 1) := by decide +kernel
theorem d_X5_worked_77 : decode b_X5_worked 77 = .ok (.ireturn, 1) := by decide +kernel
theorem d_X5_worked_78 : decode b_X5_worked 78 = .ok (.iload_n 1, 1) := by decide +kernel
theorem d_X5_worked_79 : decode b_X5_worked 79 = .ok (.iload_n 2, 1) := by decide +kernel
theorem d_X5_worked_80 : decode b_X5_worked 80 = .ok (.imul, 1) := by decide +kernel
theorem d_X5_worked_81 : decode b_X5_worked 81 = .ok (.ireturn, 1) := by decide +kernel
theorem d_X5_worked_82 : decode b_X5_worked 82 = .ok (.iload_n 2, 1) := by decide +kernel
theorem d_X5_worked_83 : decode b_X5_worked 83 = .ok (.ifCond .ne 7, 3) := by decide +kernel
theorem d_X5_worked_86 : decode b_X5_worked 86 = .ok (.iconst 0, 1) := by decide +kernel
theorem d_X5_worked_87 : decode b_X5_worked 87 = .ok (.goto 6, 3) := by decide +kernel
theorem d_X5_worked_90 : decode b_X5_worked 90 = .ok (.iload_n 1, 1) := by decide +kernel
theorem d_X5_worked_91 : decode b_X5_worked 91 = .ok (.iload_n 2, 1) := by decide +kernel
theorem d_X5_worked_92 : decode b_X5_worked 92 = .ok (.idiv, 1) := by decide +kernel
theorem d_X5_worked_93 : decode b_X5_worked 93 = .ok (.ireturn, 1) := by decide +kernel
theorem d_X5_worked_94 : decode b_X5_worked 94 = .ok (.iload_n 2, 1) := by decide +kernel
theorem d_X5_worked_95 : decode b_X5_worked 95 = .ok (.ifCond .ne 7, 3) := by decide +kernel
theorem d_X5_worked_98 : decode b_X5_worked 98 = .ok (.iconst 0, 1) := by decide +kernel
theorem d_X5_worked_99 : decode b_X5_worked 99 = .ok (.goto 6, 3) := by decide +kernel
theorem d_X5_worked_102 : decode b_X5_worked 102 = .ok (.iload_n 1, 1) := by decide +kernel
theorem d_X5_worked_103 : decode b_X5_worked 103 = .ok (.iload_n 2, 1) := by decide +kernel
theorem d_X5_worked_104 : decode b_X5_worked 104 = .ok (.irem, 1) := by decide +kernel
theorem d_X5_worked_105 : decode b_X5_worked 105 = .ok (.ireturn, 1) := by decide +kernel
theorem d_X5_worked_106 : decode b_X5_worked 106 = .ok (.iload_n 1, 1) := by decide +kernel
theorem d_X5_worked_107 : decode b_X5_worked 107 = .ok (.iload_n 2, 1) := by decide +kernel
theorem d_X5_worked_108 : decode b_X5_worked 108 = .ok (.iand, 1) := by decide +kernel
theorem d_X5_worked_109 : decode b_X5_worked 109 = .ok (.ireturn, 1) := by decide +kernel
theorem d_X5_worked_110 : decode b_X5_worked 110 = .ok (.iload_n 1, 1) := by decide +kernel
theorem d_X5_worked_111 : decode b_X5_worked 111 = .ok (.iload_n 2, 1) := by decide +kernel
theorem d_X5_worked_112 : decode b_X5_worked 112 = .ok (.ior, 1) := by decide +kernel
theorem d_X5_worked_113 : decode b_X5_worked 113 = .ok (.ireturn, 1) := by decide +kernel
theorem d_X5_worked_114 : decode b_X5_worked 114 = .ok (.iload_n 1, 1) := by decide +kernel
theorem d_X5_worked_115 : decode b_X5_worked 115 = .ok (.iload_n 2, 1) := by decide +kernel
theorem d_X5_worked_116 : decode b_X5_worked 116 = .ok (.ixor, 1) := by decide +kernel
theorem d_X5_worked_117 : decode b_X5_worked 117 = .ok (.ireturn, 1) := by decide +kernel
theorem d_X5_worked_118 : decode b_X5_worked 118 = .ok (.iload_n 0, 1) := by decide +kernel
theorem d_X5_worked_119 : decode b_X5_worked 119 = .ok (.iload_n 1, 1) := by decide +kernel
theorem d_X5_worked_120 : decode b_X5_worked 120 = .ok (.iload_n 2, 1) := by decide +kernel
theorem d_X5_worked_121 : decode b_X5_worked 121 = .ok (.invokestatic 164, 3) := by decide +kernel
theorem d_X5_worked_124 : decode b_X5_worked 124 = .ok (.ifCond .eq 7, 3) := by decide +kernel
theorem d_X5_worked_127 : decode b_X5_worked 127 = .ok (.iconst 1, 1) := by decide +kernel
theorem d_X5_worked_128 : decode b_X5_worked 128 = .ok (.goto 4, 3) := by decide +kernel
theorem d_X5_worked_131 : decode b_X5_worked 131 = .ok (.iconst 0, 1) := by decide +kernel
theorem d_X5_worked_132 : decode b_X5_worked 132 = .ok (.ireturn, 1) := by decide +kernel
theorem d_X6_init_0 : decode b_X6_init 0 = .ok (.aload_n 0, 1) := by decide +kernel
theorem d_X6_init_1 : decode b_X6_init 1 = .ok (.invokespecial 3, 3) := by decide +kernel
theorem d_X6_init_4 : decode b_X6_init 4 = .ok (.return_, 1) := by decide +kernel
theorem d_X6_become_0 : decode b_X6_become 0 = .ok (.aload_n 0, 1) := by decide +kernel
theorem d_X6_become_1 : decode b_X6_become 1 = .ok (.iconst 0, 1) := by decide +kernel
theorem d_X6_become_2 : decode b_X6_become 2 = .ok (.putfield 11, 3) := by decide +kernel
theorem d_X6_become_5 : decode b_X6_become 5 = .ok (.aload_n 0, 1) := by decide +kernel
theorem d_X6_become_6 : decode b_X6_become 6 = .ok (.iload_n 1, 1) := by decide +kernel
theorem d_X6_become_7 : decode b_X6_become 7 = .ok (.putfield 15, 3) := by decide +kernel
theorem d_X6_become_10 : decode b_X6_become 10 = .ok (.aload_n 0, 1) := by decide +kernel
theorem d_X6_become_11 : decode b_X6_become 11 = .ok (.iload_n 2, 1) := by decide +kernel
theorem d_X6_become_12 : decode b_X6_become 12 = .ok (.putfield 31, 3) := by decide +kernel
theorem d_X6_become_15 : decode b_X6_become 15 = .ok (.aload_n 0, 1) := by decide +kernel
theorem d_X6_become_16 : decode b_X6_become 16 = .ok (.iconst 0, 1) := by decide +kernel
theorem d_X6_become_17 : decode b_X6_become 17 = .ok (.putfield 21, 3) := by decide +kernel
theorem d_X6_become_20 : decode b_X6_become 20 = .ok (.return_, 1) := by decide +kernel
theorem d_X6_fits_0 : decode b_X6_fits 0 = .ok (.aload_n 0, 1) := by decide +kernel
theorem d_X6_fits_1 : decode b_X6_fits 1 = .ok (.getfield 15, 3) := by decide +kernel
theorem d_X6_fits_4 : decode b_X6_fits 4 = .ok (.iload_n 1, 1) := by decide +kernel
theorem d_X6_fits_5 : decode b_X6_fits 5 = .ok (.if_icmp .ne 8, 3) := by decide +kernel
theorem d_X6_fits_8 : decode b_X6_fits 8 = .ok (.iload_n 1, 1) := by decide +kernel
theorem d_X6_fits_9 : decode b_X6_fits 9 = .ok (.iconst (-1), 1) := by decide +kernel
theorem d_X6_fits_10 : decode b_X6_fits 10 = .ok (.if_icmp .ne 14, 3) := by decide +kernel
theorem d_X6_fits_13 : decode b_X6_fits 13 = .ok (.iload_n 1, 1) := by decide +kernel
theorem d_X6_fits_14 : decode b_X6_fits 14 = .ok (.ifCond .le 14, 3) := by decide +kernel
theorem d_X6_fits_17 : decode b_X6_fits 17 = .ok (.aload_n 0, 1) := by decide +kernel
theorem d_X6_fits_18 : decode b_X6_fits 18 = .ok (.getfield 21, 3) := by decide +kernel
theorem d_X6_fits_21 : decode b_X6_fits 21 = .ok (.ifCond .eq 7, 3) := by decide +kernel
theorem d_X6_fits_24 : decode b_X6_fits 24 = .ok (.iconst 1, 1) := by decide +kernel
theorem d_X6_fits_25 : decode b_X6_fits 25 = .ok (.goto 4, 3) := by decide +kernel
theorem d_X6_fits_28 : decode b_X6_fits 28 = .ok (.iconst 0, 1) := by decide +kernel
theorem d_X6_fits_29 : decode b_X6_fits 29 = .ok (.ireturn, 1) := by decide +kernel
theorem d_X6_isConstant_0 : decode b_X6_isConstant 0 = .ok (.aload_n 0, 1) := by decide +kernel
theorem d_X6_isConstant_1 : decode b_X6_isConstant 1 = .ok (.getfield 31, 3) := by decide +kernel
theorem d_X6_isConstant_4 : decode b_X6_isConstant 4 = .ok (.iconst 1, 1) := by decide +kernel
theorem d_X6_isConstant_5 : decode b_X6_isConstant 5 = .ok (.if_icmp .ne 7, 3) := by decide +kernel
theorem d_X6_isConstant_8 : decode b_X6_isConstant 8 = .ok (.iconst 1, 1) := by decide +kernel
theorem d_X6_isConstant_9 : decode b_X6_isConstant 9 = .ok (.goto 4, 3) := by decide +kernel
theorem d_X6_isConstant_12 : decode b_X6_isConstant 12 = .ok (.iconst 0, 1) := by decide +kernel
theorem d_X6_isConstant_13 : decode b_X6_isConstant 13 = .ok (.ireturn, 1) := by decide +kernel
theorem d_X6_isInitial_0 : decode b_X6_isInitial 0 = .ok (.aload_n 0, 1) := by decide +kernel
theorem d_X6_isInitial_1 : decode b_X6_isInitial 1 = .ok (.getfield 31, 3) := by decide +kernel
theorem d_X6_isInitial_4 : decode b_X6_isInitial 4 = .ok (.ifCond .eq 7, 3) := by decide +kernel
theorem d_X6_isInitial_7 : decode b_X6_isInitial 7 = .ok (.iconst 1, 1) := by decide +kernel
theorem d_X6_isInitial_8 : decode b_X6_isInitial 8 = .ok (.goto 4, 3) := by decide +kernel
theorem d_X6_isInitial_11 : decode b_X6_isInitial 11 = .ok (.iconst 0, 1) := by decide +kernel
theorem d_X6_isInitial_12 : decode b_X6_isInitial 12 = .ok (.ireturn, 1) := by decide +kernel
theorem d_X6_isPlace_0 : decode b_X6_isPlace 0 = .ok (.aload_n 0, 1) := by decide +kernel
theorem d_X6_isPlace_1 : decode b_X6_isPlace 1 = .ok (.getfield 11, 3) := by decide +kernel
theorem d_X6_isPlace_4 : decode b_X6_isPlace 4 = .ok (.iconst 1, 1) := by decide +kernel
theorem d_X6_isPlace_5 : decode b_X6_isPlace 5 = .ok (.if_icmp .eq 19, 3) := by decide +kernel
theorem d_X6_isPlace_8 : decode b_X6_isPlace 8 = .ok (.aload_n 0, 1) := by decide +kernel
theorem d_X6_isPlace_9 : decode b_X6_isPlace 9 = .ok (.getfield 11, 3) := by decide +kernel
theorem d_X6_isPlace_12 : decode b_X6_isPlace 12 = .ok (.iconst 2, 1) := by decide +kernel
theorem d_X6_isPlace_13 : decode b_X6_isPlace 13 = .ok (.if_icmp .eq 11, 3) := by decide +kernel
theorem d_X6_isPlace_16 : decode b_X6_isPlace 16 = .ok (.aload_n 0, 1) := by decide +kernel
theorem d_X6_isPlace_17 : decode b_X6_isPlace 17 = .ok (.getfield 11, 3) := by decide +kernel
theorem d_X6_isPlace_20 : decode b_X6_isPlace 20 = .ok (.iconst 3, 1) := by decide +kernel
theorem d_X6_isPlace_21 : decode b_X6_isPlace 21 = .ok (.if_icmp .ne 7, 3) := by decide +kernel
theorem d_X6_isPlace_24 : decode b_X6_isPlace 24 = .ok (.iconst 1, 1) := by decide +kernel
theorem d_X6_isPlace_25 : decode b_X6_isPlace 25 = .ok (.goto 4, 3) := by decide +kernel
theorem d_X6_isPlace_28 : decode b_X6_isPlace 28 = .ok (.iconst 0, 1) := by decide +kernel
theorem d_X6_isPlace_29 : decode b_X6_isPlace 29 = .ok (.ireturn, 1) := by decide +kernel
theorem d_X6_reset_0 : decode b_X6_reset 0 = .ok (.aload_n 0, 1) := by decide +kernel
theorem d_X6_reset_1 : decode b_X6_reset 1 = .ok (.iconst 0, 1) := by decide +kernel
theorem d_X6_reset_2 : decode b_X6_reset 2 = .ok (.putfield 11, 3) := by decide +kernel
theorem d_X6_reset_5 : decode b_X6_reset 5 = .ok (.aload_n 0, 1) := by decide +kernel
theorem d_X6_reset_6 : decode b_X6_reset 6 = .ok (.iconst 0, 1) := by decide +kernel
theorem d_X6_reset_7 : decode b_X6_reset 7 = .ok (.putfield 15, 3) := by decide +kernel
theorem d_X6_reset_10 : decode b_X6_reset 10 = .ok (.aload_n 0, 1) := by decide +kernel
theorem d_X6_reset_11 : decode b_X6_reset 11 = .ok (.iconst 1, 1) := by decide +kernel
theorem d_X6_reset_12 : decode b_X6_reset 12 = .ok (.putfield 18, 3) := by decide +kernel
theorem d_X6_reset_15 : decode b_X6_reset 15 = .ok (.aload_n 0, 1) := by decide +kernel
theorem d_X6_reset_16 : decode b_X6_reset 16 = .ok (.iconst 0, 1) := by decide +kernel
theorem d_X6_reset_17 : decode b_X6_reset 17 = .ok (.putfield 21, 3) := by decide +kernel
theorem d_X6_reset_20 : decode b_X6_reset 20 = .ok (.aload_n 0, 1) := by decide +kernel
theorem d_X6_reset_21 : decode b_X6_reset 21 = .ok (.iconst (-1), 1) := by decide +kernel
theorem d_X6_reset_22 : decode b_X6_reset 22 = .ok (.putfield 25, 3) := by decide +kernel
theorem d_X6_reset_25 : decode b_X6_reset 25 = .ok (.aload_n 0, 1) := by decide +kernel
theorem d_X6_reset_26 : decode b_X6_reset 26 = .ok (.iconst 0, 1) := by decide +kernel
theorem d_X6_reset_27 : decode b_X6_reset 27 = .ok (.putfield 28, 3) := by decide +kernel
theorem d_X6_reset_30 : decode b_X6_reset 30 = .ok (.aload_n 0, 1) := by decide +kernel
theorem d_X6_reset_31 : decode b_X6_reset 31 = .ok (.iconst 0, 1) := by decide +kernel
theorem d_X6_reset_32 : decode b_X6_reset 32 = .ok (.putfield 31, 3) := by decide +kernel
theorem d_X6_reset_35 : decode b_X6_reset 35 = .ok (.aload_n 0, 1) := by decide +kernel
theorem d_X6_reset_36 : decode b_X6_reset 36 = .ok (.bipush (-2), 2) := by decide +kernel
theorem d_X6_reset_38 : decode b_X6_reset 38 = .ok (.putfield 36, 3) := by decide +kernel
theorem d_X6_reset_41 : decode b_X6_reset 41 = .ok (.aload_n 0, 1) := by decide +kernel
theorem d_X6_reset_42 : decode b_X6_reset 42 = .ok (.iconst 0, 1) := by decide +kernel
theorem d_X6_reset_43 : decode b_X6_reset 43 = .ok (.putfield 39, 3) := by decide +kernel
theorem d_X6_reset_46 : decode b_X6_reset 46 = .ok (.aload_n 0, 1) := by decide +kernel
theorem d_X6_reset_47 : decode b_X6_reset 47 = .ok (.iload_n 1, 1) := by decide +kernel
theorem d_X6_reset_48 : decode b_X6_reset 48 = .ok (.putfield 42, 3) := by decide +kernel
theorem d_X6_reset_51 : decode b_X6_reset 51 = .ok (.aload_n 0, 1) := by decide +kernel
theorem d_X6_reset_52 : decode b_X6_reset 52 = .ok (.iconst (-1), 1) := by decide +kernel
theorem d_X6_reset_53 : decode b_X6_reset 53 = .ok (.putfield 45, 3) := by decide +kernel
theorem d_X6_reset_56 : decode b_X6_reset 56 = .ok (.aload_n 0, 1) := by decide +kernel
theorem d_X6_reset_57 : decode b_X6_reset 57 = .ok (.iconst 0, 1) := by decide +kernel
theorem d_X6_reset_58 : decode b_X6_reset 58 = .ok (.putfield 48, 3) := by decide +kernel
theorem d_X6_reset_61 : decode b_X6_reset 61 = .ok (.aload_n 0, 1) := by decide +kernel
theorem d_X6_reset_62 : decode b_X6_reset 62 = .ok (.iconst 0, 1) := by decide +kernel
theorem d_X6_reset_63 : decode b_X6_reset 63 = .ok (.putfield 51, 3) := by decide +kernel
theorem d_X6_reset_66 : decode b_X6_reset 66 = .ok (.return_, 1) := by decide +kernel
theorem d_X7_init_0 : decode b_X7_init 0 = .ok (.aload_n 0, 1) := by decide +kernel
theorem d_X7_init_1 : decode b_X7_init 1 = .ok (.invokespecial 3, 3) := by decide +kernel
theorem d_X7_init_4 : decode b_X7_init 4 = .ok (.aload_n 0, 1) := by decide +kernel
theorem d_X7_init_5 : decode b_X7_init 5 = .ok (.bipush 26, 2) := by decide +kernel
theorem d_X7_init_7 : decode b_X7_init 7 = .ok (.newarray .int, 2) := by decide +kernel
theorem d_X7_init_9 : decode b_X7_init 9 = .ok (.putfield 11, 3) := by decide +kernel
theorem d_X7_init_12 : decode b_X7_init 12 = .ok (.aload_n 0, 1) := by decide +kernel
theorem d_X7_init_13 : decode b_X7_init 13 = .ok (.bipush 26, 2) := by decide +kernel
theorem d_X7_init_15 : decode b_X7_init 15 = .ok (.newarray .int, 2) := by decide +kernel
theorem d_X7_init_17 : decode b_X7_init 17 = .ok (.putfield 15, 3) := by decide +kernel
theorem d_X7_init_20 : decode b_X7_init 20 = .ok (.aload_n 0, 1) := by decide +kernel
theorem d_X7_init_21 : decode b_X7_init 21 = .ok (.bipush 26, 2) := by decide +kernel
theorem d_X7_init_23 : decode b_X7_init 23 = .ok (.newarray .int, 2) := by decide +kernel
theorem d_X7_init_25 : decode b_X7_init 25 = .ok (.putfield 18, 3) := by decide +kernel
theorem d_X7_init_28 : decode b_X7_init 28 = .ok (.aload_n 0, 1) := by decide +kernel
theorem d_X7_init_29 : decode b_X7_init 29 = .ok (.bipush 26, 2) := by decide +kernel
theorem d_X7_init_31 : decode b_X7_init 31 = .ok (.newarray .int, 2) := by decide +kernel
theorem d_X7_init_33 : decode b_X7_init 33 = .ok (.putfield 21, 3) := by decide +kernel
theorem d_X7_init_36 : decode b_X7_init 36 = .ok (.aload_n 0, 1) := by decide +kernel
theorem d_X7_init_37 : decode b_X7_init 37 = .ok (.bipush 26, 2) := by decide +kernel
theorem d_X7_init_39 : decode b_X7_init 39 = .ok (.newarray .int, 2) := by decide +kernel
theorem d_X7_init_41 : decode b_X7_init 41 = .ok (.putfield 24, 3) := by decide +kernel
theorem d_X7_init_44 : decode b_X7_init 44 = .ok (.aload_n 0, 1) := by decide +kernel
theorem d_X7_init_45 : decode b_X7_init 45 = .ok (.bipush 26, 2) := by decide +kernel
theorem d_X7_init_47 : decode b_X7_init 47 = .ok (.newarray .int, 2) := by decide +kernel
theorem d_X7_init_49 : decode b_X7_init 49 = .ok (.putfield 27, 3) := by decide +kernel
theorem d_X7_init_52 : decode b_X7_init 52 = .ok (.aload_n 0, 1) := by decide +kernel
theorem d_X7_init_53 : decode b_X7_init 53 = .ok (.aload_n 1, 1) := by decide +kernel
