theorem d_X2_choice_106 : decode b_X2_choice 106 = .ok (.invokevirtual 199, 3) := by decide +kernel
theorem d_X2_choice_109 : decode b_X2_choice 109 = .ok (.aload_n 0, 1) := by decide +kernel
theorem d_X2_choice_110 : decode b_X2_choice 110 = .ok (.aload 4, 2) := by decide +kernel
theorem d_X2_choice_112 : decode b_X2_choice 112 = .ok (.iconst 1, 1) := by decide +kernel
theorem d_X2_choice_113 : decode b_X2_choice 113 = .ok (.iload 5, 2) := by decide +kernel
theorem d_X2_choice_115 : decode b_X2_choice 115 = .ok (.iadd, 1) := by decide +kernel
theorem d_X2_choice_116 : decode b_X2_choice 116 = .ok (.iload_n 1, 1) := by decide +kernel
theorem d_X2_choice_117 : decode b_X2_choice 117 = .ok (.invokevirtual 281, 3) := by decide +kernel
theorem d_X2_choice_120 : decode b_X2_choice 120 = .ok (.return_, 1) := by decide +kernel
theorem d_X2_colon_0 : decode b_X2_colon 0 = .ok (.aload_n 0, 1) := by decide +kernel
theorem d_X2_colon_1 : decode b_X2_colon 1 = .ok (.aload_n 0, 1) := by decide +kernel
theorem d_X2_colon_2 : decode b_X2_colon 2 = .ok (.invokevirtual 104, 3) := by decide +kernel
theorem d_X2_colon_5 : decode b_X2_colon 5 = .ok (.invokevirtual 112, 3) := by decide +kernel
theorem d_X2_colon_8 : decode b_X2_colon 8 = .ok (.pop, 1) := by decide +kernel
theorem d_X2_colon_9 : decode b_X2_colon 9 = .ok (.aload_n 0, 1) := by decide +kernel
theorem d_X2_colon_10 : decode b_X2_colon 10 = .ok (.getfield 22, 3) := by decide +kernel
theorem d_X2_colon_13 : decode b_X2_colon 13 = .ok (.iconst 1, 1) := by decide +kernel
theorem d_X2_colon_14 : decode b_X2_colon 14 = .ok (.if_icmp .le 29, 3) := by decide +kernel
theorem d_X2_colon_17 : decode b_X2_colon 17 = .ok (.aload_n 0, 1) := by decide +kernel
theorem d_X2_colon_18 : decode b_X2_colon 18 = .ok (.getfield 22, 3) := by decide +kernel
theorem d_X2_colon_21 : decode b_X2_colon 21 = .ok (.aload_n 0, 1) := by decide +kernel
theorem d_X2_colon_22 : decode b_X2_colon 22 = .ok (.getfield 13, 3) := by decide +kernel
theorem d_X2_colon_25 : decode b_X2_colon 25 = .ok (.arraylength, 1) := by decide +kernel
theorem d_X2_colon_26 : decode b_X2_colon 26 = .ok (.if_icmp .gt 17, 3) := by decide +kernel
theorem d_X2_colon_29 : decode b_X2_colon 29 = .ok (.aload_n 0, 1) := by decide +kernel
theorem d_X2_colon_30 : decode b_X2_colon 30 = .ok (.getfield 13, 3) := by decide +kernel
theorem d_X2_colon_33 : decode b_X2_colon 33 = .ok (.aload_n 0, 1) := by decide +kernel
theorem d_X2_colon_34 : decode b_X2_colon 34 = .ok (.getfield 22, 3) := by decide +kernel
theorem d_X2_colon_37 : decode b_X2_colon 37 = .ok (.iconst 2, 1) := by decide +kernel
theorem d_X2_colon_38 : decode b_X2_colon 38 = .ok (.isub, 1) := by decide +kernel
theorem d_X2_colon_39 : decode b_X2_colon 39 = .ok (.aaload, 1) := by decide +kernel
theorem d_X2_colon_40 : decode b_X2_colon 40 = .ok (.goto 7, 3) := by decide +kernel
theorem d_X2_colon_43 : decode b_X2_colon 43 = .ok (.aload_n 0, 1) := by decide +kernel
theorem d_X2_colon_44 : decode b_X2_colon 44 = .ok (.getfield 18, 3) := by decide +kernel
theorem d_X2_colon_47 : decode b_X2_colon 47 = .ok (.astore_n 1, 1) := by decide +kernel
theorem d_X2_colon_48 : decode b_X2_colon 48 = .ok (.aload_n 0, 1) := by decide +kernel
theorem d_X2_colon_49 : decode b_X2_colon 49 = .ok (.getfield 46, 3) := by decide +kernel
theorem d_X2_colon_52 : decode b_X2_colon 52 = .ok (.bipush 26, 2) := by decide +kernel
theorem d_X2_colon_54 : decode b_X2_colon 54 = .ok (.iconst (-1), 1) := by decide +kernel
theorem d_X2_colon_55 : decode b_X2_colon 55 = .ok (.iconst 0, 1) := by decide +kernel
theorem d_X2_colon_56 : decode b_X2_colon 56 = .ok (.iconst 0, 1) := by decide +kernel
theorem d_X2_colon_57 : decode b_X2_colon 57 = .ok (.invokevirtual 155, 3) := by decide +kernel
theorem d_X2_colon_60 : decode b_X2_colon 60 = .ok (.istore_n 2, 1) := by decide +kernel
theorem d_X2_colon_61 : decode b_X2_colon 61 = .ok (.aload_n 0, 1) := by decide +kernel
theorem d_X2_colon_62 : decode b_X2_colon 62 = .ok (.getfield 46, 3) := by decide +kernel
theorem d_X2_colon_65 : decode b_X2_colon 65 = .ok (.aload_n 1, 1) := by decide +kernel
theorem d_X2_colon_66 : decode b_X2_colon 66 = .ok (.getfield 120, 3) := by decide +kernel
theorem d_X2_colon_69 : decode b_X2_colon 69 = .ok (.aload_n 0, 1) := by decide +kernel
theorem d_X2_colon_70 : decode b_X2_colon 70 = .ok (.getfield 46, 3) := by decide +kernel
theorem d_X2_colon_73 : decode b_X2_colon 73 = .ok (.getfield 137, 3) := by decide +kernel
theorem d_X2_colon_76 : decode b_X2_colon 76 = .ok (.invokevirtual 296, 3) := by decide +kernel
theorem d_X2_colon_79 : decode b_X2_colon 79 = .ok (.aload_n 1, 1) := by decide +kernel
theorem d_X2_colon_80 : decode b_X2_colon 80 = .ok (.iload_n 2, 1) := by decide +kernel
theorem d_X2_colon_81 : decode b_X2_colon 81 = .ok (.putfield 120, 3) := by decide +kernel
theorem d_X2_colon_84 : decode b_X2_colon 84 = .ok (.return_, 1) := by decide +kernel
theorem d_X2_combine_0 : decode b_X2_combine 0 = .ok (.iload_n 0, 1) := by decide +kernel
theorem d_X2_combine_1 : decode b_X2_combine 1 = .ok (.bipush 46, 2) := by decide +kernel
theorem d_X2_combine_3 : decode b_X2_combine 3 = .ok (.if_icmp .eq 9, 3) := by decide +kernel
theorem d_X2_combine_6 : decode b_X2_combine 6 = .ok (.iload_n 0, 1) := by decide +kernel
theorem d_X2_combine_7 : decode b_X2_combine 7 = .ok (.bipush 47, 2) := by decide +kernel
theorem d_X2_combine_9 : decode b_X2_combine 9 = .ok (.if_icmp .ne 14, 3) := by decide +kernel
theorem d_X2_combine_12 : decode b_X2_combine 12 = .ok (.aload_n 2, 1) := by decide +kernel
theorem d_X2_combine_13 : decode b_X2_combine 13 = .ok (.getfield 176, 3) := by decide +kernel
theorem d_X2_combine_16 : decode b_X2_combine 16 = .ok (.ifCond .ne 7, 3) := by decide +kernel
theorem d_X2_combine_19 : decode b_X2_combine 19 = .ok (.iconst 1, 1) := by decide +kernel
theorem d_X2_combine_20 : decode b_X2_combine 20 = .ok (.goto 4, 3) := by decide +kernel
theorem d_X2_combine_23 : decode b_X2_combine 23 = .ok (.iconst 0, 1) := by decide +kernel
theorem d_X2_combine_24 : decode b_X2_combine 24 = .ok (.istore_n 3, 1) := by decide +kernel
theorem d_X2_combine_25 : decode b_X2_combine 25 = .ok (.iload_n 0, 1) := by decide +kernel
theorem d_X2_combine_26 : decode b_X2_combine 26 = .ok (.bipush 43, 2) := by decide +kernel
theorem d_X2_combine_28 : decode b_X2_combine 28 = .ok (.if_icmp .eq 9, 3) := by decide +kernel
theorem d_X2_combine_31 : decode b_X2_combine 31 = .ok (.iload_n 0, 1) := by decide +kernel
theorem d_X2_combine_32 : decode b_X2_combine 32 = .ok (.bipush 44, 2) := by decide +kernel
theorem d_X2_combine_34 : decode b_X2_combine 34 = .ok (.if_icmp .ne 7, 3) := by decide +kernel
theorem d_X2_combine_37 : decode b_X2_combine 37 = .ok (.iconst 1, 1) := by decide +kernel
theorem d_X2_combine_38 : decode b_X2_combine 38 = .ok (.goto 4, 3) := by decide +kernel
theorem d_X2_combine_41 : decode b_X2_combine 41 = .ok (.iconst 0, 1) := by decide +kernel
theorem d_X2_combine_42 : decode b_X2_combine 42 = .ok (.istore 4, 2) := by decide +kernel
theorem d_X2_combine_44 : decode b_X2_combine 44 = .ok (.aload_n 1, 1) := by decide +kernel
theorem d_X2_combine_45 : decode b_X2_combine 45 = .ok (.invokevirtual 310, 3) := by decide +kernel
theorem d_X2_combine_48 : decode b_X2_combine 48 = .ok (.ifCond .eq 39, 3) := by decide +kernel
theorem d_X2_combine_51 : decode b_X2_combine 51 = .ok (.aload_n 2, 1) := by decide +kernel
theorem d_X2_combine_52 : decode b_X2_combine 52 = .ok (.invokevirtual 310, 3) := by decide +kernel
theorem d_X2_combine_55 : decode b_X2_combine 55 = .ok (.ifCond .eq 32, 3) := by decide +kernel
theorem d_X2_combine_58 : decode b_X2_combine 58 = .ok (.iload_n 0, 1) := by decide +kernel
theorem d_X2_combine_59 : decode b_X2_combine 59 = .ok (.bipush 57, 2) := by decide +kernel
theorem d_X2_combine_61 : decode b_X2_combine 61 = .ok (.if_icmp .ge 26, 3) := by decide +kernel
theorem d_X2_combine_64 : decode b_X2_combine 64 = .ok (.iload_n 3, 1) := by decide +kernel
theorem d_X2_combine_65 : decode b_X2_combine 65 = .ok (.ifCond .ne 22, 3) := by decide +kernel
theorem d_X2_combine_68 : decode b_X2_combine 68 = .ok (.aload_n 1, 1) := by decide +kernel
theorem d_X2_combine_69 : decode b_X2_combine 69 = .ok (.iload_n 0, 1) := by decide +kernel
theorem d_X2_combine_70 : decode b_X2_combine 70 = .ok (.aload_n 1, 1) := by decide +kernel
theorem d_X2_combine_71 : decode b_X2_combine 71 = .ok (.getfield 176, 3) := by decide +kernel
theorem d_X2_combine_74 : decode b_X2_combine 74 = .ok (.aload_n 2, 1) := by decide +kernel
theorem d_X2_combine_75 : decode b_X2_combine 75 = .ok (.getfield 176, 3) := by decide +kernel
theorem d_X2_combine_78 : decode b_X2_combine 78 = .ok (.invokestatic 313, 3) := by decide +kernel
theorem d_X2_combine_81 : decode b_X2_combine 81 = .ok (.putfield 176, 3) := by decide +kernel
theorem d_X2_combine_84 : decode b_X2_combine 84 = .ok (.goto 97, 3) := by decide +kernel
theorem d_X2_combine_87 : decode b_X2_combine 87 = .ok (.iload 4, 2) := by decide +kernel
theorem d_X2_combine_89 : decode b_X2_combine 89 = .ok (.ifCond .eq 37, 3) := by decide +kernel
theorem d_X2_combine_92 : decode b_X2_combine 92 = .ok (.aload_n 1, 1) := by decide +kernel
theorem d_X2_combine_93 : decode b_X2_combine 93 = .ok (.getfield 170, 3) := by decide +kernel
theorem d_X2_combine_96 : decode b_X2_combine 96 = .ok (.iconst 2, 1) := by decide +kernel
theorem d_X2_combine_97 : decode b_X2_combine 97 = .ok (.if_icmp .ne 29, 3) := by decide +kernel
theorem d_X2_combine_100 : decode b_X2_combine 100 = .ok (.aload_n 2, 1) := by decide +kernel
theorem d_X2_combine_101 : decode b_X2_combine 101 = .ok (.invokevirtual 310, 3) := by decide +kernel
theorem d_X2_combine_104 : decode b_X2_combine 104 = .ok (.ifCond .eq 22, 3) := by decide +kernel
theorem d_X2_combine_107 : decode b_X2_combine 107 = .ok (.aload_n 1, 1) := by decide +kernel
theorem d_X2_combine_108 : decode b_X2_combine 108 = .ok (.iload_n 0, 1) := by decide +kernel
theorem d_X2_combine_109 : decode b_X2_combine 109 = .ok (.aload_n 1, 1) := by decide +kernel
theorem d_X2_combine_110 : decode b_X2_combine 110 = .ok (.getfield 176, 3) := by decide +kernel
theorem d_X2_combine_113 : decode b_X2_combine 113 = .ok (.aload_n 2, 1) := by decide +kernel
theorem d_X2_combine_114 : decode b_X2_combine 114 = .ok (.getfield 176, 3) := by decide +kernel
theorem d_X2_combine_117 : decode b_X2_combine 117 = .ok (.invokestatic 313, 3) := by decide +kernel
theorem d_X2_combine_120 : decode b_X2_combine 120 = .ok (.putfield 176, 3) := by decide +kernel
theorem d_X2_combine_123 : decode b_X2_combine 123 = .ok (.goto 58, 3) := by decide +kernel
theorem d_X2_combine_126 : decode b_X2_combine 126 = .ok (.iload_n 0, 1) := by decide +kernel
theorem d_X2_combine_127 : decode b_X2_combine 127 = .ok (.bipush 43, 2) := by decide +kernel
theorem d_X2_combine_129 : decode b_X2_combine 129 = .ok (.if_icmp .ne 47, 3) := by decide +kernel
theorem d_X2_combine_132 : decode b_X2_combine 132 = .ok (.aload_n 1, 1) := by decide +kernel
theorem d_X2_combine_133 : decode b_X2_combine 133 = .ok (.invokevirtual 310, 3) := by decide +kernel
theorem d_X2_combine_136 : decode b_X2_combine 136 = .ok (.ifCond .eq 40, 3) := by decide +kernel
theorem d_X2_combine_139 : decode b_X2_combine 139 = .ok (.aload_n 2, 1) := by decide +kernel
theorem d_X2_combine_140 : decode b_X2_combine 140 = .ok (.getfield 170, 3) := by decide +kernel
theorem d_X2_combine_143 : decode b_X2_combine 143 = .ok (.iconst 2, 1) := by decide +kernel
theorem d_X2_combine_144 : decode b_X2_combine 144 = .ok (.if_icmp .ne 32, 3) := by decide +kernel
theorem d_X2_combine_147 : decode b_X2_combine 147 = .ok (.aload_n 1, 1) := by decide +kernel
theorem d_X2_combine_148 : decode b_X2_combine 148 = .ok (.iconst 2, 1) := by decide +kernel
theorem d_X2_combine_149 : decode b_X2_combine 149 = .ok (.putfield 170, 3) := by decide +kernel
theorem d_X2_combine_152 : decode b_X2_combine 152 = .ok (.aload_n 1, 1) := by decide +kernel
theorem d_X2_combine_153 : decode b_X2_combine 153 = .ok (.aload_n 2, 1) := by decide +kernel
theorem d_X2_combine_154 : decode b_X2_combine 154 = .ok (.getfield 202, 3) := by decide +kernel
theorem d_X2_combine_157 : decode b_X2_combine 157 = .ok (.putfield 202, 3) := by decide +kernel
theorem d_X2_combine_160 : decode b_X2_combine 160 = .ok (.aload_n 1, 1) := by decide +kernel
theorem d_X2_combine_161 : decode b_X2_combine 161 = .ok (.dup, 1) := by decide +kernel
theorem d_X2_combine_162 : decode b_X2_combine 162 = .ok (.getfield 176, 3) := by decide +kernel
theorem d_X2_combine_165 : decode b_X2_combine 165 = .ok (.aload_n 2, 1) := by decide +kernel
theorem d_X2_combine_166 : decode b_X2_combine 166 = .ok (.getfield 176, 3) := by decide +kernel
theorem d_X2_combine_169 : decode b_X2_combine 169 = .ok (.iadd, 1) := by decide +kernel
theorem d_X2_combine_170 : decode b_X2_combine 170 = .ok (.putfield 176, 3) := by decide +kernel
theorem d_X2_combine_173 : decode b_X2_combine 173 = .ok (.goto 8, 3) := by decide +kernel
theorem d_X2_combine_176 : decode b_X2_combine 176 = .ok (.aload_n 1, 1) := by decide +kernel
theorem d_X2_combine_177 : decode b_X2_combine 177 = .ok (.iconst 0, 1) := by decide +kernel
theorem d_X2_combine_178 : decode b_X2_combine 178 = .ok (.putfield 170, 3) := by decide +kernel
theorem d_X2_combine_181 : decode b_X2_combine 181 = .ok (.return_, 1) := by decide +kernel
theorem d_X2_fetch_0 : decode b_X2_fetch 0 = .ok (.aload_n 1, 1) := by decide +kernel
theorem d_X2_fetch_1 : decode b_X2_fetch 1 = .ok (.getfield 149, 3) := by decide +kernel
theorem d_X2_fetch_4 : decode b_X2_fetch 4 = .ok (.iconst 3, 1) := by decide +kernel
theorem d_X2_fetch_5 : decode b_X2_fetch 5 = .ok (.if_icmp .ne 19, 3) := by decide +kernel
theorem d_X2_fetch_8 : decode b_X2_fetch 8 = .ok (.aload_n 0, 1) := by decide +kernel
theorem d_X2_fetch_9 : decode b_X2_fetch 9 = .ok (.getfield 46, 3) := by decide +kernel
theorem d_X2_fetch_12 : decode b_X2_fetch 12 = .ok (.bipush 21, 2) := by decide +kernel
theorem d_X2_fetch_14 : decode b_X2_fetch 14 = .ok (.iload_n 2, 1) := by decide +kernel
theorem d_X2_fetch_15 : decode b_X2_fetch 15 = .ok (.iconst 0, 1) := by decide +kernel
theorem d_X2_fetch_16 : decode b_X2_fetch 16 = .ok (.iconst 0, 1) := by decide +kernel
theorem d_X2_fetch_17 : decode b_X2_fetch 17 = .ok (.invokevirtual 155, 3) := by decide +kernel
theorem d_X2_fetch_20 : decode b_X2_fetch 20 = .ok (.pop, 1) := by decide +kernel
theorem d_X2_fetch_21 : decode b_X2_fetch 21 = .ok (.goto 38, 3) := by decide +kernel
theorem d_X2_fetch_24 : decode b_X2_fetch 24 = .ok (.aload_n 1, 1) := by decide +kernel
theorem d_X2_fetch_25 : decode b_X2_fetch 25 = .ok (.invokevirtual 145, 3) := by decide +kernel
theorem d_X2_fetch_28 : decode b_X2_fetch 28 = .ok (.ifCond .eq 31, 3) := by decide +kernel
theorem d_X2_fetch_31 : decode b_X2_fetch 31 = .ok (.aload_n 0, 1) := by decide +kernel
theorem d_X2_fetch_32 : decode b_X2_fetch 32 = .ok (.getfield 46, 3) := by decide +kernel
theorem d_X2_fetch_35 : decode b_X2_fetch 35 = .ok (.aload_n 1, 1) := by decide +kernel
theorem d_X2_fetch_36 : decode b_X2_fetch 36 = .ok (.getfield 149, 3) := by decide +kernel
theorem d_X2_fetch_39 : decode b_X2_fetch 39 = .ok (.iconst 1, 1) := by decide +kernel
theorem d_X2_fetch_40 : decode b_X2_fetch 40 = .ok (.if_icmp .ne 8, 3) := by decide +kernel
theorem d_X2_fetch_43 : decode b_X2_fetch 43 = .ok (.bipush 8, 2) := by decide +kernel
theorem d_X2_fetch_45 : decode b_X2_fetch 45 = .ok (.goto 4, 3) := by decide +kernel
theorem d_X2_fetch_48 : decode b_X2_fetch 48 = .ok (.iconst 5, 1) := by decide +kernel
theorem d_X2_fetch_49 : decode b_X2_fetch 49 = .ok (.aload_n 1, 1) := by decide +kernel
theorem d_X2_fetch_50 : decode b_X2_fetch 50 = .ok (.getfield 159, 3) := by decide +kernel
theorem d_X2_fetch_53 : decode b_X2_fetch 53 = .ok (.iconst 0, 1) := by decide +kernel
theorem d_X2_fetch_54 : decode b_X2_fetch 54 = .ok (.iconst 0, 1) := by decide +kernel
theorem d_X2_fetch_55 : decode b_X2_fetch 55 = .ok (.invokevirtual 155, 3) := by decide +kernel
theorem d_X2_fetch_58 : decode b_X2_fetch 58 = .ok (.pop, 1) := by decide +kernel
theorem d_X2_fetch_59 : decode b_X2_fetch 59 = .ok (.return_, 1) := by decide +kernel
theorem d_X2_fold_0 : decode b_X2_fold 0 = .ok (.aload_n 0, 1) := by decide +kernel
theorem d_X2_fold_1 : decode b_X2_fold 1 = .ok (.getfield 37, 3) := by decide +kernel
theorem d_X2_fold_4 : decode b_X2_fold 4 = .ok (.getfield 319, 3) := by decide +kernel
theorem d_X2_fold_7 : decode b_X2_fold 7 = .ok (.ifCond .le 36, 3) := by decide +kernel
theorem d_X2_fold_10 : decode b_X2_fold 10 = .ok (.aload_n 1, 1) := by decide +kernel
theorem d_X2_fold_11 : decode b_X2_fold 11 = .ok (.invokevirtual 310, 3) := by decide +kernel
theorem d_X2_fold_14 : decode b_X2_fold 14 = .ok (.ifCond .eq 29, 3) := by decide +kernel
theorem d_X2_fold_17 : decode b_X2_fold 17 = .ok (.aload_n 0, 1) := by decide +kernel
theorem d_X2_fold_18 : decode b_X2_fold 18 = .ok (.getfield 46, 3) := by decide +kernel
theorem d_X2_fold_21 : decode b_X2_fold 21 = .ok (.aload_n 1, 1) := by decide +kernel
theorem d_X2_fold_22 : decode b_X2_fold 22 = .ok (.getfield 322, 3) := by decide +kernel
theorem d_X2_fold_25 : decode b_X2_fold 25 = .ok (.invokevirtual 325, 3) := by decide +kernel
theorem d_X2_fold_28 : decode b_X2_fold 28 = .ok (.aload_n 0, 1) := by decide +kernel
theorem d_X2_fold_29 : decode b_X2_fold 29 = .ok (.getfield 46, 3) := by decide +kernel
theorem d_X2_fold_32 : decode b_X2_fold 32 = .ok (.iconst 1, 1) := by decide +kernel
theorem d_X2_fold_33 : decode b_X2_fold 33 = .ok (.aload_n 1, 1) := by decide +kernel
theorem d_X2_fold_34 : decode b_X2_fold 34 = .ok (.getfield 176, 3) := by decide +kernel
theorem d_X2_fold_37 : decode b_X2_fold 37 = .ok (.iconst 0, 1) := by decide +kernel
theorem d_X2_fold_38 : decode b_X2_fold 38 = .ok (.iconst 0, 1) := by decide +kernel
theorem d_X2_fold_39 : decode b_X2_fold 39 = .ok (.invokevirtual 155, 3) := by decide +kernel
theorem d_X2_fold_42 : decode b_X2_fold 42 = .ok (.pop, 1) := by decide +kernel
theorem d_X2_fold_43 : decode b_X2_fold 43 = .ok (.return_, 1) := by decide +kernel
theorem d_X2_index_0 : decode b_X2_index 0 = .ok (.aload_n 0, 1) := by decide +kernel
theorem d_X2_index_1 : decode b_X2_index 1 = .ok (.invokevirtual 259, 3) := by decide +kernel
theorem d_X2_index_4 : decode b_X2_index 4 = .ok (.astore_n 2, 1) := by decide +kernel
theorem d_X2_index_5 : decode b_X2_index 5 = .ok (.aload_n 0, 1) := by decide +kernel
theorem d_X2_index_6 : decode b_X2_index 6 = .ok (.invokevirtual 104, 3) := by decide +kernel
theorem d_X2_index_9 : decode b_X2_index 9 = .ok (.astore_n 3, 1) := by decide +kernel
theorem d_X2_index_10 : decode b_X2_index 10 = .ok (.aload_n 2, 1) := by decide +kernel
theorem d_X2_index_11 : decode b_X2_index 11 = .ok (.getfield 233, 3) := by decide +kernel
theorem d_X2_index_14 : decode b_X2_index 14 = .ok (.ifCond .eq 8, 3) := by decide +kernel
theorem d_X2_index_17 : decode b_X2_index 17 = .ok (.aload_n 0, 1) := by decide +kernel
theorem d_X2_index_18 : decode b_X2_index 18 = .ok (.iload_n 1, 1) := by decide +kernel
theorem d_X2_index_19 : decode b_X2_index 19 = .ok (.invokevirtual 219, 3) := by decide +kernel
theorem d_X2_index_22 : decode b_X2_index 22 = .ok (.aload_n 0, 1) := by decide +kernel
theorem d_X2_index_23 : decode b_X2_index 23 = .ok (.getfield 46, 3) := by decide +kernel
theorem d_X2_index_26 : decode b_X2_index 26 = .ok (.bipush 43, 2) := by decide +kernel
theorem d_X2_index_28 : decode b_X2_index 28 = .ok (.iconst 0, 1) := by decide +kernel
theorem d_X2_index_29 : decode b_X2_index 29 = .ok (.iconst 0, 1) := by decide +kernel
theorem d_X2_index_30 : decode b_X2_index 30 = .ok (.iconst 0, 1) := by decide +kernel
theorem d_X2_index_31 : decode b_X2_index 31 = .ok (.invokevirtual 155, 3) := by decide +kernel
theorem d_X2_index_34 : decode b_X2_index 34 = .ok (.pop, 1) := by decide +kernel
theorem d_X2_index_35 : decode b_X2_index 35 = .ok (.aload_n 0, 1) := by decide +kernel
theorem d_X2_index_36 : decode b_X2_index 36 = .ok (.aload_n 3, 1) := by decide +kernel
theorem d_X2_index_37 : decode b_X2_index 37 = .ok (.iload_n 1, 1) := by decide +kernel
theorem d_X2_index_38 : decode b_X2_index 38 = .ok (.invokevirtual 328, 3) := by decide +kernel
theorem d_X2_index_41 : decode b_X2_index 41 = .ok (.aload_n 0, 1) := by decide +kernel
theorem d_X2_index_42 : decode b_X2_index 42 = .ok (.aload_n 3, 1) := by decide +kernel
theorem d_X2_index_43 : decode b_X2_index 43 = .ok (.iconst 1, 1) := by decide +kernel
theorem d_X2_index_44 : decode b_X2_index 44 = .ok (.aload_n 3, 1) := by decide +kernel
theorem d_X2_index_45 : decode b_X2_index 45 = .ok (.getfield 161, 3) := by decide +kernel
theorem d_X2_index_48 : decode b_X2_index 48 = .ok (.aload_n 2, 1) := by decide +kernel
theorem d_X2_index_49 : decode b_X2_index 49 = .ok (.getfield 161, 3) := by decide +kernel
theorem d_X2_index_52 : decode b_X2_index 52 = .ok (.invokestatic 222, 3) := by decide +kernel
theorem d_X2_index_55 : decode b_X2_index 55 = .ok (.iadd, 1) := by decide +kernel
theorem d_X2_index_56 : decode b_X2_index 56 = .ok (.iload_n 1, 1) := by decide +kernel
theorem d_X2_index_57 : decode b_X2_index 57 = .ok (.invokevirtual 281, 3) := by decide +kernel
theorem d_X2_index_60 : decode b_X2_index 60 = .ok (.return_, 1) := by decide +kernel
theorem d_X2_invert_0 : decode b_X2_invert 0 = .ok (.iload_n 2, 1) := by decide +kernel
theorem d_X2_invert_1 : decode b_X2_invert 1 = .ok (.bipush 59, 2) := by decide +kernel
theorem d_X2_invert_3 : decode b_X2_invert 3 = .ok (.if_icmp .ne 14, 3) := by decide +kernel
theorem d_X2_invert_6 : decode b_X2_invert 6 = .ok (.aload_n 1, 1) := by decide +kernel
theorem d_X2_invert_7 : decode b_X2_invert 7 = .ok (.getfield 233, 3) := by decide +kernel
theorem d_X2_invert_10 : decode b_X2_invert 10 = .ok (.iconst (-1), 1) := by decide +kernel
theorem d_X2_invert_11 : decode b_X2_invert 11 = .ok (.if_icmp .ne 18, 3) := by decide +kernel
theorem d_X2_invert_14 : decode b_X2_invert 14 = .ok (.goto 10, 3) := by decide +kernel
theorem d_X2_invert_17 : decode b_X2_invert 17 = .ok (.aload_n 1, 1) := by decide +kernel
theorem d_X2_invert_18 : decode b_X2_invert 18 = .ok (.getfield 233, 3) := by decide +kernel
theorem d_X2_invert_21 : decode b_X2_invert 21 = .ok (.ifCond .eq 8, 3) := by decide +kernel
theorem d_X2_invert_24 : decode b_X2_invert 24 = .ok (.aload_n 0, 1) := by decide +kernel
theorem d_X2_invert_25 : decode b_X2_invert 25 = .ok (.iload_n 3, 1) := by decide +kernel
theorem d_X2_invert_26 : decode b_X2_invert 26 = .ok (.invokevirtual 219, 3) := by decide +kernel
theorem d_X2_invert_29 : decode b_X2_invert 29 = .ok (.iload_n 2, 1) := by decide +kernel
theorem d_X2_invert_30 : decode b_X2_invert 30 = .ok (.bipush 59, 2) := by decide +kernel
theorem d_X2_invert_32 : decode b_X2_invert 32 = .ok (.if_icmp .ne 8, 3) := by decide +kernel
theorem d_X2_invert_35 : decode b_X2_invert 35 = .ok (.bipush 24, 2) := by decide +kernel
theorem d_X2_invert_37 : decode b_X2_invert 37 = .ok (.goto 16, 3) := by decide +kernel
theorem d_X2_invert_40 : decode b_X2_invert 40 = .ok (.iload_n 2, 1) := by decide +kernel
theorem d_X2_invert_41 : decode b_X2_invert 41 = .ok (.bipush 60, 2) := by decide +kernel
theorem d_X2_invert_43 : decode b_X2_invert 43 = .ok (.if_icmp .ne 8, 3) := by decide +kernel
theorem d_X2_invert_46 : decode b_X2_invert 46 = .ok (.bipush 23, 2) := by decide +kernel
theorem d_X2_invert_48 : decode b_X2_invert 48 = .ok (.goto 5, 3) := by decide +kernel
theorem d_X2_invert_51 : decode b_X2_invert 51 = .ok (.bipush 22, 2) := by decide +kernel
theorem d_X2_invert_53 : decode b_X2_invert 53 = .ok (.istore 4, 2) := by decide +kernel
theorem d_X2_invert_55 : decode b_X2_invert 55 = .ok (.aload_n 0, 1) := by decide +kernel
theorem d_X2_invert_56 : decode b_X2_invert 56 = .ok (.getfield 46, 3) := by decide +kernel
theorem d_X2_invert_59 : decode b_X2_invert 59 = .ok (.iload 4, 2) := by decide +kernel
theorem d_X2_invert_61 : decode b_X2_invert 61 = .ok (.iconst 0, 1) := by decide +kernel
theorem d_X2_invert_62 : decode b_X2_invert 62 = .ok (.iconst 0, 1) := by decide +kernel
theorem d_X2_invert_63 : decode b_X2_invert 63 = .ok (.iconst 0, 1) := by decide +kernel
theorem d_X2_invert_64 : decode b_X2_invert 64 = .ok (.invokevirtual 155, 3) := by decide +kernel
theorem d_X2_invert_67 : decode b_X2_invert 67 = .ok (.pop, 1) := by decide +kernel
theorem d_X2_invert_68 : decode b_X2_invert 68 = .ok (.aload_n 1, 1) := by decide +kernel
theorem d_X2_invert_69 : decode b_X2_invert 69 = .ok (.iload 4, 2) := by decide +kernel
theorem d_X2_invert_71 : decode b_X2_invert 71 = .ok (.aload_n 1, 1) := by decide +kernel
theorem d_X2_invert_72 : decode b_X2_invert 72 = .ok (.getfield 176, 3) := by decide +kernel
theorem d_X2_invert_75 : decode b_X2_invert 75 = .ok (.invokestatic 334, 3) := by decide +kernel
theorem d_X2_invert_78 : decode b_X2_invert 78 = .ok (.putfield 176, 3) := by decide +kernel
theorem d_X2_invert_81 : decode b_X2_invert 81 = .ok (.aload_n 1, 1) := by decide +kernel
theorem d_X2_invert_82 : decode b_X2_invert 82 = .ok (.iconst 0, 1) := by decide +kernel
theorem d_X2_invert_83 : decode b_X2_invert 83 = .ok (.aload_n 1, 1) := by decide +kernel
theorem d_X2_invert_84 : decode b_X2_invert 84 = .ok (.invokevirtual 310, 3) := by decide +kernel
theorem d_X2_invert_87 : decode b_X2_invert 87 = .ok (.ifCond .eq 7, 3) := by decide +kernel
theorem d_X2_invert_90 : decode b_X2_invert 90 = .ok (.iconst 1, 1) := by decide +kernel
theorem d_X2_invert_91 : decode b_X2_invert 91 = .ok (.goto 4, 3) := by decide +kernel
theorem d_X2_invert_94 : decode b_X2_invert 94 = .ok (.iconst 0, 1) := by decide +kernel
theorem d_X2_invert_95 : decode b_X2_invert 95 = .ok (.invokevirtual 199, 3) := by decide +kernel
theorem d_X2_invert_98 : decode b_X2_invert 98 = .ok (.aload_n 0, 1) := by decide +kernel
theorem d_X2_invert_99 : decode b_X2_invert 99 = .ok (.aload_n 1, 1) := by decide +kernel
theorem d_X2_invert_100 : decode b_X2_invert 100 = .ok (.invokevirtual 307, 3) := by decide +kernel
theorem d_X2_invert_103 : decode b_X2_invert 103 = .ok (.return_, 1) := by decide +kernel
theorem d_X2_kindOf_0 : decode b_X2_kindOf 0 = .ok (.aload_n 0, 1) := by decide +kernel
theorem d_X2_kindOf_1 : decode b_X2_kindOf 1 = .ok (.getfield 36, 3) := by decide +kernel
theorem d_X2_kindOf_4 : decode b_X2_kindOf 4 = .ok (.getfield 129, 3) := by decide +kernel
theorem d_X2_kindOf_7 : decode b_X2_kindOf 7 = .ok (.iload_n 1, 1) := by decide +kernel
theorem d_X2_kindOf_8 : decode b_X2_kindOf 8 = .ok (.invokestatic 56, 3) := by decide +kernel
theorem d_X2_kindOf_11 : decode b_X2_kindOf 11 = .ok (.ireturn, 1) := by decide +kernel
theorem d_X2_left_0 : decode b_X2_left 0 = .ok (.aload_n 0, 1) := by decide +kernel
theorem d_X2_left_1 : decode b_X2_left 1 = .ok (.iload_n 1, 1) := by decide +kernel
theorem d_X2_left_2 : decode b_X2_left 2 = .ok (.invokevirtual 285, 3) := by decide +kernel
theorem d_X2_left_5 : decode b_X2_left 5 = .ok (.istore_n 2, 1) := by decide +kernel
theorem d_X2_left_6 : decode b_X2_left 6 = .ok (.aload_n 0, 1) := by decide +kernel
theorem d_X2_left_7 : decode b_X2_left 7 = .ok (.invokevirtual 104, 3) := by decide +kernel
theorem d_X2_left_10 : decode b_X2_left 10 = .ok (.astore_n 3, 1) := by decide +kernel
theorem d_X2_left_11 : decode b_X2_left 11 = .ok (.iload_n 2, 1) := by decide +kernel
theorem d_X2_left_12 : decode b_X2_left 12 = .ok (.bipush 30, 2) := by decide +kernel
theorem d_X2_left_14 : decode b_X2_left 14 = .ok (.if_icmp .le 22, 3) := by decide +kernel
theorem d_X2_left_17 : decode b_X2_left 17 = .ok (.iload_n 2, 1) := by decide +kernel
theorem d_X2_left_18 : decode b_X2_left 18 = .ok (.bipush 40, 2) := by decide +kernel
theorem d_X2_left_20 : decode b_X2_left 20 = .ok (.if_icmp .gt 16, 3) := by decide +kernel
theorem d_X2_left_23 : decode b_X2_left 23 = .ok (.aload_n 0, 1) := by decide +kernel
theorem d_X2_left_24 : decode b_X2_left 24 = .ok (.aload_n 3, 1) := by decide +kernel
theorem d_X2_left_25 : decode b_X2_left 25 = .ok (.aload_n 0, 1) := by decide +kernel
theorem d_X2_left_26 : decode b_X2_left 26 = .ok (.iload_n 1, 1) := by decide +kernel
theorem d_X2_left_27 : decode b_X2_left 27 = .ok (.invokevirtual 278, 3) := by decide +kernel
theorem d_X2_left_30 : decode b_X2_left 30 = .ok (.invokevirtual 288, 3) := by decide +kernel
theorem d_X2_left_33 : decode b_X2_left 33 = .ok (.goto 15, 3) := by decide +kernel
theorem d_X2_left_36 : decode b_X2_left 36 = .ok (.iload_n 2, 1) := by decide +kernel
theorem d_X2_left_37 : decode b_X2_left 37 = .ok (.bipush 30, 2) := by decide +kernel
theorem d_X2_left_39 : decode b_X2_left 39 = .ok (.if_icmp .eq 9, 3) := by decide +kernel
theorem d_X2_left_42 : decode b_X2_left 42 = .ok (.aload_n 0, 1) := by decide +kernel
theorem d_X2_left_43 : decode b_X2_left 43 = .ok (.aload_n 3, 1) := by decide +kernel
theorem d_X2_left_44 : decode b_X2_left 44 = .ok (.invokevirtual 112, 3) := by decide +kernel
theorem d_X2_left_47 : decode b_X2_left 47 = .ok (.pop, 1) := by decide +kernel
theorem d_X2_left_48 : decode b_X2_left 48 = .ok (.iload_n 2, 1) := by decide +kernel
theorem d_X2_left_49 : decode b_X2_left 49 = .ok (.bipush 58, 2) := by decide +kernel
theorem d_X2_left_51 : decode b_X2_left 51 = .ok (.if_icmp .eq 9, 3) := by decide +kernel
theorem d_X2_left_54 : decode b_X2_left 54 = .ok (.iload_n 2, 1) := by decide +kernel
theorem d_X2_left_55 : decode b_X2_left 55 = .ok (.bipush 57, 2) := by decide +kernel
theorem d_X2_left_57 : decode b_X2_left 57 = .ok (.if_icmp .ne 30, 3) := by decide +kernel
theorem d_X2_left_60 : decode b_X2_left 60 = .ok (.aload_n 3, 1) := by decide +kernel
theorem d_X2_left_61 : decode b_X2_left 61 = .ok (.aload_n 0, 1) := by decide +kernel
theorem d_X2_left_62 : decode b_X2_left 62 = .ok (.getfield 46, 3) := by decide +kernel
theorem d_X2_left_65 : decode b_X2_left 65 = .ok (.iload_n 2, 1) := by decide +kernel
theorem d_X2_left_66 : decode b_X2_left 66 = .ok (.bipush 58, 2) := by decide +kernel
theorem d_X2_left_68 : decode b_X2_left 68 = .ok (.if_icmp .ne 8, 3) := by decide +kernel
theorem d_X2_left_71 : decode b_X2_left 71 = .ok (.bipush 29, 2) := by decide +kernel
theorem d_X2_left_73 : decode b_X2_left 73 = .ok (.goto 5, 3) := by decide +kernel
theorem d_X2_left_76 : decode b_X2_left 76 = .ok (.bipush 30, 2) := by decide +kernel
theorem d_X2_left_78 : decode b_X2_left 78 = .ok (.iconst (-1), 1) := by decide +kernel
theorem d_X2_left_79 : decode b_X2_left 79 = .ok (.iconst 0, 1) := by decide +kernel
theorem d_X2_left_80 : decode b_X2_left 80 = .ok (.iconst 0, 1) := by decide +kernel
theorem d_X2_left_81 : decode b_X2_left 81 = .ok (.invokevirtual 155, 3) := by decide +kernel
theorem d_X2_left_84 : decode b_X2_left 84 = .ok (.putfield 120, 3) := by decide +kernel
theorem d_X2_left_87 : decode b_X2_left 87 = .ok (.return_, 1) := by decide +kernel
theorem d_X2_lineOf_0 : decode b_X2_lineOf 0 = .ok (.aload_n 0, 1) := by decide +kernel
theorem d_X2_lineOf_1 : decode b_X2_lineOf 1 = .ok (.getfield 36, 3) := by decide +kernel
theorem d_X2_lineOf_4 : decode b_X2_lineOf 4 = .ok (.getfield 134, 3) := by decide +kernel
theorem d_X2_lineOf_7 : decode b_X2_lineOf 7 = .ok (.iload_n 1, 1) := by decide +kernel
theorem d_X2_lineOf_8 : decode b_X2_lineOf 8 = .ok (.invokestatic 56, 3) := by decide +kernel
theorem d_X2_lineOf_11 : decode b_X2_lineOf 11 = .ok (.ireturn, 1) := by decide +kernel
theorem d_X2_loaded_0 : decode b_X2_loaded 0 = .ok (.aload_n 1, 1) := by decide +kernel
theorem d_X2_loaded_1 : decode b_X2_loaded 1 = .ok (.invokevirtual 145, 3) := by decide +kernel
theorem d_X2_loaded_4 : decode b_X2_loaded 4 = .ok (.ifCond .eq 63, 3) := by decide +kernel
theorem d_X2_loaded_7 : decode b_X2_loaded 7 = .ok (.aload_n 1, 1) := by decide +kernel
theorem d_X2_loaded_8 : decode b_X2_loaded 8 = .ok (.getfield 149, 3) := by decide +kernel
theorem d_X2_loaded_11 : decode b_X2_loaded 11 = .ok (.iconst 3, 1) := by decide +kernel
theorem d_X2_loaded_12 : decode b_X2_loaded 12 = .ok (.if_icmp .ne 22, 3) := by decide +kernel
theorem d_X2_loaded_15 : decode b_X2_loaded 15 = .ok (.aload_n 0, 1) := by decide +kernel
theorem d_X2_loaded_16 : decode b_X2_loaded 16 = .ok (.getfield 46, 3) := by decide +kernel
theorem d_X2_loaded_19 : decode b_X2_loaded 19 = .ok (.bipush 18, 2) := by decide +kernel
theorem d_X2_loaded_21 : decode b_X2_loaded 21 = .ok (.aload_n 1, 1) := by decide +kernel
theorem d_X2_loaded_22 : decode b_X2_loaded 22 = .ok (.getfield 152, 3) := by decide +kernel
theorem d_X2_loaded_25 : decode b_X2_loaded 25 = .ok (.iconst 0, 1) := by decide +kernel
theorem d_X2_loaded_26 : decode b_X2_loaded 26 = .ok (.iconst 0, 1) := by decide +kernel
theorem d_X2_loaded_27 : decode b_X2_loaded 27 = .ok (.invokevirtual 155, 3) := by decide +kernel
theorem d_X2_loaded_30 : decode b_X2_loaded 30 = .ok (.pop, 1) := by decide +kernel
theorem d_X2_loaded_31 : decode b_X2_loaded 31 = .ok (.goto 31, 3) := by decide +kernel
theorem d_X2_loaded_34 : decode b_X2_loaded 34 = .ok (.aload_n 0, 1) := by decide +kernel
theorem d_X2_loaded_35 : decode b_X2_loaded 35 = .ok (.getfield 46, 3) := by decide +kernel
theorem d_X2_loaded_38 : decode b_X2_loaded 38 = .ok (.aload_n 1, 1) := by decide +kernel
theorem d_X2_loaded_39 : decode b_X2_loaded 39 = .ok (.getfield 149, 3) := by decide +kernel
theorem d_X2_loaded_42 : decode b_X2_loaded 42 = .ok (.iconst 1, 1) := by decide +kernel
theorem d_X2_loaded_43 : decode b_X2_loaded 43 = .ok (.if_icmp .ne 8, 3) := by decide +kernel
theorem d_X2_loaded_46 : decode b_X2_loaded 46 = .ok (.bipush 8, 2) := by decide +kernel
theorem d_X2_loaded_48 : decode b_X2_loaded 48 = .ok (.goto 4, 3) := by decide +kernel
theorem d_X2_loaded_51 : decode b_X2_loaded 51 = .ok (.iconst 5, 1) := by decide +kernel
theorem d_X2_loaded_52 : decode b_X2_loaded 52 = .ok (.aload_n 1, 1) := by decide +kernel
theorem d_X2_loaded_53 : decode b_X2_loaded 53 = .ok (.getfield 159, 3) := by decide +kernel
theorem d_X2_loaded_56 : decode b_X2_loaded 56 = .ok (.iconst 0, 1) := by decide +kernel
theorem d_X2_loaded_57 : decode b_X2_loaded 57 = .ok (.iconst 0, 1) := by decide +kernel
theorem d_X2_loaded_58 : decode b_X2_loaded 58 = .ok (.invokevirtual 155, 3) := by decide +kernel
theorem d_X2_loaded_61 : decode b_X2_loaded 61 = .ok (.pop, 1) := by decide +kernel
theorem d_X2_loaded_62 : decode b_X2_loaded 62 = .ok (.aload_n 1, 1) := by decide +kernel
theorem d_X2_loaded_63 : decode b_X2_loaded 63 = .ok (.iconst 0, 1) := by decide +kernel
theorem d_X2_loaded_64 : decode b_X2_loaded 64 = .ok (.putfield 149, 3) := by decide +kernel
theorem d_X2_loaded_67 : decode b_X2_loaded 67 = .ok (.aload_n 1, 1) := by decide +kernel
theorem d_X2_loaded_68 : decode b_X2_loaded 68 = .ok (.areturn, 1) := by decide +kernel
theorem d_X2_named_0 : decode b_X2_named 0 = .ok (.aload_n 0, 1) := by decide +kernel
theorem d_X2_named_1 : decode b_X2_named 1 = .ok (.getfield 37, 3) := by decide +kernel
theorem d_X2_named_4 : decode b_X2_named 4 = .ok (.iconst 0, 1) := by decide +kernel
theorem d_X2_named_5 : decode b_X2_named 5 = .ok (.iload_n 1, 1) := by decide +kernel
theorem d_X2_named_6 : decode b_X2_named 6 = .ok (.invokevirtual 208, 3) := by decide +kernel
theorem d_X2_named_9 : decode b_X2_named 9 = .ok (.istore_n 2, 1) := by decide +kernel
theorem d_X2_named_10 : decode b_X2_named 10 = .ok (.iload_n 2, 1) := by decide +kernel
theorem d_X2_named_11 : decode b_X2_named 11 = .ok (.ifCond .ge 14, 3) := by decide +kernel
theorem d_X2_named_14 : decode b_X2_named 14 = .ok (.aload_n 0, 1) := by decide +kernel
theorem d_X2_named_15 : decode b_X2_named 15 = .ok (.getfield 37, 3) := by decide +kernel
theorem d_X2_named_18 : decode b_X2_named 18 = .ok (.iload_n 1, 1) := by decide +kernel
theorem d_X2_named_19 : decode b_X2_named 19 = .ok (.invokevirtual 212, 3) := by decide +kernel
theorem d_X2_named_22 : decode b_X2_named 22 = .ok (.goto 4, 3) := by decide +kernel
theorem d_X2_named_25 : decode b_X2_named 25 = .ok (.iconst (-1), 1) := by decide +kernel
theorem d_X2_named_26 : decode b_X2_named 26 = .ok (.istore_n 3, 1) := by decide +kernel
theorem d_X2_named_27 : decode b_X2_named 27 = .ok (.iload_n 2, 1) := by decide +kernel
theorem d_X2_named_28 : decode b_X2_named 28 = .ok (.ifCond .ge 25, 3) := by decide +kernel
theorem d_X2_named_31 : decode b_X2_named 31 = .ok (.iload_n 3, 1) := by decide +kernel
theorem d_X2_named_32 : decode b_X2_named 32 = .ok (.ifCond .lt 15, 3) := by decide +kernel
theorem d_X2_named_35 : decode b_X2_named 35 = .ok (.aload_n 0, 1) := by decide +kernel
theorem d_X2_named_36 : decode b_X2_named 36 = .ok (.getfield 45, 3) := by decide +kernel
theorem d_X2_named_39 : decode b_X2_named 39 = .ok (.iload_n 3, 1) := by decide +kernel
theorem d_X2_named_40 : decode b_X2_named 40 = .ok (.iconst 1, 1) := by decide +kernel
theorem d_X2_named_41 : decode b_X2_named 41 = .ok (.invokevirtual 215, 3) := by decide +kernel
theorem d_X2_named_44 : decode b_X2_named 44 = .ok (.ifCond .eq 9, 3) := by decide +kernel
theorem d_X2_named_47 : decode b_X2_named 47 = .ok (.aload_n 0, 1) := by decide +kernel
theorem d_X2_named_48 : decode b_X2_named 48 = .ok (.iload_n 1, 1) := by decide +kernel
theorem d_X2_named_49 : decode b_X2_named 49 = .ok (.invokevirtual 219, 3) := by decide +kernel
theorem d_X2_named_52 : decode b_X2_named 52 = .ok (.return_, 1) := by decide +kernel
theorem d_X2_named_53 : decode b_X2_named 53 = .ok (.aload_n 0, 1) := by decide +kernel
theorem d_X2_named_54 : decode b_X2_named 54 = .ok (.invokevirtual 167, 3) := by decide +kernel
theorem d_X2_named_57 : decode b_X2_named 57 = .ok (.astore 4, 2) := by decide +kernel
theorem d_X2_named_59 : decode b_X2_named 59 = .ok (.aload 4, 2) := by decide +kernel
theorem d_X2_named_61 : decode b_X2_named 61 = .ok (.iload_n 2, 1) := by decide +kernel
theorem d_X2_named_62 : decode b_X2_named 62 = .ok (.iload_n 3, 1) := by decide +kernel
theorem d_X2_named_63 : decode b_X2_named 63 = .ok (.invokestatic 222, 3) := by decide +kernel
theorem d_X2_named_66 : decode b_X2_named 66 = .ok (.putfield 159, 3) := by decide +kernel
theorem d_X2_named_69 : decode b_X2_named 69 = .ok (.aload 4, 2) := by decide +kernel
theorem d_X2_named_71 : decode b_X2_named 71 = .ok (.iload_n 2, 1) := by decide +kernel
theorem d_X2_named_72 : decode b_X2_named 72 = .ok (.ifCond .lt 7, 3) := by decide +kernel
theorem d_X2_named_75 : decode b_X2_named 75 = .ok (.iconst 1, 1) := by decide +kernel
theorem d_X2_named_76 : decode b_X2_named 76 = .ok (.goto 4, 3) := by decide +kernel
theorem d_X2_named_79 : decode b_X2_named 79 = .ok (.iconst 2, 1) := by decide +kernel
theorem d_X2_named_80 : decode b_X2_named 80 = .ok (.putfield 149, 3) := by decide +kernel
theorem d_X2_named_83 : decode b_X2_named 83 = .ok (.aload 4, 2) := by decide +kernel
theorem d_X2_named_85 : decode b_X2_named 85 = .ok (.iload_n 2, 1) := by decide +kernel
theorem d_X2_named_86 : decode b_X2_named 86 = .ok (.ifCond .lt 17, 3) := by decide +kernel
theorem d_X2_named_89 : decode b_X2_named 89 = .ok (.aload_n 0, 1) := by decide +kernel
theorem d_X2_named_90 : decode b_X2_named 90 = .ok (.getfield 37, 3) := by decide +kernel
theorem d_X2_named_93 : decode b_X2_named 93 = .ok (.getfield 227, 3) := by decide +kernel
theorem d_X2_named_96 : decode b_X2_named 96 = .ok (.iload_n 2, 1) := by decide +kernel
theorem d_X2_named_97 : decode b_X2_named 97 = .ok (.invokestatic 56, 3) := by decide +kernel
theorem d_X2_named_100 : decode b_X2_named 100 = .ok (.goto 14, 3) := by decide +kernel
theorem d_X2_named_103 : decode b_X2_named 103 = .ok (.aload_n 0, 1) := by decide +kernel
theorem d_X2_named_104 : decode b_X2_named 104 = .ok (.getfield 45, 3) := by decide +kernel
theorem d_X2_named_107 : decode b_X2_named 107 = .ok (.getfield 230, 3) := by decide +kernel
theorem d_X2_named_110 : decode b_X2_named 110 = .ok (.iload_n 3, 1) := by decide +kernel
theorem d_X2_named_111 : decode b_X2_named 111 = .ok (.invokestatic 56, 3) := by decide +kernel
theorem d_X2_named_114 : decode b_X2_named 114 = .ok (.putfield 233, 3) := by decide +kernel
theorem d_X2_named_117 : decode b_X2_named 117 = .ok (.aload_n 0, 1) := by decide +kernel
theorem d_X2_named_118 : decode b_X2_named 118 = .ok (.getfield 45, 3) := by decide +kernel
theorem d_X2_named_121 : decode b_X2_named 121 = .ok (.iload_n 3, 1) := by decide +kernel
theorem d_X2_named_122 : decode b_X2_named 122 = .ok (.bipush 8, 2) := by decide +kernel
theorem d_X2_named_124 : decode b_X2_named 124 = .ok (.invokevirtual 236, 3) := by decide +kernel
theorem d_X2_named_127 : decode b_X2_named 127 = .ok (.iload_n 2, 1) := by decide +kernel
theorem d_X2_named_128 : decode b_X2_named 128 = .ok (.ifCond .lt 13, 3) := by decide +kernel
theorem d_X2_named_131 : decode b_X2_named 131 = .ok (.aload_n 0, 1) := by decide +kernel
theorem d_X2_named_132 : decode b_X2_named 132 = .ok (.getfield 37, 3) := by decide +kernel
theorem d_X2_named_135 : decode b_X2_named 135 = .ok (.getfield 239, 3) := by decide +kernel
theorem d_X2_named_138 : decode b_X2_named 138 = .ok (.goto 10, 3) := by decide +kernel
theorem d_X2_named_141 : decode b_X2_named 141 = .ok (.aload_n 0, 1) := by decide +kernel
theorem d_X2_named_142 : decode b_X2_named 142 = .ok (.getfield 45, 3) := by decide +kernel
theorem d_X2_named_145 : decode b_X2_named 145 = .ok (.getfield 242, 3) := by decide +kernel
theorem d_X2_named_148 : decode b_X2_named 148 = .ok (.aload 4, 2) := by decide +kernel
theorem d_X2_named_150 : decode b_X2_named 150 = .ok (.getfield 159, 3) := by decide +kernel
theorem d_X2_named_153 : decode b_X2_named 153 = .ok (.invokestatic 56, 3) := by decide +kernel
theorem d_X2_named_156 : decode b_X2_named 156 = .ok (.ifCond .lt 9, 3) := by decide +kernel
theorem d_X2_named_159 : decode b_X2_named 159 = .ok (.aload_n 0, 1) := by decide +kernel
theorem d_X2_named_160 : decode b_X2_named 160 = .ok (.aload 4, 2) := by decide +kernel
theorem d_X2_named_162 : decode b_X2_named 162 = .ok (.invokevirtual 245, 3) := by decide +kernel
theorem d_X2_named_165 : decode b_X2_named 165 = .ok (.return_, 1) := by decide +kernel
theorem d_X2_number_0 : decode b_X2_number 0 = .ok (.aload_n 0, 1) := by decide +kernel
theorem d_X2_number_1 : decode b_X2_number 1 = .ok (.invokevirtual 167, 3) := by decide +kernel
theorem d_X2_number_4 : decode b_X2_number 4 = .ok (.astore_n 2, 1) := by decide +kernel
theorem d_X2_number_5 : decode b_X2_number 5 = .ok (.aload_n 2, 1) := by decide +kernel
theorem d_X2_number_6 : decode b_X2_number 6 = .ok (.iconst 1, 1) := by decide +kernel
theorem d_X2_number_7 : decode b_X2_number 7 = .ok (.putfield 170, 3) := by decide +kernel
theorem d_X2_number_10 : decode b_X2_number 10 = .ok (.aload_n 2, 1) := by decide +kernel
theorem d_X2_number_11 : decode b_X2_number 11 = .ok (.aload_n 0, 1) := by decide +kernel
theorem d_X2_number_12 : decode b_X2_number 12 = .ok (.getfield 36, 3) := by decide +kernel
theorem d_X2_number_15 : decode b_X2_number 15 = .ok (.getfield 173, 3) := by decide +kernel
theorem d_X2_number_18 : decode b_X2_number 18 = .ok (.iload_n 1, 1) := by decide +kernel
theorem d_X2_number_19 : decode b_X2_number 19 = .ok (.invokestatic 56, 3) := by decide +kernel
theorem d_X2_number_22 : decode b_X2_number 22 = .ok (.putfield 176, 3) := by decide +kernel
theorem d_X2_number_25 : decode b_X2_number 25 = .ok (.aload_n 2, 1) := by decide +kernel
theorem d_X2_number_26 : decode b_X2_number 26 = .ok (.aload_n 2, 1) := by decide +kernel
theorem d_X2_number_27 : decode b_X2_number 27 = .ok (.getfield 176, 3) := by decide +kernel
theorem d_X2_number_30 : decode b_X2_number 30 = .ok (.ifCond .ne 7, 3) := by decide +kernel
theorem d_X2_number_33 : decode b_X2_number 33 = .ok (.iconst 1, 1) := by decide +kernel
theorem d_X2_number_34 : decode b_X2_number 34 = .ok (.goto 4, 3) := by decide +kernel
theorem d_X2_number_37 : decode b_X2_number 37 = .ok (.iconst 0, 1) := by decide +kernel
theorem d_X2_number_38 : decode b_X2_number 38 = .ok (.putfield 179, 3) := by decide +kernel
theorem d_X2_number_41 : decode b_X2_number 41 = .ok (.aload_n 0, 1) := by decide +kernel
theorem d_X2_number_42 : decode b_X2_number 42 = .ok (.getfield 46, 3) := by decide +kernel
theorem d_X2_number_45 : decode b_X2_number 45 = .ok (.iconst 1, 1) := by decide +kernel
theorem d_X2_number_46 : decode b_X2_number 46 = .ok (.aload_n 2, 1) := by decide +kernel
theorem d_X2_number_47 : decode b_X2_number 47 = .ok (.getfield 176, 3) := by decide +kernel
theorem d_X2_number_50 : decode b_X2_number 50 = .ok (.iconst 0, 1) := by decide +kernel
theorem d_X2_number_51 : decode b_X2_number 51 = .ok (.iconst 0, 1) := by decide +kernel
theorem d_X2_number_52 : decode b_X2_number 52 = .ok (.invokevirtual 155, 3) := by decide +kernel
theorem d_X2_number_55 : decode b_X2_number 55 = .ok (.pop, 1) := by decide +kernel
theorem d_X2_number_56 : decode b_X2_number 56 = .ok (.return_, 1) := by decide +kernel
theorem d_X2_operate_0 : decode b_X2_operate 0 = .ok (.iload_n 2, 1) := by decide +kernel
theorem d_X2_operate_1 : decode b_X2_operate 1 = .ok (.ifCond .eq 19, 3) := by decide +kernel
theorem d_X2_operate_4 : decode b_X2_operate 4 = .ok (.iload_n 1, 1) := by decide +kernel
theorem d_X2_operate_5 : decode b_X2_operate 5 = .ok (.bipush 53, 2) := by decide +kernel
theorem d_X2_operate_7 : decode b_X2_operate 7 = .ok (.if_icmp .lt 13, 3) := by decide +kernel
theorem d_X2_operate_10 : decode b_X2_operate 10 = .ok (.iload_n 1, 1) := by decide +kernel
theorem d_X2_operate_11 : decode b_X2_operate 11 = .ok (.bipush 56, 2) := by decide +kernel
theorem d_X2_operate_13 : decode b_X2_operate 13 = .ok (.if_icmp .gt 7, 3) := by decide +kernel
theorem d_X2_operate_16 : decode b_X2_operate 16 = .ok (.iconst 1, 1) := by decide +kernel
theorem d_X2_operate_17 : decode b_X2_operate 17 = .ok (.goto 4, 3) := by decide +kernel
theorem d_X2_operate_20 : decode b_X2_operate 20 = .ok (.iconst 0, 1) := by decide +kernel
theorem d_X2_operate_21 : decode b_X2_operate 21 = .ok (.istore 4, 2) := by decide +kernel
theorem d_X2_operate_23 : decode b_X2_operate 23 = .ok (.aload_n 0, 1) := by decide +kernel
theorem d_X2_operate_24 : decode b_X2_operate 24 = .ok (.getfield 46, 3) := by decide +kernel
theorem d_X2_operate_27 : decode b_X2_operate 27 = .ok (.iload 4, 2) := by decide +kernel
theorem d_X2_operate_29 : decode b_X2_operate 29 = .ok (.ifCond .eq 9, 3) := by decide +kernel
theorem d_X2_operate_32 : decode b_X2_operate 32 = .ok (.iload_n 1, 1) := by decide +kernel
theorem d_X2_operate_33 : decode b_X2_operate 33 = .ok (.iconst 4, 1) := by decide +kernel
theorem d_X2_operate_34 : decode b_X2_operate 34 = .ok (.iadd, 1) := by decide +kernel
theorem d_X2_operate_35 : decode b_X2_operate 35 = .ok (.goto 4, 3) := by decide +kernel
theorem d_X2_operate_38 : decode b_X2_operate 38 = .ok (.iload_n 1, 1) := by decide +kernel
theorem d_X2_operate_39 : decode b_X2_operate 39 = .ok (.iload_n 3, 1) := by decide +kernel
theorem d_X2_operate_40 : decode b_X2_operate 40 = .ok (.iconst 0, 1) := by decide +kernel
theorem d_X2_operate_41 : decode b_X2_operate 41 = .ok (.iconst 0, 1) := by decide +kernel
theorem d_X2_operate_42 : decode b_X2_operate 42 = .ok (.invokevirtual 155, 3) := by decide +kernel
theorem d_X2_operate_45 : decode b_X2_operate 45 = .ok (.pop, 1) := by decide +kernel
theorem d_X2_operate_46 : decode b_X2_operate 46 = .ok (.return_, 1) := by decide +kernel
theorem d_X2_pointed_0 : decode b_X2_pointed 0 = .ok (.aload_n 1, 1) := by decide +kernel
theorem d_X2_pointed_1 : decode b_X2_pointed 1 = .ok (.getfield 233, 3) := by decide +kernel
theorem d_X2_pointed_4 : decode b_X2_pointed 4 = .ok (.iconst 1, 1) := by decide +kernel
theorem d_X2_pointed_5 : decode b_X2_pointed 5 = .ok (.if_icmp .ge 8, 3) := by decide +kernel
theorem d_X2_pointed_8 : decode b_X2_pointed 8 = .ok (.aload_n 0, 1) := by decide +kernel
theorem d_X2_pointed_9 : decode b_X2_pointed 9 = .ok (.iload_n 2, 1) := by decide +kernel
theorem d_X2_pointed_10 : decode b_X2_pointed 10 = .ok (.invokevirtual 219, 3) := by decide +kernel
theorem d_X2_pointed_13 : decode b_X2_pointed 13 = .ok (.aload_n 1, 1) := by decide +kernel
theorem d_X2_pointed_14 : decode b_X2_pointed 14 = .ok (.aload_n 1, 1) := by decide +kernel
theorem d_X2_pointed_15 : decode b_X2_pointed 15 = .ok (.getfield 233, 3) := by decide +kernel
theorem d_X2_pointed_18 : decode b_X2_pointed 18 = .ok (.iconst 1, 1) := by decide +kernel
theorem d_X2_pointed_19 : decode b_X2_pointed 19 = .ok (.isub, 1) := by decide +kernel
theorem d_X2_pointed_20 : decode b_X2_pointed 20 = .ok (.iconst 0, 1) := by decide +kernel
theorem d_X2_pointed_21 : decode b_X2_pointed 21 = .ok (.invokevirtual 199, 3) := by decide +kernel
theorem d_X2_pointed_24 : decode b_X2_pointed 24 = .ok (.aload_n 1, 1) := by decide +kernel
theorem d_X2_pointed_25 : decode b_X2_pointed 25 = .ok (.iconst 3, 1) := by decide +kernel
theorem d_X2_pointed_26 : decode b_X2_pointed 26 = .ok (.putfield 149, 3) := by decide +kernel
theorem d_X2_pointed_29 : decode b_X2_pointed 29 = .ok (.aload_n 1, 1) := by decide +kernel
theorem d_X2_pointed_30 : decode b_X2_pointed 30 = .ok (.aload_n 0, 1) := by decide +kernel
theorem d_X2_pointed_31 : decode b_X2_pointed 31 = .ok (.iload_n 2, 1) := by decide +kernel
theorem d_X2_pointed_32 : decode b_X2_pointed 32 = .ok (.invokevirtual 278, 3) := by decide +kernel
theorem d_X2_pointed_35 : decode b_X2_pointed 35 = .ok (.putfield 152, 3) := by decide +kernel
theorem d_X2_pointed_38 : decode b_X2_pointed 38 = .ok (.return_, 1) := by decide +kernel
theorem d_X2_pop_0 : decode b_X2_pop 0 = .ok (.aload_n 0, 1) := by decide +kernel
theorem d_X2_pop_1 : decode b_X2_pop 1 = .ok (.aload_n 0, 1) := by decide +kernel
theorem d_X2_pop_2 : decode b_X2_pop 2 = .ok (.invokevirtual 104, 3) := by decide +kernel
theorem d_X2_pop_5 : decode b_X2_pop 5 = .ok (.invokevirtual 112, 3) := by decide +kernel
theorem d_X2_pop_8 : decode b_X2_pop 8 = .ok (.astore_n 1, 1) := by decide +kernel
theorem d_X2_pop_9 : decode b_X2_pop 9 = .ok (.aload_n 0, 1) := by decide +kernel
theorem d_X2_pop_10 : decode b_X2_pop 10 = .ok (.dup, 1) := by decide +kernel
theorem d_X2_pop_11 : decode b_X2_pop 11 = .ok (.getfield 22, 3) := by decide +kernel
theorem d_X2_pop_14 : decode b_X2_pop 14 = .ok (.aload_n 0, 1) := by decide +kernel
theorem d_X2_pop_15 : decode b_X2_pop 15 = .ok (.getfield 22, 3) := by decide +kernel
theorem d_X2_pop_18 : decode b_X2_pop 18 = .ok (.ifCond .le 7, 3) := by decide +kernel
theorem d_X2_pop_21 : decode b_X2_pop 21 = .ok (.iconst 1, 1) := by decide +kernel
theorem d_X2_pop_22 : decode b_X2_pop 22 = .ok (.goto 4, 3) := by decide +kernel
theorem d_X2_pop_25 : decode b_X2_pop 25 = .ok (.iconst 0, 1) := by decide +kernel
theorem d_X2_pop_26 : decode b_X2_pop 26 = .ok (.isub, 1) := by decide +kernel
theorem d_X2_pop_27 : decode b_X2_pop 27 = .ok (.putfield 22, 3) := by decide +kernel
theorem d_X2_pop_30 : decode b_X2_pop 30 = .ok (.aload_n 1, 1) := by decide +kernel
theorem d_X2_pop_31 : decode b_X2_pop 31 = .ok (.areturn, 1) := by decide +kernel
theorem d_X2_push_0 : decode b_X2_push 0 = .ok (.aload_n 0, 1) := by decide +kernel
theorem d_X2_push_1 : decode b_X2_push 1 = .ok (.getfield 22, 3) := by decide +kernel
theorem d_X2_push_4 : decode b_X2_push 4 = .ok (.ifCond .lt 27, 3) := by decide +kernel
theorem d_X2_push_7 : decode b_X2_push 7 = .ok (.aload_n 0, 1) := by decide +kernel
theorem d_X2_push_8 : decode b_X2_push 8 = .ok (.getfield 22, 3) := by decide +kernel
theorem d_X2_push_11 : decode b_X2_push 11 = .ok (.aload_n 0, 1) := by decide +kernel
theorem d_X2_push_12 : decode b_X2_push 12 = .ok (.getfield 13, 3) := by decide +kernel
theorem d_X2_push_15 : decode b_X2_push 15 = .ok (.arraylength, 1) := by decide +kernel
theorem d_X2_push_16 : decode b_X2_push 16 = .ok (.if_icmp .ge 15, 3) := by decide +kernel
theorem d_X2_push_19 : decode b_X2_push 19 = .ok (.aload_n 0, 1) := by decide +kernel
theorem d_X2_push_20 : decode b_X2_push 20 = .ok (.getfield 13, 3) := by decide +kernel
theorem d_X2_push_23 : decode b_X2_push 23 = .ok (.aload_n 0, 1) := by decide +kernel
theorem d_X2_push_24 : decode b_X2_push 24 = .ok (.getfield 22, 3) := by decide +kernel
theorem d_X2_push_27 : decode b_X2_push 27 = .ok (.aaload, 1) := by decide +kernel
theorem d_X2_push_28 : decode b_X2_push 28 = .ok (.goto 7, 3) := by decide +kernel
theorem d_X2_push_31 : decode b_X2_push 31 = .ok (.aload_n 0, 1) := by decide +kernel
theorem d_X2_push_32 : decode b_X2_push 32 = .ok (.getfield 18, 3) := by decide +kernel
theorem d_X2_push_35 : decode b_X2_push 35 = .ok (.astore_n 1, 1) := by decide +kernel
theorem d_X2_push_36 : decode b_X2_push 36 = .ok (.aload_n 1, 1) := by decide +kernel
theorem d_X2_push_37 : decode b_X2_push 37 = .ok (.aload_n 0, 1) := by decide +kernel
theorem d_X2_push_38 : decode b_X2_push 38 = .ok (.getfield 46, 3) := by decide +kernel
theorem d_X2_push_41 : decode b_X2_push 41 = .ok (.getfield 137, 3) := by decide +kernel
theorem d_X2_push_44 : decode b_X2_push 44 = .ok (.invokevirtual 142, 3) := by decide +kernel
theorem d_X2_push_47 : decode b_X2_push 47 = .ok (.aload_n 0, 1) := by decide +kernel
theorem d_X2_push_48 : decode b_X2_push 48 = .ok (.dup, 1) := by decide +kernel
theorem d_X2_push_49 : decode b_X2_push 49 = .ok (.getfield 22, 3) := by decide +kernel
theorem d_X2_push_52 : decode b_X2_push 52 = .ok (.iconst 1, 1) := by decide +kernel
theorem d_X2_push_53 : decode b_X2_push 53 = .ok (.iadd, 1) := by decide +kernel
theorem d_X2_push_54 : decode b_X2_push 54 = .ok (.putfield 22, 3) := by decide +kernel
theorem d_X2_push_57 : decode b_X2_push 57 = .ok (.aload_n 1, 1) := by decide +kernel
theorem d_X2_push_58 : decode b_X2_push 58 = .ok (.areturn, 1) := by decide +kernel
theorem d_X2_raise_0 : decode b_X2_raise 0 = .ok (.aload_n 1, 1) := by decide +kernel
theorem d_X2_raise_1 : decode b_X2_raise 1 = .ok (.iload_n 2, 1) := by decide +kernel
theorem d_X2_raise_2 : decode b_X2_raise 2 = .ok (.putfield 161, 3) := by decide +kernel
theorem d_X2_raise_5 : decode b_X2_raise 5 = .ok (.iload_n 2, 1) := by decide +kernel
theorem d_X2_raise_6 : decode b_X2_raise 6 = .ok (.bipush 60, 2) := by decide +kernel
theorem d_X2_raise_8 : decode b_X2_raise 8 = .ok (.if_icmp .le 12, 3) := by decide +kernel
theorem d_X2_raise_11 : decode b_X2_raise 11 = .ok (.aload_n 0, 1) := by decide +kernel
theorem d_X2_raise_12 : decode b_X2_raise 12 = .ok (.getfield 37, 3) := by decide +kernel
theorem d_X2_raise_15 : decode b_X2_raise 15 = .ok (.iconst 4, 1) := by decide +kernel
theorem d_X2_raise_16 : decode b_X2_raise 16 = .ok (.iload_n 3, 1) := by decide +kernel
theorem d_X2_raise_17 : decode b_X2_raise 17 = .ok (.invokevirtual 164, 3) := by decide +kernel
theorem d_X2_raise_20 : decode b_X2_raise 20 = .ok (.return_, 1) := by decide +kernel
theorem d_X2_refuse_0 : decode b_X2_refuse 0 = .ok (.aload_n 0, 1) := by decide +kernel
theorem d_X2_refuse_1 : decode b_X2_refuse 1 = .ok (.getfield 37, 3) := by decide +kernel
theorem d_X2_refuse_4 : decode b_X2_refuse 4 = .ok (.iconst 2, 1) := by decide +kernel
theorem d_X2_refuse_5 : decode b_X2_refuse 5 = .ok (.iload_n 1, 1) := by decide +kernel
theorem d_X2_refuse_6 : decode b_X2_refuse 6 = .ok (.invokevirtual 164, 3) := by decide +kernel
theorem d_X2_refuse_9 : decode b_X2_refuse 9 = .ok (.return_, 1) := by decide +kernel
theorem d_X2_step_0 : decode b_X2_step 0 = .ok (.aload_n 1, 1) := by decide +kernel
theorem d_X2_step_1 : decode b_X2_step 1 = .ok (.invokevirtual 145, 3) := by decide +kernel
theorem d_X2_step_4 : decode b_X2_step 4 = .ok (.ifCond .ne 8, 3) := by decide +kernel
theorem d_X2_step_7 : decode b_X2_step 7 = .ok (.aload_n 0, 1) := by decide +kernel
theorem d_X2_step_8 : decode b_X2_step 8 = .ok (.iload_n 2, 1) := by decide +kernel
theorem d_X2_step_9 : decode b_X2_step 9 = .ok (.invokevirtual 219, 3) := by decide +kernel
theorem d_X2_step_12 : decode b_X2_step 12 = .ok (.aload_n 0, 1) := by decide +kernel
theorem d_X2_step_13 : decode b_X2_step 13 = .ok (.iload_n 2, 1) := by decide +kernel
theorem d_X2_step_14 : decode b_X2_step 14 = .ok (.invokevirtual 285, 3) := by decide +kernel
theorem d_X2_step_17 : decode b_X2_step 17 = .ok (.bipush 61, 2) := by decide +kernel
theorem d_X2_step_19 : decode b_X2_step 19 = .ok (.if_icmp .ne 7, 3) := by decide +kernel
theorem d_X2_step_22 : decode b_X2_step 22 = .ok (.iconst 1, 1) := by decide +kernel
theorem d_X2_step_23 : decode b_X2_step 23 = .ok (.goto 4, 3) := by decide +kernel
theorem d_X2_step_26 : decode b_X2_step 26 = .ok (.iconst (-1), 1) := by decide +kernel
theorem d_X2_step_27 : decode b_X2_step 27 = .ok (.istore 4, 2) := by decide +kernel
theorem d_X2_step_29 : decode b_X2_step 29 = .ok (.iload_n 3, 1) := by decide +kernel
theorem d_X2_step_30 : decode b_X2_step 30 = .ok (.ifCond .eq 8, 3) := by decide +kernel
theorem d_X2_step_33 : decode b_X2_step 33 = .ok (.iload 4, 2) := by decide +kernel
theorem d_X2_step_35 : decode b_X2_step 35 = .ok (.goto 4, 3) := by decide +kernel
theorem d_X2_step_38 : decode b_X2_step 38 = .ok (.iconst 0, 1) := by decide +kernel
theorem d_X2_step_39 : decode b_X2_step 39 = .ok (.istore 5, 2) := by decide +kernel
theorem d_X2_step_41 : decode b_X2_step 41 = .ok (.aload_n 1, 1) := by decide +kernel
theorem d_X2_step_42 : decode b_X2_step 42 = .ok (.getfield 149, 3) := by decide +kernel
theorem d_X2_step_45 : decode b_X2_step 45 = .ok (.iconst 3, 1) := by decide +kernel
theorem d_X2_step_46 : decode b_X2_step 46 = .ok (.if_icmp .ne 25, 3) := by decide +kernel
theorem d_X2_step_49 : decode b_X2_step 49 = .ok (.aload_n 0, 1) := by decide +kernel
theorem d_X2_step_50 : decode b_X2_step 50 = .ok (.getfield 46, 3) := by decide +kernel
theorem d_X2_step_53 : decode b_X2_step 53 = .ok (.bipush 20, 2) := by decide +kernel
theorem d_X2_step_55 : decode b_X2_step 55 = .ok (.aload_n 0, 1) := by decide +kernel
theorem d_X2_step_56 : decode b_X2_step 56 = .ok (.iload_n 2, 1) := by decide +kernel
theorem d_X2_step_57 : decode b_X2_step 57 = .ok (.invokevirtual 278, 3) := by decide +kernel
theorem d_X2_step_60 : decode b_X2_step 60 = .ok (.iload 4, 2) := by decide +kernel
theorem d_X2_step_62 : decode b_X2_step 62 = .ok (.iload 5, 2) := by decide +kernel
theorem d_X2_step_64 : decode b_X2_step 64 = .ok (.invokevirtual 155, 3) := by decide +kernel
theorem d_X2_step_67 : decode b_X2_step 67 = .ok (.pop, 1) := by decide +kernel
theorem d_X2_step_68 : decode b_X2_step 68 = .ok (.goto 34, 3) := by decide +kernel
theorem d_X2_step_71 : decode b_X2_step 71 = .ok (.aload_n 0, 1) := by decide +kernel
theorem d_X2_step_72 : decode b_X2_step 72 = .ok (.getfield 46, 3) := by decide +kernel
theorem d_X2_step_75 : decode b_X2_step 75 = .ok (.aload_n 1, 1) := by decide +kernel
theorem d_X2_step_76 : decode b_X2_step 76 = .ok (.getfield 149, 3) := by decide +kernel
theorem d_X2_step_79 : decode b_X2_step 79 = .ok (.iconst 1, 1) := by decide +kernel
theorem d_X2_step_80 : decode b_X2_step 80 = .ok (.if_icmp .ne 8, 3) := by decide +kernel
theorem d_X2_step_83 : decode b_X2_step 83 = .ok (.bipush 10, 2) := by decide +kernel
theorem d_X2_step_85 : decode b_X2_step 85 = .ok (.goto 5, 3) := by decide +kernel
theorem d_X2_step_88 : decode b_X2_step 88 = .ok (.bipush 7, 2) := by decide +kernel
theorem d_X2_step_90 : decode b_X2_step 90 = .ok (.aload_n 1, 1) := by decide +kernel
theorem d_X2_step_91 : decode b_X2_step 91 = .ok (.getfield 159, 3) := by decide +kernel
theorem d_X2_step_94 : decode b_X2_step 94 = .ok (.iload 4, 2) := by decide +kernel
theorem d_X2_step_96 : decode b_X2_step 96 = .ok (.iload 5, 2) := by decide +kernel
theorem d_X2_step_98 : decode b_X2_step 98 = .ok (.invokevirtual 155, 3) := by decide +kernel
theorem d_X2_step_101 : decode b_X2_step 101 = .ok (.pop, 1) := by decide +kernel
theorem d_X2_step_102 : decode b_X2_step 102 = .ok (.aload_n 1, 1) := by decide +kernel
theorem d_X2_step_103 : decode b_X2_step 103 = .ok (.aload_n 1, 1) := by decide +kernel
theorem d_X2_step_104 : decode b_X2_step 104 = .ok (.getfield 233, 3) := by decide +kernel
theorem d_X2_step_107 : decode b_X2_step 107 = .ok (.iconst 0, 1) := by decide +kernel
theorem d_X2_step_108 : decode b_X2_step 108 = .ok (.invokevirtual 199, 3) := by decide +kernel
theorem d_X2_step_111 : decode b_X2_step 111 = .ok (.aload_n 0, 1) := by decide +kernel
theorem d_X2_step_112 : decode b_X2_step 112 = .ok (.aload_n 1, 1) := by decide +kernel
theorem d_X2_step_113 : decode b_X2_step 113 = .ok (.iconst 1, 1) := by decide +kernel
theorem d_X2_step_114 : decode b_X2_step 114 = .ok (.aload_n 1, 1) := by decide +kernel
theorem d_X2_step_115 : decode b_X2_step 115 = .ok (.getfield 161, 3) := by decide +kernel
theorem d_X2_step_118 : decode b_X2_step 118 = .ok (.iadd, 1) := by decide +kernel
theorem d_X2_step_119 : decode b_X2_step 119 = .ok (.iload_n 2, 1) := by decide +kernel
theorem d_X2_step_120 : decode b_X2_step 120 = .ok (.invokevirtual 281, 3) := by decide +kernel
theorem d_X2_step_123 : decode b_X2_step 123 = .ok (.return_, 1) := by decide +kernel
theorem d_X2_string_0 : decode b_X2_string 0 = .ok (.aload_n 0, 1) := by decide +kernel
theorem d_X2_string_1 : decode b_X2_string 1 = .ok (.getfield 36, 3) := by decide +kernel
theorem d_X2_string_4 : decode b_X2_string 4 = .ok (.iload_n 1, 1) := by decide +kernel
theorem d_X2_string_5 : decode b_X2_string 5 = .ok (.invokevirtual 183, 3) := by decide +kernel
theorem d_X2_string_8 : decode b_X2_string 8 = .ok (.istore_n 2, 1) := by decide +kernel
theorem d_X2_string_9 : decode b_X2_string 9 = .ok (.aload_n 0, 1) := by decide +kernel
theorem d_X2_string_10 : decode b_X2_string 10 = .ok (.getfield 37, 3) := by decide +kernel
theorem d_X2_string_13 : decode b_X2_string 13 = .ok (.getfield 187, 3) := by decide +kernel
theorem d_X2_string_16 : decode b_X2_string 16 = .ok (.istore_n 3, 1) := by decide +kernel
theorem d_X2_string_17 : decode b_X2_string 17 = .ok (.iload_n 3, 1) := by decide +kernel
theorem d_X2_string_18 : decode b_X2_string 18 = .ok (.iload_n 2, 1) := by decide +kernel
theorem d_X2_string_19 : decode b_X2_string 19 = .ok (.iadd, 1) := by decide +kernel
theorem d_X2_string_20 : decode b_X2_string 20 = .ok (.iconst 1, 1) := by decide +kernel
theorem d_X2_string_21 : decode b_X2_string 21 = .ok (.iadd, 1) := by decide +kernel
theorem d_X2_string_22 : decode b_X2_string 22 = .ok (.sipush 16000, 3) := by decide +kernel
theorem d_X2_string_25 : decode b_X2_string 25 = .ok (.if_icmp .le 12, 3) := by decide +kernel
theorem d_X2_string_28 : decode b_X2_string 28 = .ok (.aload_n 0, 1) := by decide +kernel
theorem d_X2_string_29 : decode b_X2_string 29 = .ok (.getfield 37, 3) := by decide +kernel
theorem d_X2_string_32 : decode b_X2_string 32 = .ok (.iconst 4, 1) := by decide +kernel
theorem d_X2_string_33 : decode b_X2_string 33 = .ok (.iload_n 1, 1) := by decide +kernel
theorem d_X2_string_34 : decode b_X2_string 34 = .ok (.invokevirtual 164, 3) := by decide +kernel
theorem d_X2_string_37 : decode b_X2_string 37 = .ok (.aload_n 0, 1) := by decide +kernel
theorem d_X2_string_38 : decode b_X2_string 38 = .ok (.getfield 37, 3) := by decide +kernel
theorem d_X2_string_41 : decode b_X2_string 41 = .ok (.dup, 1) := by decide +kernel
theorem d_X2_string_42 : decode b_X2_string 42 = .ok (.getfield 187, 3) := by decide +kernel
theorem d_X2_string_45 : decode b_X2_string 45 = .ok (.iload_n 2, 1) := by decide +kernel
theorem d_X2_string_46 : decode b_X2_string 46 = .ok (.iconst 1, 1) := by decide +kernel
theorem d_X2_string_47 : decode b_X2_string 47 = .ok (.iadd, 1) := by decide +kernel
theorem d_X2_string_48 : decode b_X2_string 48 = .ok (.iadd, 1) := by decide +kernel
theorem d_X2_string_49 : decode b_X2_string 49 = .ok (.putfield 187, 3) := by decide +kernel
theorem d_X2_string_52 : decode b_X2_string 52 = .ok (.iconst 0, 1) := by decide +kernel
theorem d_X2_string_53 : decode b_X2_string 53 = .ok (.istore 4, 2) := by decide +kernel
theorem d_X2_string_55 : decode b_X2_string 55 = .ok (.iload 4, 2) := by decide +kernel
theorem d_X2_string_57 : decode b_X2_string 57 = .ok (.iload_n 2, 1) := by decide +kernel
theorem d_X2_string_58 : decode b_X2_string 58 = .ok (.if_icmp .ge 34, 3) := by decide +kernel
theorem d_X2_string_61 : decode b_X2_string 61 = .ok (.aload_n 0, 1) := by decide +kernel
theorem d_X2_string_62 : decode b_X2_string 62 = .ok (.getfield 45, 3) := by decide +kernel
theorem d_X2_string_65 : decode b_X2_string 65 = .ok (.iload_n 3, 1) := by decide +kernel
theorem d_X2_string_66 : decode b_X2_string 66 = .ok (.iload 4, 2) := by decide +kernel
theorem d_X2_string_68 : decode b_X2_string 68 = .ok (.iadd, 1) := by decide +kernel
theorem d_X2_string_69 : decode b_X2_string 69 = .ok (.bipush (-2), 2) := by decide +kernel
theorem d_X2_string_71 : decode b_X2_string 71 = .ok (.aload_n 0, 1) := by decide +kernel
theorem d_X2_string_72 : decode b_X2_string 72 = .ok (.getfield 36, 3) := by decide +kernel
theorem d_X2_string_75 : decode b_X2_string 75 = .ok (.getfield 192, 3) := by decide +kernel
theorem d_X2_string_78 : decode b_X2_string 78 = .ok (.iload 4, 2) := by decide +kernel
theorem d_X2_string_80 : decode b_X2_string 80 = .ok (.invokestatic 56, 3) := by decide +kernel
theorem d_X2_string_83 : decode b_X2_string 83 = .ok (.invokevirtual 195, 3) := by decide +kernel
theorem d_X2_string_86 : decode b_X2_string 86 = .ok (.iinc 4 1, 3) := by decide +kernel
theorem d_X2_string_89 : decode b_X2_string 89 = .ok (.goto (-34), 3) := by decide +kernel
theorem d_X2_string_92 : decode b_X2_string 92 = .ok (.aload_n 0, 1) := by decide +kernel
theorem d_X2_string_93 : decode b_X2_string 93 = .ok (.invokevirtual 167, 3) := by decide +kernel
theorem d_X2_string_96 : decode b_X2_string 96 = .ok (.astore 4, 2) := by decide +kernel
theorem d_X2_string_98 : decode b_X2_string 98 = .ok (.aload 4, 2) := by decide +kernel
theorem d_X2_string_100 : decode b_X2_string 100 = .ok (.iconst 1, 1) := by decide +kernel
theorem d_X2_string_101 : decode b_X2_string 101 = .ok (.iconst 2, 1) := by decide +kernel
theorem d_X2_string_102 : decode b_X2_string 102 = .ok (.invokevirtual 199, 3) := by decide +kernel
theorem d_X2_string_105 : decode b_X2_string 105 = .ok (.aload 4, 2) := by decide +kernel
theorem d_X2_string_107 : decode b_X2_string 107 = .ok (.iconst (-1), 1) := by decide +kernel
theorem d_X2_string_108 : decode b_X2_string 108 = .ok (.putfield 202, 3) := by decide +kernel
theorem d_X2_string_111 : decode b_X2_string 111 = .ok (.aload 4, 2) := by decide +kernel
theorem d_X2_string_113 : decode b_X2_string 113 = .ok (.iload_n 3, 1) := by decide +kernel
theorem d_X2_string_114 : decode b_X2_string 114 = .ok (.putfield 176, 3) := by decide +kernel
theorem d_X2_string_117 : decode b_X2_string 117 = .ok (.aload_n 0, 1) := by decide +kernel
theorem d_X2_string_118 : decode b_X2_string 118 = .ok (.getfield 46, 3) := by decide +kernel
theorem d_X2_string_121 : decode b_X2_string 121 = .ok (.iconst 3, 1) := by decide +kernel
theorem d_X2_string_122 : decode b_X2_string 122 = .ok (.aload_n 0, 1) := by decide +kernel
theorem d_X2_string_123 : decode b_X2_string 123 = .ok (.getfield 45, 3) := by decide +kernel
theorem d_X2_string_126 : decode b_X2_string 126 = .ok (.getfield 205, 3) := by decide +kernel
theorem d_X2_string_129 : decode b_X2_string 129 = .ok (.iconst 1, 1) := by decide +kernel
theorem d_X2_string_130 : decode b_X2_string 130 = .ok (.iadd, 1) := by decide +kernel
theorem d_X2_string_131 : decode b_X2_string 131 = .ok (.iload_n 3, 1) := by decide +kernel
theorem d_X2_string_132 : decode b_X2_string 132 = .ok (.iconst 0, 1) := by decide +kernel
theorem d_X2_string_133 : decode b_X2_string 133 = .ok (.invokevirtual 155, 3) := by decide +kernel
theorem d_X2_string_136 : decode b_X2_string 136 = .ok (.pop, 1) := by decide +kernel
theorem d_X2_string_137 : decode b_X2_string 137 = .ok (.return_, 1) := by decide +kernel
theorem d_X2_take_0 : decode b_X2_take 0 = .ok (.aload_n 0, 1) := by decide +kernel
theorem d_X2_take_1 : decode b_X2_take 1 = .ok (.getfield 26, 3) := by decide +kernel
theorem d_X2_take_4 : decode b_X2_take 4 = .ok (.getfield 50, 3) := by decide +kernel
theorem d_X2_take_7 : decode b_X2_take 7 = .ok (.iload_n 1, 1) := by decide +kernel
theorem d_X2_take_8 : decode b_X2_take 8 = .ok (.invokestatic 56, 3) := by decide +kernel
theorem d_X2_take_11 : decode b_X2_take 11 = .ok (.istore_n 2, 1) := by decide +kernel
theorem d_X2_take_12 : decode b_X2_take 12 = .ok (.aload_n 0, 1) := by decide +kernel
theorem d_X2_take_13 : decode b_X2_take 13 = .ok (.getfield 26, 3) := by decide +kernel
theorem d_X2_take_16 : decode b_X2_take 16 = .ok (.getfield 60, 3) := by decide +kernel
theorem d_X2_take_19 : decode b_X2_take 19 = .ok (.iload_n 1, 1) := by decide +kernel
theorem d_X2_take_20 : decode b_X2_take 20 = .ok (.invokestatic 56, 3) := by decide +kernel
theorem d_X2_take_23 : decode b_X2_take 23 = .ok (.tableswitch 222 1 15 #[73, 81, 89, 97, 105, 112, 120, 128, 136, 144, 152, 160, 179, 192, 215], 73) := by decide +kernel
theorem d_X2_take_96 : decode b_X2_take 96 = .ok (.aload_n 0, 1) := by decide +kernel
theorem d_X2_take_97 : decode b_X2_take 97 = .ok (.iload_n 2, 1) := by decide +kernel
theorem d_X2_take_98 : decode b_X2_take 98 = .ok (.invokevirtual 63, 3) := by decide +kernel
theorem d_X2_take_101 : decode b_X2_take 101 = .ok (.goto 149, 3) := by decide +kernel
theorem d_X2_take_104 : decode b_X2_take 104 = .ok (.aload_n 0, 1) := by decide +kernel
theorem d_X2_take_105 : decode b_X2_take 105 = .ok (.iload_n 2, 1) := by decide +kernel
theorem d_X2_take_106 : decode b_X2_take 106 = .ok (.invokevirtual 67, 3) := by decide +kernel
theorem d_X2_take_109 : decode b_X2_take 109 = .ok (.goto 141, 3) := by decide +kernel
theorem d_X2_take_112 : decode b_X2_take 112 = .ok (.aload_n 0, 1) := by decide +kernel
theorem d_X2_take_113 : decode b_X2_take 113 = .ok (.iload_n 2, 1) := by decide +kernel
theorem d_X2_take_114 : decode b_X2_take 114 = .ok (.invokevirtual 70, 3) := by decide +kernel
theorem d_X2_take_117 : decode b_X2_take 117 = .ok (.goto 133, 3) := by decide +kernel
theorem d_X2_take_120 : decode b_X2_take 120 = .ok (.aload_n 0, 1) := by decide +kernel
theorem d_X2_take_121 : decode b_X2_take 121 = .ok (.iload_n 2, 1) := by decide +kernel
theorem d_X2_take_122 : decode b_X2_take 122 = .ok (.invokevirtual 73, 3) := by decide +kernel
theorem d_X2_take_125 : decode b_X2_take 125 = .ok (.goto 125, 3) := by decide +kernel
theorem d_X2_take_128 : decode b_X2_take 128 = .ok (.aload_n 0, 1) := by decide +kernel
theorem d_X2_take_129 : decode b_X2_take 129 = .ok (.invokevirtual 76, 3) := by decide +kernel
theorem d_X2_take_132 : decode b_X2_take 132 = .ok (.goto 118, 3) := by decide +kernel
theorem d_X2_take_135 : decode b_X2_take 135 = .ok (.aload_n 0, 1) := by decide +kernel
theorem d_X2_take_136 : decode b_X2_take 136 = .ok (.iload_n 2, 1) := by decide +kernel
theorem d_X2_take_137 : decode b_X2_take 137 = .ok (.invokevirtual 79, 3) := by decide +kernel
theorem d_X2_take_140 : decode b_X2_take 140 = .ok (.goto 110, 3) := by decide +kernel
theorem d_X2_take_143 : decode b_X2_take 143 = .ok (.aload_n 0, 1) := by decide +kernel
theorem d_X2_take_144 : decode b_X2_take 144 = .ok (.iload_n 2, 1) := by decide +kernel
theorem d_X2_take_145 : decode b_X2_take 145 = .ok (.invokevirtual 82, 3) := by decide +kernel
theorem d_X2_take_148 : decode b_X2_take 148 = .ok (.goto 102, 3) := by decide +kernel
theorem d_X2_take_151 : decode b_X2_take 151 = .ok (.aload_n 0, 1) := by decide +kernel
theorem d_X2_take_152 : decode b_X2_take 152 = .ok (.iload_n 2, 1) := by decide +kernel
theorem d_X2_take_153 : decode b_X2_take 153 = .ok (.invokevirtual 85, 3) := by decide +kernel
theorem d_X2_take_156 : decode b_X2_take 156 = .ok (.goto 94, 3) := by decide +kernel
theorem d_X2_take_159 : decode b_X2_take 159 = .ok (.aload_n 0, 1) := by decide +kernel
theorem d_X2_take_160 : decode b_X2_take 160 = .ok (.iload_n 2, 1) := by decide +kernel
theorem d_X2_take_161 : decode b_X2_take 161 = .ok (.invokevirtual 88, 3) := by decide +kernel
theorem d_X2_take_164 : decode b_X2_take 164 = .ok (.goto 86, 3) := by decide +kernel
theorem d_X2_take_167 : decode b_X2_take 167 = .ok (.aload_n 0, 1) := by decide +kernel
theorem d_X2_take_168 : decode b_X2_take 168 = .ok (.iload_n 2, 1) := by decide +kernel
theorem d_X2_take_169 : decode b_X2_take 169 = .ok (.invokevirtual 91, 3) := by decide +kernel
theorem d_X2_take_172 : decode b_X2_take 172 = .ok (.goto 78, 3) := by decide +kernel
theorem d_X2_take_175 : decode b_X2_take 175 = .ok (.aload_n 0, 1) := by decide +kernel
theorem d_X2_take_176 : decode b_X2_take 176 = .ok (.iload_n 2, 1) := by decide +kernel
theorem d_X2_take_177 : decode b_X2_take 177 = .ok (.invokevirtual 94, 3) := by decide +kernel
theorem d_X2_take_180 : decode b_X2_take 180 = .ok (.goto 70, 3) := by decide +kernel
theorem d_X2_take_183 : decode b_X2_take 183 = .ok (.aload_n 0, 1) := by decide +kernel
theorem d_X2_take_184 : decode b_X2_take 184 = .ok (.iload_n 2, 1) := by decide +kernel
theorem d_X2_take_185 : decode b_X2_take 185 = .ok (.aload_n 0, 1) := by decide +kernel
theorem d_X2_take_186 : decode b_X2_take 186 = .ok (.getfield 26, 3) := by decide +kernel
theorem d_X2_take_189 : decode b_X2_take 189 = .ok (.getfield 97, 3) := by decide +kernel
theorem d_X2_take_192 : decode b_X2_take 192 = .ok (.iload_n 1, 1) := by decide +kernel
theorem d_X2_take_193 : decode b_X2_take 193 = .ok (.invokestatic 56, 3) := by decide +kernel
theorem d_X2_take_196 : decode b_X2_take 196 = .ok (.invokevirtual 100, 3) := by decide +kernel
theorem d_X2_take_199 : decode b_X2_take 199 = .ok (.goto 51, 3) := by decide +kernel
theorem d_X2_take_202 : decode b_X2_take 202 = .ok (.aload_n 0, 1) := by decide +kernel
theorem d_X2_take_203 : decode b_X2_take 203 = .ok (.aload_n 0, 1) := by decide +kernel
theorem d_X2_take_204 : decode b_X2_take 204 = .ok (.invokevirtual 104, 3) := by decide +kernel
theorem d_X2_take_207 : decode b_X2_take 207 = .ok (.iload_n 2, 1) := by decide +kernel
theorem d_X2_take_208 : decode b_X2_take 208 = .ok (.iconst 1, 1) := by decide +kernel
theorem d_X2_take_209 : decode b_X2_take 209 = .ok (.invokevirtual 108, 3) := by decide +kernel
theorem d_X2_take_212 : decode b_X2_take 212 = .ok (.goto 38, 3) := by decide +kernel
theorem d_X2_take_215 : decode b_X2_take 215 = .ok (.aload_n 0, 1) := by decide +kernel
theorem d_X2_take_216 : decode b_X2_take 216 = .ok (.invokevirtual 104, 3) := by decide +kernel
theorem d_X2_take_219 : decode b_X2_take 219 = .ok (.aload_n 0, 1) := by decide +kernel
theorem d_X2_take_220 : decode b_X2_take 220 = .ok (.aload_n 0, 1) := by decide +kernel
theorem d_X2_take_221 : decode b_X2_take 221 = .ok (.aload_n 0, 1) := by decide +kernel
theorem d_X2_take_222 : decode b_X2_take 222 = .ok (.invokevirtual 104, 3) := by decide +kernel
theorem d_X2_take_225 : decode b_X2_take 225 = .ok (.invokevirtual 112, 3) := by decide +kernel
theorem d_X2_take_228 : decode b_X2_take 228 = .ok (.iconst (-1), 1) := by decide +kernel
theorem d_X2_take_229 : decode b_X2_take 229 = .ok (.invokevirtual 116, 3) := by decide +kernel
theorem d_X2_take_232 : decode b_X2_take 232 = .ok (.putfield 120, 3) := by decide +kernel
theorem d_X2_take_235 : decode b_X2_take 235 = .ok (.goto 15, 3) := by decide +kernel
theorem d_X2_take_238 : decode b_X2_take 238 = .ok (.aload_n 0, 1) := by decide +kernel
theorem d_X2_take_239 : decode b_X2_take 239 = .ok (.invokevirtual 123, 3) := by decide +kernel
theorem d_X2_take_242 : decode b_X2_take 242 = .ok (.goto 8, 3) := by decide +kernel
theorem d_X2_take_245 : decode b_X2_take 245 = .ok (.aload_n 0, 1) := by decide +kernel
theorem d_X2_take_246 : decode b_X2_take 246 = .ok (.iload_n 2, 1) := by decide +kernel
theorem d_X2_take_247 : decode b_X2_take 247 = .ok (.invokevirtual 126, 3) := by decide +kernel
theorem d_X2_take_250 : decode b_X2_take 250 = .ok (.return_, 1) := by decide +kernel
theorem d_X2_top_0 : decode b_X2_top 0 = .ok (.aload_n 0, 1) := by decide +kernel
theorem d_X2_top_1 : decode b_X2_top 1 = .ok (.getfield 22, 3) := by decide +kernel
theorem d_X2_top_4 : decode b_X2_top 4 = .ok (.ifCond .le 29, 3) := by decide +kernel
theorem d_X2_top_7 : decode b_X2_top 7 = .ok (.aload_n 0, 1) := by decide +kernel
theorem d_X2_top_8 : decode b_X2_top 8 = .ok (.getfield 22, 3) := by decide +kernel
theorem d_X2_top_11 : decode b_X2_top 11 = .ok (.aload_n 0, 1) := by decide +kernel
theorem d_X2_top_12 : decode b_X2_top 12 = .ok (.getfield 13, 3) := by decide +kernel
theorem d_X2_top_15 : decode b_X2_top 15 = .ok (.arraylength, 1) := by decide +kernel
theorem d_X2_top_16 : decode b_X2_top 16 = .ok (.if_icmp .gt 17, 3) := by decide +kernel
theorem d_X2_top_19 : decode b_X2_top 19 = .ok (.aload_n 0, 1) := by decide +kernel
theorem d_X2_top_20 : decode b_X2_top 20 = .ok (.getfield 13, 3) := by decide +kernel
theorem d_X2_top_23 : decode b_X2_top 23 = .ok (.aload_n 0, 1) := by decide +kernel
theorem d_X2_top_24 : decode b_X2_top 24 = .ok (.getfield 22, 3) := by decide +kernel
theorem d_X2_top_27 : decode b_X2_top 27 = .ok (.iconst 1, 1) := by decide +kernel
theorem d_X2_top_28 : decode b_X2_top 28 = .ok (.isub, 1) := by decide +kernel
theorem d_X2_top_29 : decode b_X2_top 29 = .ok (.aaload, 1) := by decide +kernel
theorem d_X2_top_30 : decode b_X2_top 30 = .ok (.goto 7, 3) := by decide +kernel
theorem d_X2_top_33 : decode b_X2_top 33 = .ok (.aload_n 0, 1) := by decide +kernel
theorem d_X2_top_34 : decode b_X2_top 34 = .ok (.getfield 18, 3) := by decide +kernel
theorem d_X2_top_37 : decode b_X2_top 37 = .ok (.areturn, 1) := by decide +kernel
theorem d_X2_typeOf_0 : decode b_X2_typeOf 0 = .ok (.aload_n 1, 1) := by decide +kernel
theorem d_X2_typeOf_1 : decode b_X2_typeOf 1 = .ok (.getfield 233, 3) := by decide +kernel
theorem d_X2_typeOf_4 : decode b_X2_typeOf 4 = .ok (.iconst (-1), 1) := by decide +kernel
theorem d_X2_typeOf_5 : decode b_X2_typeOf 5 = .ok (.if_icmp .eq 11, 3) := by decide +kernel
theorem d_X2_typeOf_8 : decode b_X2_typeOf 8 = .ok (.aload_n 2, 1) := by decide +kernel
theorem d_X2_typeOf_9 : decode b_X2_typeOf 9 = .ok (.getfield 233, 3) := by decide +kernel
theorem d_X2_typeOf_12 : decode b_X2_typeOf 12 = .ok (.iconst (-1), 1) := by decide +kernel
theorem d_X2_typeOf_13 : decode b_X2_typeOf 13 = .ok (.if_icmp .ne 6, 3) := by decide +kernel
theorem d_X2_typeOf_16 : decode b_X2_typeOf 16 = .ok (.bipush (-2), 2) := by decide +kernel
theorem d_X2_typeOf_18 : decode b_X2_typeOf 18 = .ok (.ireturn, 1) := by decide +kernel
theorem d_X2_typeOf_19 : decode b_X2_typeOf 19 = .ok (.aload_n 1, 1) := by decide +kernel
theorem d_X2_typeOf_20 : decode b_X2_typeOf 20 = .ok (.getfield 233, 3) := by decide +kernel
theorem d_X2_typeOf_23 : decode b_X2_typeOf 23 = .ok (.aload_n 2, 1) := by decide +kernel
theorem d_X2_typeOf_24 : decode b_X2_typeOf 24 = .ok (.getfield 233, 3) := by decide +kernel
theorem d_X2_typeOf_27 : decode b_X2_typeOf 27 = .ok (.if_icmp .ne 7, 3) := by decide +kernel
theorem d_X2_typeOf_30 : decode b_X2_typeOf 30 = .ok (.iconst 1, 1) := by decide +kernel
theorem d_X2_typeOf_31 : decode b_X2_typeOf 31 = .ok (.goto 4, 3) := by decide +kernel
theorem d_X2_typeOf_34 : decode b_X2_typeOf 34 = .ok (.iconst 0, 1) := by decide +kernel
theorem d_X2_typeOf_35 : decode b_X2_typeOf 35 = .ok (.istore_n 3, 1) := by decide +kernel
theorem d_X2_typeOf_36 : decode b_X2_typeOf 36 = .ok (.iload_n 0, 1) := by decide +kernel
theorem d_X2_typeOf_37 : decode b_X2_typeOf 37 = .ok (.tableswitch 177 43 58 #[121, 152, 177, 177, 177, 177, 177, 177, 81, 81, 110, 110, 110, 110, 79, 79], 79) := by decide +kernel
theorem d_X2_typeOf_116 : decode b_X2_typeOf 116 = .ok (.iconst 0, 1) := by decide +kernel
theorem d_X2_typeOf_117 : decode b_X2_typeOf 117 = .ok (.ireturn, 1) := by decide +kernel
theorem d_X2_typeOf_118 : decode b_X2_typeOf 118 = .ok (.aload_n 1, 1) := by decide +kernel
theorem d_X2_typeOf_119 : decode b_X2_typeOf 119 = .ok (.aload_n 2, 1) := by decide +kernel
theorem d_X2_typeOf_120 : decode b_X2_typeOf 120 = .ok (.getfield 233, 3) := by decide +kernel
theorem d_X2_typeOf_123 : decode b_X2_typeOf 123 = .ok (.invokevirtual 271, 3) := by decide +kernel
theorem d_X2_typeOf_126 : decode b_X2_typeOf 126 = .ok (.ifCond .ne 14, 3) := by decide +kernel
theorem d_X2_typeOf_129 : decode b_X2_typeOf 129 = .ok (.aload_n 2, 1) := by decide +kernel
theorem d_X2_typeOf_130 : decode b_X2_typeOf 130 = .ok (.aload_n 1, 1) := by decide +kernel
theorem d_X2_typeOf_131 : decode b_X2_typeOf 131 = .ok (.getfield 233, 3) := by decide +kernel
theorem d_X2_typeOf_134 : decode b_X2_typeOf 134 = .ok (.invokevirtual 271, 3) := by decide +kernel
theorem d_X2_typeOf_137 : decode b_X2_typeOf 137 = .ok (.ifCond .eq 7, 3) := by decide +kernel
theorem d_X2_typeOf_140 : decode b_X2_typeOf 140 = .ok (.iconst 0, 1) := by decide +kernel
theorem d_X2_typeOf_141 : decode b_X2_typeOf 141 = .ok (.goto 5, 3) := by decide +kernel
theorem d_X2_typeOf_144 : decode b_X2_typeOf 144 = .ok (.bipush (-2), 2) := by decide +kernel
theorem d_X2_typeOf_146 : decode b_X2_typeOf 146 = .ok (.ireturn, 1) := by decide +kernel
theorem d_X2_typeOf_147 : decode b_X2_typeOf 147 = .ok (.iload_n 3, 1) := by decide +kernel
theorem d_X2_typeOf_148 : decode b_X2_typeOf 148 = .ok (.ifCond .eq 7, 3) := by decide +kernel
theorem d_X2_typeOf_151 : decode b_X2_typeOf 151 = .ok (.iconst 0, 1) := by decide +kernel
theorem d_X2_typeOf_152 : decode b_X2_typeOf 152 = .ok (.goto 5, 3) := by decide +kernel
theorem d_X2_typeOf_155 : decode b_X2_typeOf 155 = .ok (.bipush (-2), 2) := by decide +kernel
theorem d_X2_typeOf_157 : decode b_X2_typeOf 157 = .ok (.ireturn, 1) := by decide +kernel
theorem d_X2_typeOf_158 : decode b_X2_typeOf 158 = .ok (.aload_n 2, 1) := by decide +kernel
theorem d_X2_typeOf_159 : decode b_X2_typeOf 159 = .ok (.getfield 233, 3) := by decide +kernel
theorem d_X2_typeOf_162 : decode b_X2_typeOf 162 = .ok (.ifCond .ne 10, 3) := by decide +kernel
theorem d_X2_typeOf_165 : decode b_X2_typeOf 165 = .ok (.aload_n 1, 1) := by decide +kernel
theorem d_X2_typeOf_166 : decode b_X2_typeOf 166 = .ok (.getfield 233, 3) := by decide +kernel
theorem d_X2_typeOf_169 : decode b_X2_typeOf 169 = .ok (.goto 19, 3) := by decide +kernel
theorem d_X2_typeOf_172 : decode b_X2_typeOf 172 = .ok (.aload_n 1, 1) := by decide +kernel
theorem d_X2_typeOf_173 : decode b_X2_typeOf 173 = .ok (.getfield 233, 3) := by decide +kernel
theorem d_X2_typeOf_176 : decode b_X2_typeOf 176 = .ok (.ifCond .ne 10, 3) := by decide +kernel
theorem d_X2_typeOf_179 : decode b_X2_typeOf 179 = .ok (.aload_n 2, 1) := by decide +kernel
theorem d_X2_typeOf_180 : decode b_X2_typeOf 180 = .ok (.getfield 233, 3) := by decide +kernel
theorem d_X2_typeOf_183 : decode b_X2_typeOf 183 = .ok (.goto 5, 3) := by decide +kernel
theorem d_X2_typeOf_186 : decode b_X2_typeOf 186 = .ok (.bipush (-2), 2) := by decide +kernel
theorem d_X2_typeOf_188 : decode b_X2_typeOf 188 = .ok (.ireturn, 1) := by decide +kernel
theorem d_X2_typeOf_189 : decode b_X2_typeOf 189 = .ok (.aload_n 2, 1) := by decide +kernel
theorem d_X2_typeOf_190 : decode b_X2_typeOf 190 = .ok (.getfield 233, 3) := by decide +kernel
theorem d_X2_typeOf_193 : decode b_X2_typeOf 193 = .ok (.ifCond .ne 10, 3) := by decide +kernel
theorem d_X2_typeOf_196 : decode b_X2_typeOf 196 = .ok (.aload_n 1, 1) := by decide +kernel
theorem d_X2_typeOf_197 : decode b_X2_typeOf 197 = .ok (.getfield 233, 3) := by decide +kernel
theorem d_X2_typeOf_200 : decode b_X2_typeOf 200 = .ok (.goto 13, 3) := by decide +kernel
theorem d_X2_typeOf_203 : decode b_X2_typeOf 203 = .ok (.iload_n 3, 1) := by decide +kernel
theorem d_X2_typeOf_204 : decode b_X2_typeOf 204 = .ok (.ifCond .eq 7, 3) := by decide +kernel
theorem d_X2_typeOf_207 : decode b_X2_typeOf 207 = .ok (.iconst 0, 1) := by decide +kernel
theorem d_X2_typeOf_208 : decode b_X2_typeOf 208 = .ok (.goto 5, 3) := by decide +kernel
theorem d_X2_typeOf_211 : decode b_X2_typeOf 211 = .ok (.bipush (-2), 2) := by decide +kernel
theorem d_X2_typeOf_213 : decode b_X2_typeOf 213 = .ok (.ireturn, 1) := by decide +kernel
theorem d_X2_typeOf_214 : decode b_X2_typeOf 214 = .ok (.iload_n 3, 1) := by decide +kernel
theorem d_X2_typeOf_215 : decode b_X2_typeOf 215 = .ok (.ifCond .eq 14, 3) := by decide +kernel
theorem d_X2_typeOf_218 : decode b_X2_typeOf 218 = .ok (.aload_n 1, 1) := by decide +kernel
theorem d_X2_typeOf_219 : decode b_X2_typeOf 219 = .ok (.getfield 233, 3) := by decide +kernel
theorem d_X2_typeOf_222 : decode b_X2_typeOf 222 = .ok (.ifCond .ne 7, 3) := by decide +kernel
theorem d_X2_typeOf_225 : decode b_X2_typeOf 225 = .ok (.iconst 0, 1) := by decide +kernel
theorem d_X2_typeOf_226 : decode b_X2_typeOf 226 = .ok (.goto 5, 3) := by decide +kernel
theorem d_X2_typeOf_229 : decode b_X2_typeOf 229 = .ok (.bipush (-2), 2) := by decide +kernel
theorem d_X2_typeOf_231 : decode b_X2_typeOf 231 = .ok (.ireturn, 1) := by decide +kernel
theorem d_X2_unary_0 : decode b_X2_unary 0 = .ok (.aload_n 0, 1) := by decide +kernel
theorem d_X2_unary_1 : decode b_X2_unary 1 = .ok (.iload_n 1, 1) := by decide +kernel
theorem d_X2_unary_2 : decode b_X2_unary 2 = .ok (.invokevirtual 285, 3) := by decide +kernel
theorem d_X2_unary_5 : decode b_X2_unary 5 = .ok (.istore_n 2, 1) := by decide +kernel
theorem d_X2_unary_6 : decode b_X2_unary 6 = .ok (.aload_n 0, 1) := by decide +kernel
theorem d_X2_unary_7 : decode b_X2_unary 7 = .ok (.invokevirtual 104, 3) := by decide +kernel
theorem d_X2_unary_10 : decode b_X2_unary 10 = .ok (.astore_n 3, 1) := by decide +kernel
theorem d_X2_unary_11 : decode b_X2_unary 11 = .ok (.iload_n 2, 1) := by decide +kernel
theorem d_X2_unary_12 : decode b_X2_unary 12 = .ok (.bipush 61, 2) := by decide +kernel
theorem d_X2_unary_14 : decode b_X2_unary 14 = .ok (.if_icmp .eq 9, 3) := by decide +kernel
theorem d_X2_unary_17 : decode b_X2_unary 17 = .ok (.iload_n 2, 1) := by decide +kernel
theorem d_X2_unary_18 : decode b_X2_unary 18 = .ok (.bipush 62, 2) := by decide +kernel
theorem d_X2_unary_20 : decode b_X2_unary 20 = .ok (.if_icmp .ne 11, 3) := by decide +kernel
theorem d_X2_unary_23 : decode b_X2_unary 23 = .ok (.aload_n 0, 1) := by decide +kernel
theorem d_X2_unary_24 : decode b_X2_unary 24 = .ok (.aload_n 3, 1) := by decide +kernel
theorem d_X2_unary_25 : decode b_X2_unary 25 = .ok (.iload_n 1, 1) := by decide +kernel
theorem d_X2_unary_26 : decode b_X2_unary 26 = .ok (.iconst 0, 1) := by decide +kernel
theorem d_X2_unary_27 : decode b_X2_unary 27 = .ok (.invokevirtual 108, 3) := by decide +kernel
theorem d_X2_unary_30 : decode b_X2_unary 30 = .ok (.return_, 1) := by decide +kernel
theorem d_X2_unary_31 : decode b_X2_unary 31 = .ok (.iload_n 2, 1) := by decide +kernel
theorem d_X2_unary_32 : decode b_X2_unary 32 = .ok (.bipush 48, 2) := by decide +kernel
theorem d_X2_unary_34 : decode b_X2_unary 34 = .ok (.if_icmp .ne 32, 3) := by decide +kernel
theorem d_X2_unary_37 : decode b_X2_unary 37 = .ok (.aload_n 3, 1) := by decide +kernel
theorem d_X2_unary_38 : decode b_X2_unary 38 = .ok (.invokevirtual 145, 3) := by decide +kernel
theorem d_X2_unary_41 : decode b_X2_unary 41 = .ok (.ifCond .eq 12, 3) := by decide +kernel
theorem d_X2_unary_44 : decode b_X2_unary 44 = .ok (.aload_n 3, 1) := by decide +kernel
theorem d_X2_unary_45 : decode b_X2_unary 45 = .ok (.getfield 233, 3) := by decide +kernel
theorem d_X2_unary_48 : decode b_X2_unary 48 = .ok (.bipush 9, 2) := by decide +kernel
theorem d_X2_unary_50 : decode b_X2_unary 50 = .ok (.if_icmp .lt 8, 3) := by decide +kernel
theorem d_X2_unary_53 : decode b_X2_unary 53 = .ok (.aload_n 0, 1) := by decide +kernel
theorem d_X2_unary_54 : decode b_X2_unary 54 = .ok (.iload_n 1, 1) := by decide +kernel
theorem d_X2_unary_55 : decode b_X2_unary 55 = .ok (.invokevirtual 219, 3) := by decide +kernel
theorem d_X2_unary_58 : decode b_X2_unary 58 = .ok (.aload_n 0, 1) := by decide +kernel
theorem d_X2_unary_59 : decode b_X2_unary 59 = .ok (.aload_n 3, 1) := by decide +kernel
theorem d_X2_unary_60 : decode b_X2_unary 60 = .ok (.invokevirtual 245, 3) := by decide +kernel
theorem d_X2_unary_63 : decode b_X2_unary 63 = .ok (.goto 33, 3) := by decide +kernel
theorem d_X2_unary_66 : decode b_X2_unary 66 = .ok (.iload_n 2, 1) := by decide +kernel
theorem d_X2_unary_67 : decode b_X2_unary 67 = .ok (.bipush 45, 2) := by decide +kernel
theorem d_X2_unary_69 : decode b_X2_unary 69 = .ok (.if_icmp .ne 16, 3) := by decide +kernel
theorem d_X2_unary_72 : decode b_X2_unary 72 = .ok (.aload_n 0, 1) := by decide +kernel
theorem d_X2_unary_73 : decode b_X2_unary 73 = .ok (.aload_n 0, 1) := by decide +kernel
theorem d_X2_unary_74 : decode b_X2_unary 74 = .ok (.aload_n 3, 1) := by decide +kernel
theorem d_X2_unary_75 : decode b_X2_unary 75 = .ok (.invokevirtual 112, 3) := by decide +kernel
theorem d_X2_unary_78 : decode b_X2_unary 78 = .ok (.iload_n 1, 1) := by decide +kernel
theorem d_X2_unary_79 : decode b_X2_unary 79 = .ok (.invokevirtual 328, 3) := by decide +kernel
theorem d_X2_unary_82 : decode b_X2_unary 82 = .ok (.goto 14, 3) := by decide +kernel
theorem d_X2_unary_85 : decode b_X2_unary 85 = .ok (.aload_n 0, 1) := by decide +kernel
theorem d_X2_unary_86 : decode b_X2_unary 86 = .ok (.aload_n 0, 1) := by decide +kernel
theorem d_X2_unary_87 : decode b_X2_unary 87 = .ok (.aload_n 3, 1) := by decide +kernel
theorem d_X2_unary_88 : decode b_X2_unary 88 = .ok (.invokevirtual 112, 3) := by decide +kernel
theorem d_X2_unary_91 : decode b_X2_unary 91 = .ok (.iload_n 2, 1) := by decide +kernel
theorem d_X2_unary_92 : decode b_X2_unary 92 = .ok (.iload_n 1, 1) := by decide +kernel
theorem d_X2_unary_93 : decode b_X2_unary 93 = .ok (.invokevirtual 331, 3) := by decide +kernel
theorem d_X2_unary_96 : decode b_X2_unary 96 = .ok (.aload_n 0, 1) := by decide +kernel
theorem d_X2_unary_97 : decode b_X2_unary 97 = .ok (.aload_n 3, 1) := by decide +kernel
theorem d_X2_unary_98 : decode b_X2_unary 98 = .ok (.iconst 1, 1) := by decide +kernel
theorem d_X2_unary_99 : decode b_X2_unary 99 = .ok (.aload_n 3, 1) := by decide +kernel
theorem d_X2_unary_100 : decode b_X2_unary 100 = .ok (.getfield 161, 3) := by decide +kernel
theorem d_X2_unary_103 : decode b_X2_unary 103 = .ok (.iadd, 1) := by decide +kernel
theorem d_X2_unary_104 : decode b_X2_unary 104 = .ok (.iload_n 1, 1) := by decide +kernel
theorem d_X2_unary_105 : decode b_X2_unary 105 = .ok (.invokevirtual 281, 3) := by decide +kernel
theorem d_X2_unary_108 : decode b_X2_unary 108 = .ok (.return_, 1) := by decide +kernel
theorem d_X2_unless_0 : decode b_X2_unless 0 = .ok (.aload_n 0, 1) := by decide +kernel
theorem d_X2_unless_1 : decode b_X2_unless 1 = .ok (.getfield 37, 3) := by decide +kernel
theorem d_X2_unless_4 : decode b_X2_unless 4 = .ok (.getfield 319, 3) := by decide +kernel
theorem d_X2_unless_7 : decode b_X2_unless 7 = .ok (.iconst 2, 1) := by decide +kernel
theorem d_X2_unless_8 : decode b_X2_unless 8 = .ok (.if_icmp .le 45, 3) := by decide +kernel
theorem d_X2_unless_11 : decode b_X2_unless 11 = .ok (.aload_n 1, 1) := by decide +kernel
theorem d_X2_unless_12 : decode b_X2_unless 12 = .ok (.invokevirtual 310, 3) := by decide +kernel
theorem d_X2_unless_15 : decode b_X2_unless 15 = .ok (.ifCond .eq 38, 3) := by decide +kernel
theorem d_X2_unless_18 : decode b_X2_unless 18 = .ok (.aload_n 0, 1) := by decide +kernel
theorem d_X2_unless_19 : decode b_X2_unless 19 = .ok (.getfield 46, 3) := by decide +kernel
theorem d_X2_unless_22 : decode b_X2_unless 22 = .ok (.aload_n 1, 1) := by decide +kernel
theorem d_X2_unless_23 : decode b_X2_unless 23 = .ok (.getfield 322, 3) := by decide +kernel
theorem d_X2_unless_26 : decode b_X2_unless 26 = .ok (.invokevirtual 325, 3) := by decide +kernel
theorem d_X2_unless_29 : decode b_X2_unless 29 = .ok (.aload_n 1, 1) := by decide +kernel
theorem d_X2_unless_30 : decode b_X2_unless 30 = .ok (.getfield 176, 3) := by decide +kernel
theorem d_X2_unless_33 : decode b_X2_unless 33 = .ok (.ifCond .eq 7, 3) := by decide +kernel
theorem d_X2_unless_36 : decode b_X2_unless 36 = .ok (.iload_n 2, 1) := by decide +kernel
theorem d_X2_unless_37 : decode b_X2_unless 37 = .ok (.goto 15, 3) := by decide +kernel
theorem d_X2_unless_40 : decode b_X2_unless 40 = .ok (.aload_n 0, 1) := by decide +kernel
theorem d_X2_unless_41 : decode b_X2_unless 41 = .ok (.getfield 46, 3) := by decide +kernel
theorem d_X2_unless_44 : decode b_X2_unless 44 = .ok (.bipush 26, 2) := by decide +kernel
theorem d_X2_unless_46 : decode b_X2_unless 46 = .ok (.iload_n 2, 1) := by decide +kernel
theorem d_X2_unless_47 : decode b_X2_unless 47 = .ok (.iconst 0, 1) := by decide +kernel
theorem d_X2_unless_48 : decode b_X2_unless 48 = .ok (.iconst 0, 1) := by decide +kernel
theorem d_X2_unless_49 : decode b_X2_unless 49 = .ok (.invokevirtual 155, 3) := by decide +kernel
theorem d_X2_unless_52 : decode b_X2_unless 52 = .ok (.ireturn, 1) := by decide +kernel
theorem d_X2_unless_53 : decode b_X2_unless 53 = .ok (.aload_n 0, 1) := by decide +kernel
theorem d_X2_unless_54 : decode b_X2_unless 54 = .ok (.getfield 46, 3) := by decide +kernel
theorem d_X2_unless_57 : decode b_X2_unless 57 = .ok (.bipush 27, 2) := by decide +kernel
theorem d_X2_unless_59 : decode b_X2_unless 59 = .ok (.iload_n 2, 1) := by decide +kernel
theorem d_X2_unless_60 : decode b_X2_unless 60 = .ok (.iconst 0, 1) := by decide +kernel
theorem d_X2_unless_61 : decode b_X2_unless 61 = .ok (.iconst 0, 1) := by decide +kernel
theorem d_X2_unless_62 : decode b_X2_unless 62 = .ok (.invokevirtual 155, 3) := by decide +kernel
theorem d_X2_unless_65 : decode b_X2_unless 65 = .ok (.ireturn, 1) := by decide +kernel
theorem d_X3_init_0 : decode b_X3_init 0 = .ok (.aload_n 0, 1) := by decide +kernel
theorem d_X3_init_1 : decode b_X3_init 1 = .ok (.invokespecial 3, 3) := by decide +kernel
theorem d_X3_init_4 : decode b_X3_init 4 = .ok (.aload_n 0, 1) := by decide +kernel
theorem d_X3_init_5 : decode b_X3_init 5 = .ok (.sipush 32100, 3) := by decide +kernel
theorem d_X3_init_8 : decode b_X3_init 8 = .ok (.newarray .int, 2) := by decide +kernel
theorem d_X3_init_10 : decode b_X3_init 10 = .ok (.putfield 11, 3) := by decide +kernel
theorem d_X3_init_13 : decode b_X3_init 13 = .ok (.aload_n 0, 1) := by decide +kernel
theorem d_X3_init_14 : decode b_X3_init 14 = .ok (.sipush 32100, 3) := by decide +kernel
theorem d_X3_init_17 : decode b_X3_init 17 = .ok (.newarray .int, 2) := by decide +kernel
theorem d_X3_init_19 : decode b_X3_init 19 = .ok (.putfield 15, 3) := by decide +kernel
theorem d_X3_init_22 : decode b_X3_init 22 = .ok (.aload_n 0, 1) := by decide +kernel
theorem d_X3_init_23 : decode b_X3_init 23 = .ok (.sipush 32100, 3) := by decide +kernel
theorem d_X3_init_26 : decode b_X3_init 26 = .ok (.newarray .int, 2) := by decide +kernel
theorem d_X3_init_28 : decode b_X3_init 28 = .ok (.putfield 18, 3) := by decide +kernel
theorem d_X3_init_31 : decode b_X3_init 31 = .ok (.aload_n 0, 1) := by decide +kernel
theorem d_X3_init_32 : decode b_X3_init 32 = .ok (.sipush 32100, 3) := by decide +kernel
theorem d_X3_init_35 : decode b_X3_init 35 = .ok (.newarray .int, 2) := by decide +kernel
theorem d_X3_init_37 : decode b_X3_init 37 = .ok (.putfield 21, 3) := by decide +kernel
theorem d_X3_init_40 : decode b_X3_init 40 = .ok (.aload_n 0, 1) := by decide +kernel
theorem d_X3_init_41 : decode b_X3_init 41 = .ok (.sipush 400, 3) := by decide +kernel
theorem d_X3_init_44 : decode b_X3_init 44 = .ok (.newarray .int, 2) := by decide +kernel
theorem d_X3_init_46 : decode b_X3_init 46 = .ok (.putfield 24, 3) := by decide +kernel
theorem d_X3_init_49 : decode b_X3_init 49 = .ok (.aload_n 0, 1) := by decide +kernel
theorem d_X3_init_50 : decode b_X3_init 50 = .ok (.bipush 8, 2) := by decide +kernel
theorem d_X3_init_52 : decode b_X3_init 52 = .ok (.newarray .int, 2) := by decide +kernel
theorem d_X3_init_54 : decode b_X3_init 54 = .ok (.putfield 27, 3) := by decide +kernel
theorem d_X3_init_57 : decode b_X3_init 57 = .ok (.aload_n 0, 1) := by decide +kernel
theorem d_X3_init_58 : decode b_X3_init 58 = .ok (.aload_n 1, 1) := by decide +kernel
theorem d_X3_init_59 : decode b_X3_init 59 = .ok (.putfield 30, 3) := by decide +kernel
theorem d_X3_init_62 : decode b_X3_init 62 = .ok (.return_, 1) := by decide +kernel
theorem d_X3_accept_0 : decode b_X3_accept 0 = .ok (.aload_n 0, 1) := by decide +kernel
theorem d_X3_accept_1 : decode b_X3_accept 1 = .ok (.getfield 53, 3) := by decide +kernel
theorem d_X3_accept_4 : decode b_X3_accept 4 = .ok (.iload_n 1, 1) := by decide +kernel
theorem d_X3_accept_5 : decode b_X3_accept 5 = .ok (.if_icmp .ne 7, 3) := by decide +kernel
theorem d_X3_accept_8 : decode b_X3_accept 8 = .ok (.iconst 1, 1) := by decide +kernel
theorem d_X3_accept_9 : decode b_X3_accept 9 = .ok (.goto 4, 3) := by decide +kernel
theorem d_X3_accept_12 : decode b_X3_accept 12 = .ok (.iconst 0, 1) := by decide +kernel
theorem d_X3_accept_13 : decode b_X3_accept 13 = .ok (.istore_n 2, 1) := by decide +kernel
theorem d_X3_accept_14 : decode b_X3_accept 14 = .ok (.iload_n 2, 1) := by decide +kernel
theorem d_X3_accept_15 : decode b_X3_accept 15 = .ok (.ifCond .eq 7, 3) := by decide +kernel
theorem d_X3_accept_18 : decode b_X3_accept 18 = .ok (.aload_n 0, 1) := by decide +kernel
theorem d_X3_accept_19 : decode b_X3_accept 19 = .ok (.invokevirtual 47, 3) := by decide +kernel
theorem d_X3_accept_22 : decode b_X3_accept 22 = .ok (.iload_n 2, 1) := by decide +kernel
theorem d_X3_accept_23 : decode b_X3_accept 23 = .ok (.ireturn, 1) := by decide +kernel
theorem d_X3_add_0 : decode b_X3_add 0 = .ok (.aload_n 0, 1) := by decide +kernel
theorem d_X3_add_1 : decode b_X3_add 1 = .ok (.getfield 34, 3) := by decide +kernel
theorem d_X3_add_4 : decode b_X3_add 4 = .ok (.istore 5, 2) := by decide +kernel
theorem d_X3_add_6 : decode b_X3_add 6 = .ok (.iload 5, 2) := by decide +kernel
theorem d_X3_add_8 : decode b_X3_add 8 = .ok (.ifCond .lt 86, 3) := by decide +kernel
theorem d_X3_add_11 : decode b_X3_add 11 = .ok (.iload 5, 2) := by decide +kernel
theorem d_X3_add_13 : decode b_X3_add 13 = .ok (.aload_n 0, 1) := by decide +kernel
theorem d_X3_add_14 : decode b_X3_add 14 = .ok (.getfield 11, 3) := by decide +kernel
theorem d_X3_add_17 : decode b_X3_add 17 = .ok (.arraylength, 1) := by decide +kernel
theorem d_X3_add_18 : decode b_X3_add 18 = .ok (.if_icmp .ge 76, 3) := by decide +kernel
theorem d_X3_add_21 : decode b_X3_add 21 = .ok (.iload 5, 2) := by decide +kernel
theorem d_X3_add_23 : decode b_X3_add 23 = .ok (.aload_n 0, 1) := by decide +kernel
theorem d_X3_add_24 : decode b_X3_add 24 = .ok (.getfield 15, 3) := by decide +kernel
theorem d_X3_add_27 : decode b_X3_add 27 = .ok (.arraylength, 1) := by decide +kernel
theorem d_X3_add_28 : decode b_X3_add 28 = .ok (.if_icmp .ge 66, 3) := by decide +kernel
theorem d_X3_add_31 : decode b_X3_add 31 = .ok (.iload 5, 2) := by decide +kernel
theorem d_X3_add_33 : decode b_X3_add 33 = .ok (.aload_n 0, 1) := by decide +kernel
theorem d_X3_add_34 : decode b_X3_add 34 = .ok (.getfield 18, 3) := by decide +kernel
theorem d_X3_add_37 : decode b_X3_add 37 = .ok (.arraylength, 1) := by decide +kernel
theorem d_X3_add_38 : decode b_X3_add 38 = .ok (.if_icmp .ge 56, 3) := by decide +kernel
theorem d_X3_add_41 : decode b_X3_add 41 = .ok (.iload 5, 2) := by decide +kernel
theorem d_X3_add_43 : decode b_X3_add 43 = .ok (.aload_n 0, 1) := by decide +kernel
theorem d_X3_add_44 : decode b_X3_add 44 = .ok (.getfield 21, 3) := by decide +kernel
theorem d_X3_add_47 : decode b_X3_add 47 = .ok (.arraylength, 1) := by decide +kernel
theorem d_X3_add_48 : decode b_X3_add 48 = .ok (.if_icmp .ge 46, 3) := by decide +kernel
theorem d_X3_add_51 : decode b_X3_add 51 = .ok (.aload_n 0, 1) := by decide +kernel
theorem d_X3_add_52 : decode b_X3_add 52 = .ok (.getfield 11, 3) := by decide +kernel
theorem d_X3_add_55 : decode b_X3_add 55 = .ok (.iload 5, 2) := by decide +kernel
theorem d_X3_add_57 : decode b_X3_add 57 = .ok (.iload_n 1, 1) := by decide +kernel
theorem d_X3_add_58 : decode b_X3_add 58 = .ok (.iastore, 1) := by decide +kernel
theorem d_X3_add_59 : decode b_X3_add 59 = .ok (.aload_n 0, 1) := by decide +kernel
theorem d_X3_add_60 : decode b_X3_add 60 = .ok (.getfield 15, 3) := by decide +kernel
theorem d_X3_add_63 : decode b_X3_add 63 = .ok (.iload 5, 2) := by decide +kernel
theorem d_X3_add_65 : decode b_X3_add 65 = .ok (.iload_n 2, 1) := by decide +kernel
theorem d_X3_add_66 : decode b_X3_add 66 = .ok (.iastore, 1) := by decide +kernel
theorem d_X3_add_67 : decode b_X3_add 67 = .ok (.aload_n 0, 1) := by decide +kernel
theorem d_X3_add_68 : decode b_X3_add 68 = .ok (.getfield 18, 3) := by decide +kernel
theorem d_X3_add_71 : decode b_X3_add 71 = .ok (.iload 5, 2) := by decide +kernel
theorem d_X3_add_73 : decode b_X3_add 73 = .ok (.iload_n 3, 1) := by decide +kernel
theorem d_X3_add_74 : decode b_X3_add 74 = .ok (.iastore, 1) := by decide +kernel
theorem d_X3_add_75 : decode b_X3_add 75 = .ok (.aload_n 0, 1) := by decide +kernel
theorem d_X3_add_76 : decode b_X3_add 76 = .ok (.getfield 21, 3) := by decide +kernel
theorem d_X3_add_79 : decode b_X3_add 79 = .ok (.iload 5, 2) := by decide +kernel
theorem d_X3_add_81 : decode b_X3_add 81 = .ok (.iload 4, 2) := by decide +kernel
theorem d_X3_add_83 : decode b_X3_add 83 = .ok (.iastore, 1) := by decide +kernel
theorem d_X3_add_84 : decode b_X3_add 84 = .ok (.aload_n 0, 1) := by decide +kernel
theorem d_X3_add_85 : decode b_X3_add 85 = .ok (.dup, 1) := by decide +kernel
theorem d_X3_add_86 : decode b_X3_add 86 = .ok (.getfield 34, 3) := by decide +kernel
theorem d_X3_add_89 : decode b_X3_add 89 = .ok (.iconst 1, 1) := by decide +kernel
theorem d_X3_add_90 : decode b_X3_add 90 = .ok (.iadd, 1) := by decide +kernel
theorem d_X3_add_91 : decode b_X3_add 91 = .ok (.putfield 34, 3) := by decide +kernel
theorem d_X3_add_94 : decode b_X3_add 94 = .ok (.iload 5, 2) := by decide +kernel
theorem d_X3_add_96 : decode b_X3_add 96 = .ok (.ireturn, 1) := by decide +kernel
theorem d_X3_advance_0 : decode b_X3_advance 0 = .ok (.aload_n 0, 1) := by decide +kernel
theorem d_X3_advance_1 : decode b_X3_advance 1 = .ok (.dup, 1) := by decide +kernel
theorem d_X3_advance_2 : decode b_X3_advance 2 = .ok (.getfield 44, 3) := by decide +kernel
theorem d_X3_advance_5 : decode b_X3_advance 5 = .ok (.iconst 1, 1) := by decide +kernel
theorem d_X3_advance_6 : decode b_X3_advance 6 = .ok (.iadd, 1) := by decide +kernel
theorem d_X3_advance_7 : decode b_X3_advance 7 = .ok (.putfield 44, 3) := by decide +kernel
theorem d_X3_advance_10 : decode b_X3_advance 10 = .ok (.aload_n 0, 1) := by decide +kernel
theorem d_X3_advance_11 : decode b_X3_advance 11 = .ok (.getfield 44, 3) := by decide +kernel
theorem d_X3_advance_14 : decode b_X3_advance 14 = .ok (.ifCond .lt 36, 3) := by decide +kernel
theorem d_X3_advance_17 : decode b_X3_advance 17 = .ok (.aload_n 0, 1) := by decide +kernel
theorem d_X3_advance_18 : decode b_X3_advance 18 = .ok (.getfield 44, 3) := by decide +kernel
theorem d_X3_advance_21 : decode b_X3_advance 21 = .ok (.aload_n 0, 1) := by decide +kernel
theorem d_X3_advance_22 : decode b_X3_advance 22 = .ok (.getfield 30, 3) := by decide +kernel
theorem d_X3_advance_25 : decode b_X3_advance 25 = .ok (.getfield 50, 3) := by decide +kernel
theorem d_X3_advance_28 : decode b_X3_advance 28 = .ok (.if_icmp .ge 22, 3) := by decide +kernel
theorem d_X3_advance_31 : decode b_X3_advance 31 = .ok (.aload_n 0, 1) := by decide +kernel
theorem d_X3_advance_32 : decode b_X3_advance 32 = .ok (.getfield 44, 3) := by decide +kernel
theorem d_X3_advance_35 : decode b_X3_advance 35 = .ok (.aload_n 0, 1) := by decide +kernel
theorem d_X3_advance_36 : decode b_X3_advance 36 = .ok (.getfield 30, 3) := by decide +kernel
theorem d_X3_advance_39 : decode b_X3_advance 39 = .ok (.getfield 79, 3) := by decide +kernel
theorem d_X3_advance_42 : decode b_X3_advance 42 = .ok (.arraylength, 1) := by decide +kernel
theorem d_X3_advance_43 : decode b_X3_advance 43 = .ok (.if_icmp .ge 7, 3) := by decide +kernel
theorem d_X3_advance_46 : decode b_X3_advance 46 = .ok (.iconst 1, 1) := by decide +kernel
theorem d_X3_advance_47 : decode b_X3_advance 47 = .ok (.goto 4, 3) := by decide +kernel
theorem d_X3_advance_50 : decode b_X3_advance 50 = .ok (.iconst 0, 1) := by decide +kernel
theorem d_X3_advance_51 : decode b_X3_advance 51 = .ok (.istore_n 1, 1) := by decide +kernel
theorem d_X3_advance_52 : decode b_X3_advance 52 = .ok (.aload_n 0, 1) := by decide +kernel
theorem d_X3_advance_53 : decode b_X3_advance 53 = .ok (.iload_n 1, 1) := by decide +kernel
theorem d_X3_advance_54 : decode b_X3_advance 54 = .ok (.ifCond .eq 18, 3) := by decide +kernel
theorem d_X3_advance_57 : decode b_X3_advance 57 = .ok (.aload_n 0, 1) := by decide +kernel
theorem d_X3_advance_58 : decode b_X3_advance 58 = .ok (.getfield 30, 3) := by decide +kernel
theorem d_X3_advance_61 : decode b_X3_advance 61 = .ok (.getfield 79, 3) := by decide +kernel
theorem d_X3_advance_64 : decode b_X3_advance 64 = .ok (.aload_n 0, 1) := by decide +kernel
theorem d_X3_advance_65 : decode b_X3_advance 65 = .ok (.getfield 44, 3) := by decide +kernel
theorem d_X3_advance_68 : decode b_X3_advance 68 = .ok (.iaload, 1) := by decide +kernel
theorem d_X3_advance_69 : decode b_X3_advance 69 = .ok (.goto 4, 3) := by decide +kernel
theorem d_X3_advance_72 : decode b_X3_advance 72 = .ok (.iconst 0, 1) := by decide +kernel
theorem d_X3_advance_73 : decode b_X3_advance 73 = .ok (.putfield 53, 3) := by decide +kernel
theorem d_X3_advance_76 : decode b_X3_advance 76 = .ok (.return_, 1) := by decide +kernel
theorem d_X3_behind_0 : decode b_X3_behind 0 = .ok (.aload_n 0, 1) := by decide +kernel
theorem d_X3_behind_1 : decode b_X3_behind 1 = .ok (.iload_n 1, 1) := by decide +kernel
theorem d_X3_behind_2 : decode b_X3_behind 2 = .ok (.invokevirtual 173, 3) := by decide +kernel
theorem d_X3_behind_5 : decode b_X3_behind 5 = .ok (.iconst 1, 1) := by decide +kernel
theorem d_X3_behind_6 : decode b_X3_behind 6 = .ok (.istore_n 2, 1) := by decide +kernel
theorem d_X3_behind_7 : decode b_X3_behind 7 = .ok (.aload_n 0, 1) := by decide +kernel
theorem d_X3_behind_8 : decode b_X3_behind 8 = .ok (.getfield 30, 3) := by decide +kernel
theorem d_X3_behind_11 : decode b_X3_behind 11 = .ok (.getfield 50, 3) := by decide +kernel
theorem d_X3_behind_14 : decode b_X3_behind 14 = .ok (.istore_n 3, 1) := by decide +kernel
theorem d_X3_behind_15 : decode b_X3_behind 15 = .ok (.iload_n 3, 1) := by decide +kernel
theorem d_X3_behind_16 : decode b_X3_behind 16 = .ok (.ifCond .le 126, 3) := by decide +kernel
theorem d_X3_behind_19 : decode b_X3_behind 19 = .ok (.iload_n 2, 1) := by decide +kernel
theorem d_X3_behind_20 : decode b_X3_behind 20 = .ok (.ifCond .eq 122, 3) := by decide +kernel
theorem d_X3_behind_23 : decode b_X3_behind 23 = .ok (.aload_n 0, 1) := by decide +kernel
theorem d_X3_behind_24 : decode b_X3_behind 24 = .ok (.getfield 44, 3) := by decide +kernel
theorem d_X3_behind_27 : decode b_X3_behind 27 = .ok (.istore 4, 2) := by decide +kernel
theorem d_X3_behind_29 : decode b_X3_behind 29 = .ok (.aload_n 0, 1) := by decide +kernel
theorem d_X3_behind_30 : decode b_X3_behind 30 = .ok (.getfield 53, 3) := by decide +kernel
theorem d_X3_behind_33 : decode b_X3_behind 33 = .ok (.bipush 24, 2) := by decide +kernel
theorem d_X3_behind_35 : decode b_X3_behind 35 = .ok (.if_icmp .eq 21, 3) := by decide +kernel
theorem d_X3_behind_38 : decode b_X3_behind 38 = .ok (.aload_n 0, 1) := by decide +kernel
theorem d_X3_behind_39 : decode b_X3_behind 39 = .ok (.getfield 53, 3) := by decide +kernel
theorem d_X3_behind_42 : decode b_X3_behind 42 = .ok (.bipush 61, 2) := by decide +kernel
theorem d_X3_behind_44 : decode b_X3_behind 44 = .ok (.if_icmp .eq 12, 3) := by decide +kernel
theorem d_X3_behind_47 : decode b_X3_behind 47 = .ok (.aload_n 0, 1) := by decide +kernel
theorem d_X3_behind_48 : decode b_X3_behind 48 = .ok (.getfield 53, 3) := by decide +kernel
theorem d_X3_behind_51 : decode b_X3_behind 51 = .ok (.bipush 62, 2) := by decide +kernel
theorem d_X3_behind_53 : decode b_X3_behind 53 = .ok (.if_icmp .ne 7, 3) := by decide +kernel
theorem d_X3_behind_56 : decode b_X3_behind 56 = .ok (.iconst 1, 1) := by decide +kernel
theorem d_X3_behind_57 : decode b_X3_behind 57 = .ok (.goto 4, 3) := by decide +kernel
theorem d_X3_behind_60 : decode b_X3_behind 60 = .ok (.iconst 0, 1) := by decide +kernel
theorem d_X3_behind_61 : decode b_X3_behind 61 = .ok (.istore_n 2, 1) := by decide +kernel
theorem d_X3_behind_62 : decode b_X3_behind 62 = .ok (.aload_n 0, 1) := by decide +kernel
theorem d_X3_behind_63 : decode b_X3_behind 63 = .ok (.getfield 53, 3) := by decide +kernel
theorem d_X3_behind_66 : decode b_X3_behind 66 = .ok (.bipush 24, 2) := by decide +kernel
theorem d_X3_behind_68 : decode b_X3_behind 68 = .ok (.if_icmp .ne 49, 3) := by decide +kernel
theorem d_X3_behind_71 : decode b_X3_behind 71 = .ok (.aload_n 0, 1) := by decide +kernel
theorem d_X3_behind_72 : decode b_X3_behind 72 = .ok (.iload_n 1, 1) := by decide +kernel
theorem d_X3_behind_73 : decode b_X3_behind 73 = .ok (.invokevirtual 149, 3) := by decide +kernel
theorem d_X3_behind_76 : decode b_X3_behind 76 = .ok (.ifCond .eq 60, 3) := by decide +kernel
theorem d_X3_behind_79 : decode b_X3_behind 79 = .ok (.aload_n 0, 1) := by decide +kernel
theorem d_X3_behind_80 : decode b_X3_behind 80 = .ok (.bipush 7, 2) := by decide +kernel
theorem d_X3_behind_82 : decode b_X3_behind 82 = .ok (.iload 4, 2) := by decide +kernel
theorem d_X3_behind_84 : decode b_X3_behind 84 = .ok (.iconst 0, 1) := by decide +kernel
theorem d_X3_behind_85 : decode b_X3_behind 85 = .ok (.iconst 0, 1) := by decide +kernel
theorem d_X3_behind_86 : decode b_X3_behind 86 = .ok (.invokevirtual 75, 3) := by decide +kernel
theorem d_X3_behind_89 : decode b_X3_behind 89 = .ok (.pop, 1) := by decide +kernel
theorem d_X3_behind_90 : decode b_X3_behind 90 = .ok (.aload_n 0, 1) := by decide +kernel
theorem d_X3_behind_91 : decode b_X3_behind 91 = .ok (.iload_n 1, 1) := by decide +kernel
theorem d_X3_behind_92 : decode b_X3_behind 92 = .ok (.iconst 1, 1) := by decide +kernel
theorem d_X3_behind_93 : decode b_X3_behind 93 = .ok (.iadd, 1) := by decide +kernel
theorem d_X3_behind_94 : decode b_X3_behind 94 = .ok (.invokevirtual 119, 3) := by decide +kernel
theorem d_X3_behind_97 : decode b_X3_behind 97 = .ok (.aload_n 0, 1) := by decide +kernel
theorem d_X3_behind_98 : decode b_X3_behind 98 = .ok (.bipush 25, 2) := by decide +kernel
theorem d_X3_behind_100 : decode b_X3_behind 100 = .ok (.invokevirtual 56, 3) := by decide +kernel
theorem d_X3_behind_103 : decode b_X3_behind 103 = .ok (.aload_n 0, 1) := by decide +kernel
theorem d_X3_behind_104 : decode b_X3_behind 104 = .ok (.bipush 10, 2) := by decide +kernel
theorem d_X3_behind_106 : decode b_X3_behind 106 = .ok (.iload 4, 2) := by decide +kernel
theorem d_X3_behind_108 : decode b_X3_behind 108 = .ok (.iconst 0, 1) := by decide +kernel
theorem d_X3_behind_109 : decode b_X3_behind 109 = .ok (.iconst 0, 1) := by decide +kernel
theorem d_X3_behind_110 : decode b_X3_behind 110 = .ok (.invokevirtual 75, 3) := by decide +kernel
theorem d_X3_behind_113 : decode b_X3_behind 113 = .ok (.pop, 1) := by decide +kernel
theorem d_X3_behind_114 : decode b_X3_behind 114 = .ok (.goto 22, 3) := by decide +kernel
theorem d_X3_behind_117 : decode b_X3_behind 117 = .ok (.iload_n 2, 1) := by decide +kernel
theorem d_X3_behind_118 : decode b_X3_behind 118 = .ok (.ifCond .eq 18, 3) := by decide +kernel
theorem d_X3_behind_121 : decode b_X3_behind 121 = .ok (.aload_n 0, 1) := by decide +kernel
theorem d_X3_behind_122 : decode b_X3_behind 122 = .ok (.invokevirtual 47, 3) := by decide +kernel
theorem d_X3_behind_125 : decode b_X3_behind 125 = .ok (.aload_n 0, 1) := by decide +kernel
theorem d_X3_behind_126 : decode b_X3_behind 126 = .ok (.bipush 13, 2) := by decide +kernel
theorem d_X3_behind_128 : decode b_X3_behind 128 = .ok (.iload 4, 2) := by decide +kernel
theorem d_X3_behind_130 : decode b_X3_behind 130 = .ok (.iconst 0, 1) := by decide +kernel
theorem d_X3_behind_131 : decode b_X3_behind 131 = .ok (.iconst 0, 1) := by decide +kernel
theorem d_X3_behind_132 : decode b_X3_behind 132 = .ok (.invokevirtual 75, 3) := by decide +kernel
theorem d_X3_behind_135 : decode b_X3_behind 135 = .ok (.pop, 1) := by decide +kernel
theorem d_X3_behind_136 : decode b_X3_behind 136 = .ok (.iinc 3 (-1), 3) := by decide +kernel
theorem d_X3_behind_139 : decode b_X3_behind 139 = .ok (.goto (-124), 3) := by decide +kernel
theorem d_X3_behind_142 : decode b_X3_behind 142 = .ok (.return_, 1) := by decide +kernel
theorem d_X3_binary_0 : decode b_X3_binary 0 = .ok (.aload_n 0, 1) := by decide +kernel
theorem d_X3_binary_1 : decode b_X3_binary 1 = .ok (.getfield 38, 3) := by decide +kernel
theorem d_X3_binary_4 : decode b_X3_binary 4 = .ok (.istore_n 2, 1) := by decide +kernel
theorem d_X3_binary_5 : decode b_X3_binary 5 = .ok (.aload_n 0, 1) := by decide +kernel
theorem d_X3_binary_6 : decode b_X3_binary 6 = .ok (.iload_n 1, 1) := by decide +kernel
theorem d_X3_binary_7 : decode b_X3_binary 7 = .ok (.invokevirtual 158, 3) := by decide +kernel
theorem d_X3_binary_10 : decode b_X3_binary 10 = .ok (.aload_n 0, 1) := by decide +kernel
theorem d_X3_binary_11 : decode b_X3_binary 11 = .ok (.getfield 30, 3) := by decide +kernel
theorem d_X3_binary_14 : decode b_X3_binary 14 = .ok (.getfield 50, 3) := by decide +kernel
theorem d_X3_binary_17 : decode b_X3_binary 17 = .ok (.istore_n 3, 1) := by decide +kernel
theorem d_X3_binary_18 : decode b_X3_binary 18 = .ok (.iload_n 3, 1) := by decide +kernel
theorem d_X3_binary_19 : decode b_X3_binary 19 = .ok (.ifCond .le 78, 3) := by decide +kernel
theorem d_X3_binary_22 : decode b_X3_binary 22 = .ok (.aload_n 0, 1) := by decide +kernel
theorem d_X3_binary_23 : decode b_X3_binary 23 = .ok (.getfield 53, 3) := by decide +kernel
theorem d_X3_binary_26 : decode b_X3_binary 26 = .ok (.invokestatic 161, 3) := by decide +kernel
theorem d_X3_binary_29 : decode b_X3_binary 29 = .ok (.ifCond .le 68, 3) := by decide +kernel
theorem d_X3_binary_32 : decode b_X3_binary 32 = .ok (.aload_n 0, 1) := by decide +kernel
theorem d_X3_binary_33 : decode b_X3_binary 33 = .ok (.iload_n 2, 1) := by decide +kernel
theorem d_X3_binary_34 : decode b_X3_binary 34 = .ok (.aload_n 0, 1) := by decide +kernel
theorem d_X3_binary_35 : decode b_X3_binary 35 = .ok (.getfield 53, 3) := by decide +kernel
theorem d_X3_binary_38 : decode b_X3_binary 38 = .ok (.invokestatic 161, 3) := by decide +kernel
theorem d_X3_binary_41 : decode b_X3_binary 41 = .ok (.invokevirtual 164, 3) := by decide +kernel
theorem d_X3_binary_44 : decode b_X3_binary 44 = .ok (.aload_n 0, 1) := by decide +kernel
theorem d_X3_binary_45 : decode b_X3_binary 45 = .ok (.getfield 24, 3) := by decide +kernel
theorem d_X3_binary_48 : decode b_X3_binary 48 = .ok (.aload_n 0, 1) := by decide +kernel
theorem d_X3_binary_49 : decode b_X3_binary 49 = .ok (.getfield 38, 3) := by decide +kernel
theorem d_X3_binary_52 : decode b_X3_binary 52 = .ok (.aload_n 0, 1) := by decide +kernel
theorem d_X3_binary_53 : decode b_X3_binary 53 = .ok (.getfield 44, 3) := by decide +kernel
theorem d_X3_binary_56 : decode b_X3_binary 56 = .ok (.invokestatic 105, 3) := by decide +kernel
theorem d_X3_binary_59 : decode b_X3_binary 59 = .ok (.aload_n 0, 1) := by decide +kernel
theorem d_X3_binary_60 : decode b_X3_binary 60 = .ok (.dup, 1) := by decide +kernel
theorem d_X3_binary_61 : decode b_X3_binary 61 = .ok (.getfield 38, 3) := by decide +kernel
theorem d_X3_binary_64 : decode b_X3_binary 64 = .ok (.iconst 1, 1) := by decide +kernel
theorem d_X3_binary_65 : decode b_X3_binary 65 = .ok (.iadd, 1) := by decide +kernel
theorem d_X3_binary_66 : decode b_X3_binary 66 = .ok (.putfield 38, 3) := by decide +kernel
theorem d_X3_binary_69 : decode b_X3_binary 69 = .ok (.aload_n 0, 1) := by decide +kernel
theorem d_X3_binary_70 : decode b_X3_binary 70 = .ok (.bipush 7, 2) := by decide +kernel
theorem d_X3_binary_72 : decode b_X3_binary 72 = .ok (.aload_n 0, 1) := by decide +kernel
theorem d_X3_binary_73 : decode b_X3_binary 73 = .ok (.getfield 44, 3) := by decide +kernel
theorem d_X3_binary_76 : decode b_X3_binary 76 = .ok (.iconst 0, 1) := by decide +kernel
theorem d_X3_binary_77 : decode b_X3_binary 77 = .ok (.iconst 0, 1) := by decide +kernel
theorem d_X3_binary_78 : decode b_X3_binary 78 = .ok (.invokevirtual 75, 3) := by decide +kernel
theorem d_X3_binary_81 : decode b_X3_binary 81 = .ok (.pop, 1) := by decide +kernel
theorem d_X3_binary_82 : decode b_X3_binary 82 = .ok (.aload_n 0, 1) := by decide +kernel
theorem d_X3_binary_83 : decode b_X3_binary 83 = .ok (.invokevirtual 47, 3) := by decide +kernel
theorem d_X3_binary_86 : decode b_X3_binary 86 = .ok (.aload_n 0, 1) := by decide +kernel
theorem d_X3_binary_87 : decode b_X3_binary 87 = .ok (.iload_n 1, 1) := by decide +kernel
theorem d_X3_binary_88 : decode b_X3_binary 88 = .ok (.invokevirtual 158, 3) := by decide +kernel
theorem d_X3_binary_91 : decode b_X3_binary 91 = .ok (.iinc 3 (-1), 3) := by decide +kernel
theorem d_X3_binary_94 : decode b_X3_binary 94 = .ok (.goto (-76), 3) := by decide +kernel
theorem d_X3_binary_97 : decode b_X3_binary 97 = .ok (.aload_n 0, 1) := by decide +kernel
theorem d_X3_binary_98 : decode b_X3_binary 98 = .ok (.iload_n 2, 1) := by decide +kernel
theorem d_X3_binary_99 : decode b_X3_binary 99 = .ok (.iconst 0, 1) := by decide +kernel
theorem d_X3_binary_100 : decode b_X3_binary 100 = .ok (.invokevirtual 164, 3) := by decide +kernel
theorem d_X3_binary_103 : decode b_X3_binary 103 = .ok (.return_, 1) := by decide +kernel
theorem d_X3_body_0 : decode b_X3_body 0 = .ok (.aload_n 0, 1) := by decide +kernel
theorem d_X3_body_1 : decode b_X3_body 1 = .ok (.bipush 20, 2) := by decide +kernel
theorem d_X3_body_3 : decode b_X3_body 3 = .ok (.aload_n 0, 1) := by decide +kernel
theorem d_X3_body_4 : decode b_X3_body 4 = .ok (.getfield 44, 3) := by decide +kernel
theorem d_X3_body_7 : decode b_X3_body 7 = .ok (.iconst 0, 1) := by decide +kernel
theorem d_X3_body_8 : decode b_X3_body 8 = .ok (.iconst 0, 1) := by decide +kernel
theorem d_X3_body_9 : decode b_X3_body 9 = .ok (.invokevirtual 75, 3) := by decide +kernel
theorem d_X3_body_12 : decode b_X3_body 12 = .ok (.pop, 1) := by decide +kernel
theorem d_X3_body_13 : decode b_X3_body 13 = .ok (.aload_n 0, 1) := by decide +kernel
theorem d_X3_body_14 : decode b_X3_body 14 = .ok (.iload_n 1, 1) := by decide +kernel
theorem d_X3_body_15 : decode b_X3_body 15 = .ok (.iconst 1, 1) := by decide +kernel
theorem d_X3_body_16 : decode b_X3_body 16 = .ok (.iadd, 1) := by decide +kernel
theorem d_X3_body_17 : decode b_X3_body 17 = .ok (.invokevirtual 125, 3) := by decide +kernel
theorem d_X3_body_20 : decode b_X3_body 20 = .ok (.aload_n 0, 1) := by decide +kernel
theorem d_X3_body_21 : decode b_X3_body 21 = .ok (.bipush 21, 2) := by decide +kernel
theorem d_X3_body_23 : decode b_X3_body 23 = .ok (.aload_n 0, 1) := by decide +kernel
theorem d_X3_body_24 : decode b_X3_body 24 = .ok (.getfield 44, 3) := by decide +kernel
theorem d_X3_body_27 : decode b_X3_body 27 = .ok (.iconst 0, 1) := by decide +kernel
theorem d_X3_body_28 : decode b_X3_body 28 = .ok (.iconst 0, 1) := by decide +kernel
theorem d_X3_body_29 : decode b_X3_body 29 = .ok (.invokevirtual 75, 3) := by decide +kernel
theorem d_X3_body_32 : decode b_X3_body 32 = .ok (.pop, 1) := by decide +kernel
theorem d_X3_body_33 : decode b_X3_body 33 = .ok (.return_, 1) := by decide +kernel
theorem d_X3_bracket_0 : decode b_X3_bracket 0 = .ok (.aload_n 0, 1) := by decide +kernel
theorem d_X3_bracket_1 : decode b_X3_bracket 1 = .ok (.getfield 44, 3) := by decide +kernel
theorem d_X3_bracket_4 : decode b_X3_bracket 4 = .ok (.istore_n 1, 1) := by decide +kernel
theorem d_X3_bracket_5 : decode b_X3_bracket 5 = .ok (.aload_n 0, 1) := by decide +kernel
theorem d_X3_bracket_6 : decode b_X3_bracket 6 = .ok (.invokevirtual 47, 3) := by decide +kernel
theorem d_X3_bracket_9 : decode b_X3_bracket 9 = .ok (.aload_n 0, 1) := by decide +kernel
theorem d_X3_bracket_10 : decode b_X3_bracket 10 = .ok (.getfield 53, 3) := by decide +kernel
theorem d_X3_bracket_13 : decode b_X3_bracket 13 = .ok (.bipush 25, 2) := by decide +kernel
theorem d_X3_bracket_15 : decode b_X3_bracket 15 = .ok (.if_icmp .eq 7, 3) := by decide +kernel
theorem d_X3_bracket_18 : decode b_X3_bracket 18 = .ok (.iconst 1, 1) := by decide +kernel
theorem d_X3_bracket_19 : decode b_X3_bracket 19 = .ok (.goto 4, 3) := by decide +kernel
theorem d_X3_bracket_22 : decode b_X3_bracket 22 = .ok (.iconst 0, 1) := by decide +kernel
theorem d_X3_bracket_23 : decode b_X3_bracket 23 = .ok (.istore_n 2, 1) := by decide +kernel
theorem d_X3_bracket_24 : decode b_X3_bracket 24 = .ok (.iload_n 2, 1) := by decide +kernel
theorem d_X3_bracket_25 : decode b_X3_bracket 25 = .ok (.ifCond .eq 35, 3) := by decide +kernel
theorem d_X3_bracket_28 : decode b_X3_bracket 28 = .ok (.aload_n 0, 1) := by decide +kernel
theorem d_X3_bracket_29 : decode b_X3_bracket 29 = .ok (.bipush 40, 2) := by decide +kernel
theorem d_X3_bracket_31 : decode b_X3_bracket 31 = .ok (.iload_n 1, 1) := by decide +kernel
theorem d_X3_bracket_32 : decode b_X3_bracket 32 = .ok (.iconst 0, 1) := by decide +kernel
theorem d_X3_bracket_33 : decode b_X3_bracket 33 = .ok (.iconst 0, 1) := by decide +kernel
theorem d_X3_bracket_34 : decode b_X3_bracket 34 = .ok (.invokevirtual 75, 3) := by decide +kernel
theorem d_X3_bracket_37 : decode b_X3_bracket 37 = .ok (.istore_n 3, 1) := by decide +kernel
theorem d_X3_bracket_38 : decode b_X3_bracket 38 = .ok (.aload_n 0, 1) := by decide +kernel
theorem d_X3_bracket_39 : decode b_X3_bracket 39 = .ok (.iconst 1, 1) := by decide +kernel
theorem d_X3_bracket_40 : decode b_X3_bracket 40 = .ok (.invokevirtual 119, 3) := by decide +kernel
theorem d_X3_bracket_43 : decode b_X3_bracket 43 = .ok (.aload_n 0, 1) := by decide +kernel
theorem d_X3_bracket_44 : decode b_X3_bracket 44 = .ok (.getfield 18, 3) := by decide +kernel
theorem d_X3_bracket_47 : decode b_X3_bracket 47 = .ok (.iload_n 3, 1) := by decide +kernel
theorem d_X3_bracket_48 : decode b_X3_bracket 48 = .ok (.aload_n 0, 1) := by decide +kernel
theorem d_X3_bracket_49 : decode b_X3_bracket 49 = .ok (.bipush 41, 2) := by decide +kernel
theorem d_X3_bracket_51 : decode b_X3_bracket 51 = .ok (.iload_n 1, 1) := by decide +kernel
theorem d_X3_bracket_52 : decode b_X3_bracket 52 = .ok (.iconst 0, 1) := by decide +kernel
theorem d_X3_bracket_53 : decode b_X3_bracket 53 = .ok (.iconst 0, 1) := by decide +kernel
theorem d_X3_bracket_54 : decode b_X3_bracket 54 = .ok (.invokevirtual 75, 3) := by decide +kernel
theorem d_X3_bracket_57 : decode b_X3_bracket 57 = .ok (.invokestatic 105, 3) := by decide +kernel
theorem d_X3_bracket_60 : decode b_X3_bracket 60 = .ok (.aload_n 0, 1) := by decide +kernel
theorem d_X3_bracket_61 : decode b_X3_bracket 61 = .ok (.bipush 25, 2) := by decide +kernel
theorem d_X3_bracket_63 : decode b_X3_bracket 63 = .ok (.invokevirtual 56, 3) := by decide +kernel
theorem d_X3_bracket_66 : decode b_X3_bracket 66 = .ok (.aload_n 0, 1) := by decide +kernel
theorem d_X3_bracket_67 : decode b_X3_bracket 67 = .ok (.bipush 42, 2) := by decide +kernel
theorem d_X3_bracket_69 : decode b_X3_bracket 69 = .ok (.iload_n 1, 1) := by decide +kernel
theorem d_X3_bracket_70 : decode b_X3_bracket 70 = .ok (.iload_n 2, 1) := by decide +kernel
theorem d_X3_bracket_71 : decode b_X3_bracket 71 = .ok (.ifCond .eq 7, 3) := by decide +kernel
theorem d_X3_bracket_74 : decode b_X3_bracket 74 = .ok (.iconst 1, 1) := by decide +kernel
theorem d_X3_bracket_75 : decode b_X3_bracket 75 = .ok (.goto 4, 3) := by decide +kernel
theorem d_X3_bracket_78 : decode b_X3_bracket 78 = .ok (.iconst 0, 1) := by decide +kernel
theorem d_X3_bracket_79 : decode b_X3_bracket 79 = .ok (.iconst 0, 1) := by decide +kernel
theorem d_X3_bracket_80 : decode b_X3_bracket 80 = .ok (.invokevirtual 75, 3) := by decide +kernel
theorem d_X3_bracket_83 : decode b_X3_bracket 83 = .ok (.ireturn, 1) := by decide +kernel
theorem d_X3_call_0 : decode b_X3_call 0 = .ok (.aload_n 0, 1) := by decide +kernel
theorem d_X3_call_1 : decode b_X3_call 1 = .ok (.iload_n 2, 1) := by decide +kernel
theorem d_X3_call_2 : decode b_X3_call 2 = .ok (.invokevirtual 149, 3) := by decide +kernel
theorem d_X3_call_5 : decode b_X3_call 5 = .ok (.ifCond .ne 4, 3) := by decide +kernel
theorem d_X3_call_8 : decode b_X3_call 8 = .ok (.return_, 1) := by decide +kernel
theorem d_X3_call_9 : decode b_X3_call 9 = .ok (.aload_n 0, 1) := by decide +kernel
theorem d_X3_call_10 : decode b_X3_call 10 = .ok (.iconst 4, 1) := by decide +kernel
theorem d_X3_call_11 : decode b_X3_call 11 = .ok (.iload_n 1, 1) := by decide +kernel
theorem d_X3_call_12 : decode b_X3_call 12 = .ok (.iconst 0, 1) := by decide +kernel
theorem d_X3_call_13 : decode b_X3_call 13 = .ok (.iconst 0, 1) := by decide +kernel
theorem d_X3_call_14 : decode b_X3_call 14 = .ok (.invokevirtual 75, 3) := by decide +kernel
theorem d_X3_call_17 : decode b_X3_call 17 = .ok (.pop, 1) := by decide +kernel
theorem d_X3_call_18 : decode b_X3_call 18 = .ok (.aload_n 0, 1) := by decide +kernel
theorem d_X3_call_19 : decode b_X3_call 19 = .ok (.getfield 53, 3) := by decide +kernel
theorem d_X3_call_22 : decode b_X3_call 22 = .ok (.bipush 21, 2) := by decide +kernel
theorem d_X3_call_24 : decode b_X3_call 24 = .ok (.if_icmp .eq 7, 3) := by decide +kernel
theorem d_X3_call_27 : decode b_X3_call 27 = .ok (.iconst 1, 1) := by decide +kernel
theorem d_X3_call_28 : decode b_X3_call 28 = .ok (.goto 4, 3) := by decide +kernel
theorem d_X3_call_31 : decode b_X3_call 31 = .ok (.iconst 0, 1) := by decide +kernel
theorem d_X3_call_32 : decode b_X3_call 32 = .ok (.istore_n 3, 1) := by decide +kernel
theorem d_X3_call_33 : decode b_X3_call 33 = .ok (.aload_n 0, 1) := by decide +kernel
theorem d_X3_call_34 : decode b_X3_call 34 = .ok (.getfield 30, 3) := by decide +kernel
theorem d_X3_call_37 : decode b_X3_call 37 = .ok (.getfield 50, 3) := by decide +kernel
theorem d_X3_call_40 : decode b_X3_call 40 = .ok (.istore 4, 2) := by decide +kernel
theorem d_X3_call_42 : decode b_X3_call 42 = .ok (.iload 4, 2) := by decide +kernel
theorem d_X3_call_44 : decode b_X3_call 44 = .ok (.ifCond .le 36, 3) := by decide +kernel
theorem d_X3_call_47 : decode b_X3_call 47 = .ok (.iload_n 3, 1) := by decide +kernel
theorem d_X3_call_48 : decode b_X3_call 48 = .ok (.ifCond .eq 32, 3) := by decide +kernel
theorem d_X3_call_51 : decode b_X3_call 51 = .ok (.aload_n 0, 1) := by decide +kernel
theorem d_X3_call_52 : decode b_X3_call 52 = .ok (.iload_n 2, 1) := by decide +kernel
theorem d_X3_call_53 : decode b_X3_call 53 = .ok (.iconst 1, 1) := by decide +kernel
theorem d_X3_call_54 : decode b_X3_call 54 = .ok (.iadd, 1) := by decide +kernel
theorem d_X3_call_55 : decode b_X3_call 55 = .ok (.invokevirtual 119, 3) := by decide +kernel
theorem d_X3_call_58 : decode b_X3_call 58 = .ok (.aload_n 0, 1) := by decide +kernel
theorem d_X3_call_59 : decode b_X3_call 59 = .ok (.iconst 5, 1) := by decide +kernel
theorem d_X3_call_60 : decode b_X3_call 60 = .ok (.iload_n 1, 1) := by decide +kernel
theorem d_X3_call_61 : decode b_X3_call 61 = .ok (.iconst 0, 1) := by decide +kernel
theorem d_X3_call_62 : decode b_X3_call 62 = .ok (.iconst 0, 1) := by decide +kernel
theorem d_X3_call_63 : decode b_X3_call 63 = .ok (.invokevirtual 75, 3) := by decide +kernel
theorem d_X3_call_66 : decode b_X3_call 66 = .ok (.pop, 1) := by decide +kernel
theorem d_X3_call_67 : decode b_X3_call 67 = .ok (.aload_n 0, 1) := by decide +kernel
theorem d_X3_call_68 : decode b_X3_call 68 = .ok (.bipush 26, 2) := by decide +kernel
theorem d_X3_call_70 : decode b_X3_call 70 = .ok (.invokevirtual 101, 3) := by decide +kernel
theorem d_X3_call_73 : decode b_X3_call 73 = .ok (.istore_n 3, 1) := by decide +kernel
theorem d_X3_call_74 : decode b_X3_call 74 = .ok (.iinc 4 (-1), 3) := by decide +kernel
theorem d_X3_call_77 : decode b_X3_call 77 = .ok (.goto (-35), 3) := by decide +kernel
theorem d_X3_call_80 : decode b_X3_call 80 = .ok (.aload_n 0, 1) := by decide +kernel
theorem d_X3_call_81 : decode b_X3_call 81 = .ok (.bipush 21, 2) := by decide +kernel
theorem d_X3_call_83 : decode b_X3_call 83 = .ok (.invokevirtual 56, 3) := by decide +kernel
theorem d_X3_call_86 : decode b_X3_call 86 = .ok (.aload_n 0, 1) := by decide +kernel
theorem d_X3_call_87 : decode b_X3_call 87 = .ok (.bipush 6, 2) := by decide +kernel
theorem d_X3_call_89 : decode b_X3_call 89 = .ok (.iload_n 1, 1) := by decide +kernel
theorem d_X3_call_90 : decode b_X3_call 90 = .ok (.iconst 0, 1) := by decide +kernel
theorem d_X3_call_91 : decode b_X3_call 91 = .ok (.iconst 0, 1) := by decide +kernel
theorem d_X3_call_92 : decode b_X3_call 92 = .ok (.invokevirtual 75, 3) := by decide +kernel
theorem d_X3_call_95 : decode b_X3_call 95 = .ok (.pop, 1) := by decide +kernel
theorem d_X3_call_96 : decode b_X3_call 96 = .ok (.return_, 1) := by decide +kernel
theorem d_X3_cast_0 : decode b_X3_cast 0 = .ok (.aload_n 0, 1) := by decide +kernel
theorem d_X3_cast_1 : decode b_X3_cast 1 = .ok (.getfield 44, 3) := by decide +kernel
theorem d_X3_cast_4 : decode b_X3_cast 4 = .ok (.istore_n 2, 1) := by decide +kernel
theorem d_X3_cast_5 : decode b_X3_cast 5 = .ok (.aload_n 0, 1) := by decide +kernel
theorem d_X3_cast_6 : decode b_X3_cast 6 = .ok (.iload_n 1, 1) := by decide +kernel
theorem d_X3_cast_7 : decode b_X3_cast 7 = .ok (.invokevirtual 149, 3) := by decide +kernel
theorem d_X3_cast_10 : decode b_X3_cast 10 = .ok (.ifCond .eq 36, 3) := by decide +kernel
theorem d_X3_cast_13 : decode b_X3_cast 13 = .ok (.aload_n 0, 1) := by decide +kernel
theorem d_X3_cast_14 : decode b_X3_cast 14 = .ok (.iconst 5, 1) := by decide +kernel
theorem d_X3_cast_15 : decode b_X3_cast 15 = .ok (.invokevirtual 56, 3) := by decide +kernel
theorem d_X3_cast_18 : decode b_X3_cast 18 = .ok (.aload_n 0, 1) := by decide +kernel
theorem d_X3_cast_19 : decode b_X3_cast 19 = .ok (.invokevirtual 60, 3) := by decide +kernel
theorem d_X3_cast_22 : decode b_X3_cast 22 = .ok (.istore_n 3, 1) := by decide +kernel
theorem d_X3_cast_23 : decode b_X3_cast 23 = .ok (.aload_n 0, 1) := by decide +kernel
theorem d_X3_cast_24 : decode b_X3_cast 24 = .ok (.bipush 21, 2) := by decide +kernel
theorem d_X3_cast_26 : decode b_X3_cast 26 = .ok (.invokevirtual 56, 3) := by decide +kernel
theorem d_X3_cast_29 : decode b_X3_cast 29 = .ok (.aload_n 0, 1) := by decide +kernel
theorem d_X3_cast_30 : decode b_X3_cast 30 = .ok (.iload_n 1, 1) := by decide +kernel
theorem d_X3_cast_31 : decode b_X3_cast 31 = .ok (.iconst 1, 1) := by decide +kernel
theorem d_X3_cast_32 : decode b_X3_cast 32 = .ok (.iadd, 1) := by decide +kernel
theorem d_X3_cast_33 : decode b_X3_cast 33 = .ok (.invokevirtual 158, 3) := by decide +kernel
theorem d_X3_cast_36 : decode b_X3_cast 36 = .ok (.aload_n 0, 1) := by decide +kernel
theorem d_X3_cast_37 : decode b_X3_cast 37 = .ok (.bipush 12, 2) := by decide +kernel
theorem d_X3_cast_39 : decode b_X3_cast 39 = .ok (.iload_n 2, 1) := by decide +kernel
theorem d_X3_cast_40 : decode b_X3_cast 40 = .ok (.iload_n 3, 1) := by decide +kernel
theorem d_X3_cast_41 : decode b_X3_cast 41 = .ok (.iconst 0, 1) := by decide +kernel
theorem d_X3_cast_42 : decode b_X3_cast 42 = .ok (.invokevirtual 75, 3) := by decide +kernel
theorem d_X3_cast_45 : decode b_X3_cast 45 = .ok (.pop, 1) := by decide +kernel
theorem d_X3_cast_46 : decode b_X3_cast 46 = .ok (.return_, 1) := by decide +kernel
theorem d_X3_choice_0 : decode b_X3_choice 0 = .ok (.aload_n 0, 1) := by decide +kernel
theorem d_X3_choice_1 : decode b_X3_choice 1 = .ok (.iload_n 1, 1) := by decide +kernel
theorem d_X3_choice_2 : decode b_X3_choice 2 = .ok (.invokevirtual 152, 3) := by decide +kernel
theorem d_X3_choice_5 : decode b_X3_choice 5 = .ok (.aload_n 0, 1) := by decide +kernel
theorem d_X3_choice_6 : decode b_X3_choice 6 = .ok (.getfield 44, 3) := by decide +kernel
theorem d_X3_choice_9 : decode b_X3_choice 9 = .ok (.istore_n 2, 1) := by decide +kernel
theorem d_X3_choice_10 : decode b_X3_choice 10 = .ok (.aload_n 0, 1) := by decide +kernel
theorem d_X3_choice_11 : decode b_X3_choice 11 = .ok (.getfield 53, 3) := by decide +kernel
theorem d_X3_choice_14 : decode b_X3_choice 14 = .ok (.bipush 28, 2) := by decide +kernel
theorem d_X3_choice_16 : decode b_X3_choice 16 = .ok (.if_icmp .ne 61, 3) := by decide +kernel
theorem d_X3_choice_19 : decode b_X3_choice 19 = .ok (.aload_n 0, 1) := by decide +kernel
theorem d_X3_choice_20 : decode b_X3_choice 20 = .ok (.iload_n 1, 1) := by decide +kernel
theorem d_X3_choice_21 : decode b_X3_choice 21 = .ok (.invokevirtual 149, 3) := by decide +kernel
theorem d_X3_choice_24 : decode b_X3_choice 24 = .ok (.ifCond .eq 53, 3) := by decide +kernel
theorem d_X3_choice_27 : decode b_X3_choice 27 = .ok (.aload_n 0, 1) := by decide +kernel
theorem d_X3_choice_28 : decode b_X3_choice 28 = .ok (.bipush 14, 2) := by decide +kernel
theorem d_X3_choice_30 : decode b_X3_choice 30 = .ok (.iload_n 2, 1) := by decide +kernel
theorem d_X3_choice_31 : decode b_X3_choice 31 = .ok (.iconst 0, 1) := by decide +kernel
theorem d_X3_choice_32 : decode b_X3_choice 32 = .ok (.iconst 0, 1) := by decide +kernel
theorem d_X3_choice_33 : decode b_X3_choice 33 = .ok (.invokevirtual 75, 3) := by decide +kernel
theorem d_X3_choice_36 : decode b_X3_choice 36 = .ok (.pop, 1) := by decide +kernel
theorem d_X3_choice_37 : decode b_X3_choice 37 = .ok (.aload_n 0, 1) := by decide +kernel
theorem d_X3_choice_38 : decode b_X3_choice 38 = .ok (.iload_n 1, 1) := by decide +kernel
theorem d_X3_choice_39 : decode b_X3_choice 39 = .ok (.iconst 1, 1) := by decide +kernel
theorem d_X3_choice_40 : decode b_X3_choice 40 = .ok (.iadd, 1) := by decide +kernel
theorem d_X3_choice_41 : decode b_X3_choice 41 = .ok (.invokevirtual 119, 3) := by decide +kernel
theorem d_X3_choice_44 : decode b_X3_choice 44 = .ok (.aload_n 0, 1) := by decide +kernel
theorem d_X3_choice_45 : decode b_X3_choice 45 = .ok (.bipush 29, 2) := by decide +kernel
theorem d_X3_choice_47 : decode b_X3_choice 47 = .ok (.invokevirtual 56, 3) := by decide +kernel
theorem d_X3_choice_50 : decode b_X3_choice 50 = .ok (.aload_n 0, 1) := by decide +kernel
theorem d_X3_choice_51 : decode b_X3_choice 51 = .ok (.bipush 15, 2) := by decide +kernel
theorem d_X3_choice_53 : decode b_X3_choice 53 = .ok (.iload_n 2, 1) := by decide +kernel
theorem d_X3_choice_54 : decode b_X3_choice 54 = .ok (.iconst 0, 1) := by decide +kernel
theorem d_X3_choice_55 : decode b_X3_choice 55 = .ok (.iconst 0, 1) := by decide +kernel
theorem d_X3_choice_56 : decode b_X3_choice 56 = .ok (.invokevirtual 75, 3) := by decide +kernel
theorem d_X3_choice_59 : decode b_X3_choice 59 = .ok (.pop, 1) := by decide +kernel
theorem d_X3_choice_60 : decode b_X3_choice 60 = .ok (.aload_n 0, 1) := by decide +kernel
theorem d_X3_choice_61 : decode b_X3_choice 61 = .ok (.iload_n 1, 1) := by decide +kernel
theorem d_X3_choice_62 : decode b_X3_choice 62 = .ok (.iconst 1, 1) := by decide +kernel
theorem d_X3_choice_63 : decode b_X3_choice 63 = .ok (.iadd, 1) := by decide +kernel
theorem d_X3_choice_64 : decode b_X3_choice 64 = .ok (.invokevirtual 146, 3) := by decide +kernel
theorem d_X3_choice_67 : decode b_X3_choice 67 = .ok (.aload_n 0, 1) := by decide +kernel
theorem d_X3_choice_68 : decode b_X3_choice 68 = .ok (.bipush 16, 2) := by decide +kernel
theorem d_X3_choice_70 : decode b_X3_choice 70 = .ok (.iload_n 2, 1) := by decide +kernel
theorem d_X3_choice_71 : decode b_X3_choice 71 = .ok (.iconst 0, 1) := by decide +kernel
theorem d_X3_choice_72 : decode b_X3_choice 72 = .ok (.iconst 0, 1) := by decide +kernel
theorem d_X3_choice_73 : decode b_X3_choice 73 = .ok (.invokevirtual 75, 3) := by decide +kernel
theorem d_X3_choice_76 : decode b_X3_choice 76 = .ok (.pop, 1) := by decide +kernel
theorem d_X3_choice_77 : decode b_X3_choice 77 = .ok (.return_, 1) := by decide +kernel
theorem d_X3_condition_0 : decode b_X3_condition 0 = .ok (.aload_n 0, 1) := by decide +kernel
theorem d_X3_condition_1 : decode b_X3_condition 1 = .ok (.bipush 20, 2) := by decide +kernel
theorem d_X3_condition_3 : decode b_X3_condition 3 = .ok (.invokevirtual 56, 3) := by decide +kernel
theorem d_X3_condition_6 : decode b_X3_condition 6 = .ok (.aload_n 0, 1) := by decide +kernel
theorem d_X3_condition_7 : decode b_X3_condition 7 = .ok (.iconst 1, 1) := by decide +kernel
theorem d_X3_condition_8 : decode b_X3_condition 8 = .ok (.invokevirtual 119, 3) := by decide +kernel
theorem d_X3_condition_11 : decode b_X3_condition 11 = .ok (.aload_n 0, 1) := by decide +kernel
theorem d_X3_condition_12 : decode b_X3_condition 12 = .ok (.bipush 21, 2) := by decide +kernel
theorem d_X3_condition_14 : decode b_X3_condition 14 = .ok (.invokevirtual 56, 3) := by decide +kernel
theorem d_X3_condition_17 : decode b_X3_condition 17 = .ok (.aload_n 0, 1) := by decide +kernel
theorem d_X3_condition_18 : decode b_X3_condition 18 = .ok (.iload_n 1, 1) := by decide +kernel
theorem d_X3_condition_19 : decode b_X3_condition 19 = .ok (.iload_n 2, 1) := by decide +kernel
theorem d_X3_condition_20 : decode b_X3_condition 20 = .ok (.iconst 0, 1) := by decide +kernel
theorem d_X3_condition_21 : decode b_X3_condition 21 = .ok (.iconst 0, 1) := by decide +kernel
theorem d_X3_condition_22 : decode b_X3_condition 22 = .ok (.invokevirtual 75, 3) := by decide +kernel
theorem d_X3_condition_25 : decode b_X3_condition 25 = .ok (.pop, 1) := by decide +kernel
theorem d_X3_condition_26 : decode b_X3_condition 26 = .ok (.return_, 1) := by decide +kernel
theorem d_X3_conditional_0 : decode b_X3_conditional 0 = .ok (.aload_n 0, 1) := by decide +kernel
theorem d_X3_conditional_1 : decode b_X3_conditional 1 = .ok (.getfield 44, 3) := by decide +kernel
theorem d_X3_conditional_4 : decode b_X3_conditional 4 = .ok (.istore_n 2, 1) := by decide +kernel
theorem d_X3_conditional_5 : decode b_X3_conditional 5 = .ok (.aload_n 0, 1) := by decide +kernel
theorem d_X3_conditional_6 : decode b_X3_conditional 6 = .ok (.invokevirtual 47, 3) := by decide +kernel
theorem d_X3_conditional_9 : decode b_X3_conditional 9 = .ok (.aload_n 0, 1) := by decide +kernel
theorem d_X3_conditional_10 : decode b_X3_conditional 10 = .ok (.bipush 23, 2) := by decide +kernel
theorem d_X3_conditional_12 : decode b_X3_conditional 12 = .ok (.iload_n 2, 1) := by decide +kernel
theorem d_X3_conditional_13 : decode b_X3_conditional 13 = .ok (.invokevirtual 137, 3) := by decide +kernel
theorem d_X3_conditional_16 : decode b_X3_conditional 16 = .ok (.aload_n 0, 1) := by decide +kernel
theorem d_X3_conditional_17 : decode b_X3_conditional 17 = .ok (.iload_n 1, 1) := by decide +kernel
theorem d_X3_conditional_18 : decode b_X3_conditional 18 = .ok (.invokevirtual 140, 3) := by decide +kernel
theorem d_X3_conditional_21 : decode b_X3_conditional 21 = .ok (.aload_n 0, 1) := by decide +kernel
theorem d_X3_conditional_22 : decode b_X3_conditional 22 = .ok (.getfield 53, 3) := by decide +kernel
theorem d_X3_conditional_25 : decode b_X3_conditional 25 = .ok (.bipush 10, 2) := by decide +kernel
theorem d_X3_conditional_27 : decode b_X3_conditional 27 = .ok (.if_icmp .ne 22, 3) := by decide +kernel
theorem d_X3_conditional_30 : decode b_X3_conditional 30 = .ok (.aload_n 0, 1) := by decide +kernel
theorem d_X3_conditional_31 : decode b_X3_conditional 31 = .ok (.bipush 24, 2) := by decide +kernel
theorem d_X3_conditional_33 : decode b_X3_conditional 33 = .ok (.iload_n 2, 1) := by decide +kernel
theorem d_X3_conditional_34 : decode b_X3_conditional 34 = .ok (.iconst 0, 1) := by decide +kernel
theorem d_X3_conditional_35 : decode b_X3_conditional 35 = .ok (.iconst 0, 1) := by decide +kernel
theorem d_X3_conditional_36 : decode b_X3_conditional 36 = .ok (.invokevirtual 75, 3) := by decide +kernel
theorem d_X3_conditional_39 : decode b_X3_conditional 39 = .ok (.pop, 1) := by decide +kernel
theorem d_X3_conditional_40 : decode b_X3_conditional 40 = .ok (.aload_n 0, 1) := by decide +kernel
theorem d_X3_conditional_41 : decode b_X3_conditional 41 = .ok (.invokevirtual 47, 3) := by decide +kernel
theorem d_X3_conditional_44 : decode b_X3_conditional 44 = .ok (.aload_n 0, 1) := by decide +kernel
theorem d_X3_conditional_45 : decode b_X3_conditional 45 = .ok (.iload_n 1, 1) := by decide +kernel
theorem d_X3_conditional_46 : decode b_X3_conditional 46 = .ok (.invokevirtual 140, 3) := by decide +kernel
theorem d_X3_conditional_49 : decode b_X3_conditional 49 = .ok (.aload_n 0, 1) := by decide +kernel
theorem d_X3_conditional_50 : decode b_X3_conditional 50 = .ok (.bipush 25, 2) := by decide +kernel
theorem d_X3_conditional_52 : decode b_X3_conditional 52 = .ok (.iload_n 2, 1) := by decide +kernel
theorem d_X3_conditional_53 : decode b_X3_conditional 53 = .ok (.iconst 0, 1) := by decide +kernel
theorem d_X3_conditional_54 : decode b_X3_conditional 54 = .ok (.iconst 0, 1) := by decide +kernel
theorem d_X3_conditional_55 : decode b_X3_conditional 55 = .ok (.invokevirtual 75, 3) := by decide +kernel
theorem d_X3_conditional_58 : decode b_X3_conditional 58 = .ok (.pop, 1) := by decide +kernel
theorem d_X3_conditional_59 : decode b_X3_conditional 59 = .ok (.return_, 1) := by decide +kernel
theorem d_X3_counted_0 : decode b_X3_counted 0 = .ok (.aload_n 0, 1) := by decide +kernel
theorem d_X3_counted_1 : decode b_X3_counted 1 = .ok (.bipush 20, 2) := by decide +kernel
theorem d_X3_counted_3 : decode b_X3_counted 3 = .ok (.invokevirtual 56, 3) := by decide +kernel
theorem d_X3_counted_6 : decode b_X3_counted 6 = .ok (.aload_n 0, 1) := by decide +kernel
theorem d_X3_counted_7 : decode b_X3_counted 7 = .ok (.getfield 53, 3) := by decide +kernel
theorem d_X3_counted_10 : decode b_X3_counted 10 = .ok (.bipush 27, 2) := by decide +kernel
theorem d_X3_counted_12 : decode b_X3_counted 12 = .ok (.if_icmp .eq 18, 3) := by decide +kernel
theorem d_X3_counted_15 : decode b_X3_counted 15 = .ok (.aload_n 0, 1) := by decide +kernel
theorem d_X3_counted_16 : decode b_X3_counted 16 = .ok (.iconst 1, 1) := by decide +kernel
theorem d_X3_counted_17 : decode b_X3_counted 17 = .ok (.invokevirtual 119, 3) := by decide +kernel
theorem d_X3_counted_20 : decode b_X3_counted 20 = .ok (.aload_n 0, 1) := by decide +kernel
theorem d_X3_counted_21 : decode b_X3_counted 21 = .ok (.bipush 22, 2) := by decide +kernel
theorem d_X3_counted_23 : decode b_X3_counted 23 = .ok (.iload_n 1, 1) := by decide +kernel
theorem d_X3_counted_24 : decode b_X3_counted 24 = .ok (.iconst 0, 1) := by decide +kernel
theorem d_X3_counted_25 : decode b_X3_counted 25 = .ok (.iconst 0, 1) := by decide +kernel
theorem d_X3_counted_26 : decode b_X3_counted 26 = .ok (.invokevirtual 75, 3) := by decide +kernel
theorem d_X3_counted_29 : decode b_X3_counted 29 = .ok (.pop, 1) := by decide +kernel
theorem d_X3_counted_30 : decode b_X3_counted 30 = .ok (.aload_n 0, 1) := by decide +kernel
theorem d_X3_counted_31 : decode b_X3_counted 31 = .ok (.bipush 27, 2) := by decide +kernel
theorem d_X3_counted_33 : decode b_X3_counted 33 = .ok (.invokevirtual 56, 3) := by decide +kernel
theorem d_X3_counted_36 : decode b_X3_counted 36 = .ok (.aload_n 0, 1) := by decide +kernel
theorem d_X3_counted_37 : decode b_X3_counted 37 = .ok (.bipush 32, 2) := by decide +kernel
theorem d_X3_counted_39 : decode b_X3_counted 39 = .ok (.iload_n 1, 1) := by decide +kernel
theorem d_X3_counted_40 : decode b_X3_counted 40 = .ok (.iconst 0, 1) := by decide +kernel
theorem d_X3_counted_41 : decode b_X3_counted 41 = .ok (.iconst 0, 1) := by decide +kernel
theorem d_X3_counted_42 : decode b_X3_counted 42 = .ok (.invokevirtual 75, 3) := by decide +kernel
theorem d_X3_counted_45 : decode b_X3_counted 45 = .ok (.pop, 1) := by decide +kernel
theorem d_X3_counted_46 : decode b_X3_counted 46 = .ok (.aload_n 0, 1) := by decide +kernel
theorem d_X3_counted_47 : decode b_X3_counted 47 = .ok (.getfield 53, 3) := by decide +kernel
theorem d_X3_counted_50 : decode b_X3_counted 50 = .ok (.bipush 27, 2) := by decide +kernel
theorem d_X3_counted_52 : decode b_X3_counted 52 = .ok (.if_icmp .eq 7, 3) := by decide +kernel
theorem d_X3_counted_55 : decode b_X3_counted 55 = .ok (.iconst 1, 1) := by decide +kernel
theorem d_X3_counted_56 : decode b_X3_counted 56 = .ok (.goto 4, 3) := by decide +kernel
theorem d_X3_counted_59 : decode b_X3_counted 59 = .ok (.iconst 0, 1) := by decide +kernel
theorem d_X3_counted_60 : decode b_X3_counted 60 = .ok (.istore_n 2, 1) := by decide +kernel
theorem d_X3_counted_61 : decode b_X3_counted 61 = .ok (.iload_n 2, 1) := by decide +kernel
theorem d_X3_counted_62 : decode b_X3_counted 62 = .ok (.ifCond .eq 8, 3) := by decide +kernel
theorem d_X3_counted_65 : decode b_X3_counted 65 = .ok (.aload_n 0, 1) := by decide +kernel
theorem d_X3_counted_66 : decode b_X3_counted 66 = .ok (.iconst 1, 1) := by decide +kernel
theorem d_X3_counted_67 : decode b_X3_counted 67 = .ok (.invokevirtual 119, 3) := by decide +kernel
theorem d_X3_counted_70 : decode b_X3_counted 70 = .ok (.aload_n 0, 1) := by decide +kernel
theorem d_X3_counted_71 : decode b_X3_counted 71 = .ok (.bipush 33, 2) := by decide +kernel
theorem d_X3_counted_73 : decode b_X3_counted 73 = .ok (.iload_n 1, 1) := by decide +kernel
theorem d_X3_counted_74 : decode b_X3_counted 74 = .ok (.iload_n 2, 1) := by decide +kernel
theorem d_X3_counted_75 : decode b_X3_counted 75 = .ok (.ifCond .eq 7, 3) := by decide +kernel
theorem d_X3_counted_78 : decode b_X3_counted 78 = .ok (.iconst 1, 1) := by decide +kernel
theorem d_X3_counted_79 : decode b_X3_counted 79 = .ok (.goto 4, 3) := by decide +kernel
theorem d_X3_counted_82 : decode b_X3_counted 82 = .ok (.iconst 0, 1) := by decide +kernel
theorem d_X3_counted_83 : decode b_X3_counted 83 = .ok (.iconst 0, 1) := by decide +kernel
theorem d_X3_counted_84 : decode b_X3_counted 84 = .ok (.invokevirtual 75, 3) := by decide +kernel
theorem d_X3_counted_87 : decode b_X3_counted 87 = .ok (.pop, 1) := by decide +kernel
theorem d_X3_counted_88 : decode b_X3_counted 88 = .ok (.aload_n 0, 1) := by decide +kernel
theorem d_X3_counted_89 : decode b_X3_counted 89 = .ok (.bipush 27, 2) := by decide +kernel
theorem d_X3_counted_91 : decode b_X3_counted 91 = .ok (.invokevirtual 56, 3) := by decide +kernel
theorem d_X3_counted_94 : decode b_X3_counted 94 = .ok (.aload_n 0, 1) := by decide +kernel
theorem d_X3_counted_95 : decode b_X3_counted 95 = .ok (.getfield 53, 3) := by decide +kernel
theorem d_X3_counted_98 : decode b_X3_counted 98 = .ok (.bipush 21, 2) := by decide +kernel
theorem d_X3_counted_100 : decode b_X3_counted 100 = .ok (.if_icmp .eq 18, 3) := by decide +kernel
theorem d_X3_counted_103 : decode b_X3_counted 103 = .ok (.aload_n 0, 1) := by decide +kernel
theorem d_X3_counted_104 : decode b_X3_counted 104 = .ok (.iconst 1, 1) := by decide +kernel
theorem d_X3_counted_105 : decode b_X3_counted 105 = .ok (.invokevirtual 119, 3) := by decide +kernel
theorem d_X3_counted_108 : decode b_X3_counted 108 = .ok (.aload_n 0, 1) := by decide +kernel
theorem d_X3_counted_109 : decode b_X3_counted 109 = .ok (.bipush 22, 2) := by decide +kernel
theorem d_X3_counted_111 : decode b_X3_counted 111 = .ok (.iload_n 1, 1) := by decide +kernel
theorem d_X3_counted_112 : decode b_X3_counted 112 = .ok (.iconst 0, 1) := by decide +kernel
theorem d_X3_counted_113 : decode b_X3_counted 113 = .ok (.iconst 0, 1) := by decide +kernel
theorem d_X3_counted_114 : decode b_X3_counted 114 = .ok (.invokevirtual 75, 3) := by decide +kernel
theorem d_X3_counted_117 : decode b_X3_counted 117 = .ok (.pop, 1) := by decide +kernel
theorem d_X3_counted_118 : decode b_X3_counted 118 = .ok (.aload_n 0, 1) := by decide +kernel
theorem d_X3_counted_119 : decode b_X3_counted 119 = .ok (.bipush 21, 2) := by decide +kernel
theorem d_X3_counted_121 : decode b_X3_counted 121 = .ok (.invokevirtual 56, 3) := by decide +kernel
theorem d_X3_counted_124 : decode b_X3_counted 124 = .ok (.aload_n 0, 1) := by decide +kernel
theorem d_X3_counted_125 : decode b_X3_counted 125 = .ok (.bipush 34, 2) := by decide +kernel
theorem d_X3_counted_127 : decode b_X3_counted 127 = .ok (.iload_n 1, 1) := by decide +kernel
theorem d_X3_counted_128 : decode b_X3_counted 128 = .ok (.iconst 0, 1) := by decide +kernel
theorem d_X3_counted_129 : decode b_X3_counted 129 = .ok (.iconst 0, 1) := by decide +kernel
theorem d_X3_counted_130 : decode b_X3_counted 130 = .ok (.invokevirtual 75, 3) := by decide +kernel
theorem d_X3_counted_133 : decode b_X3_counted 133 = .ok (.pop, 1) := by decide +kernel
theorem d_X3_counted_134 : decode b_X3_counted 134 = .ok (.return_, 1) := by decide +kernel
theorem d_X3_deeper_0 : decode b_X3_deeper 0 = .ok (.iload_n 1, 1) := by decide +kernel
theorem d_X3_deeper_1 : decode b_X3_deeper 1 = .ok (.bipush 25, 2) := by decide +kernel
theorem d_X3_deeper_3 : decode b_X3_deeper 3 = .ok (.if_icmp .ge 7, 3) := by decide +kernel
theorem d_X3_deeper_6 : decode b_X3_deeper 6 = .ok (.iconst 1, 1) := by decide +kernel
theorem d_X3_deeper_7 : decode b_X3_deeper 7 = .ok (.goto 4, 3) := by decide +kernel
theorem d_X3_deeper_10 : decode b_X3_deeper 10 = .ok (.iconst 0, 1) := by decide +kernel
theorem d_X3_deeper_11 : decode b_X3_deeper 11 = .ok (.istore_n 2, 1) := by decide +kernel
theorem d_X3_deeper_12 : decode b_X3_deeper 12 = .ok (.iload_n 2, 1) := by decide +kernel
theorem d_X3_deeper_13 : decode b_X3_deeper 13 = .ok (.ifCond .eq 10, 3) := by decide +kernel
theorem d_X3_deeper_16 : decode b_X3_deeper 16 = .ok (.aload_n 0, 1) := by decide +kernel
theorem d_X3_deeper_17 : decode b_X3_deeper 17 = .ok (.invokevirtual 47, 3) := by decide +kernel
theorem d_X3_deeper_20 : decode b_X3_deeper 20 = .ok (.goto 7, 3) := by decide +kernel
theorem d_X3_deeper_23 : decode b_X3_deeper 23 = .ok (.aload_n 0, 1) := by decide +kernel
theorem d_X3_deeper_24 : decode b_X3_deeper 24 = .ok (.invokevirtual 82, 3) := by decide +kernel
theorem d_X3_deeper_27 : decode b_X3_deeper 27 = .ok (.iload_n 2, 1) := by decide +kernel
theorem d_X3_deeper_28 : decode b_X3_deeper 28 = .ok (.ireturn, 1) := by decide +kernel
theorem d_X3_expect_0 : decode b_X3_expect 0 = .ok (.aload_n 0, 1) := by decide +kernel
theorem d_X3_expect_1 : decode b_X3_expect 1 = .ok (.getfield 53, 3) := by decide +kernel
theorem d_X3_expect_4 : decode b_X3_expect 4 = .ok (.iload_n 1, 1) := by decide +kernel
theorem d_X3_expect_5 : decode b_X3_expect 5 = .ok (.if_icmp .ne 10, 3) := by decide +kernel
theorem d_X3_expect_8 : decode b_X3_expect 8 = .ok (.aload_n 0, 1) := by decide +kernel
theorem d_X3_expect_9 : decode b_X3_expect 9 = .ok (.invokevirtual 47, 3) := by decide +kernel
theorem d_X3_expect_12 : decode b_X3_expect 12 = .ok (.goto 7, 3) := by decide +kernel
theorem d_X3_expect_15 : decode b_X3_expect 15 = .ok (.aload_n 0, 1) := by decide +kernel
theorem d_X3_expect_16 : decode b_X3_expect 16 = .ok (.invokevirtual 82, 3) := by decide +kernel
theorem d_X3_expect_19 : decode b_X3_expect 19 = .ok (.return_, 1) := by decide +kernel
theorem d_X3_expression_0 : decode b_X3_expression 0 = .ok (.aload_n 0, 1) := by decide +kernel
theorem d_X3_expression_1 : decode b_X3_expression 1 = .ok (.iload_n 1, 1) := by decide +kernel
theorem d_X3_expression_2 : decode b_X3_expression 2 = .ok (.invokevirtual 146, 3) := by decide +kernel
theorem d_X3_expression_5 : decode b_X3_expression 5 = .ok (.aload_n 0, 1) := by decide +kernel
theorem d_X3_expression_6 : decode b_X3_expression 6 = .ok (.getfield 44, 3) := by decide +kernel
theorem d_X3_expression_9 : decode b_X3_expression 9 = .ok (.istore_n 2, 1) := by decide +kernel
theorem d_X3_expression_10 : decode b_X3_expression 10 = .ok (.aload_n 0, 1) := by decide +kernel
theorem d_X3_expression_11 : decode b_X3_expression 11 = .ok (.getfield 53, 3) := by decide +kernel
theorem d_X3_expression_14 : decode b_X3_expression 14 = .ok (.bipush 30, 2) := by decide +kernel
theorem d_X3_expression_16 : decode b_X3_expression 16 = .ok (.if_icmp .lt 47, 3) := by decide +kernel
theorem d_X3_expression_19 : decode b_X3_expression 19 = .ok (.aload_n 0, 1) := by decide +kernel
theorem d_X3_expression_20 : decode b_X3_expression 20 = .ok (.getfield 53, 3) := by decide +kernel
theorem d_X3_expression_23 : decode b_X3_expression 23 = .ok (.bipush 40, 2) := by decide +kernel
theorem d_X3_expression_25 : decode b_X3_expression 25 = .ok (.if_icmp .gt 38, 3) := by decide +kernel
theorem d_X3_expression_28 : decode b_X3_expression 28 = .ok (.aload_n 0, 1) := by decide +kernel
theorem d_X3_expression_29 : decode b_X3_expression 29 = .ok (.iload_n 1, 1) := by decide +kernel
theorem d_X3_expression_30 : decode b_X3_expression 30 = .ok (.invokevirtual 149, 3) := by decide +kernel
theorem d_X3_expression_33 : decode b_X3_expression 33 = .ok (.ifCond .eq 30, 3) := by decide +kernel
theorem d_X3_expression_36 : decode b_X3_expression 36 = .ok (.aload_n 0, 1) := by decide +kernel
theorem d_X3_expression_37 : decode b_X3_expression 37 = .ok (.bipush 7, 2) := by decide +kernel
theorem d_X3_expression_39 : decode b_X3_expression 39 = .ok (.iload_n 2, 1) := by decide +kernel
theorem d_X3_expression_40 : decode b_X3_expression 40 = .ok (.iconst 0, 1) := by decide +kernel
theorem d_X3_expression_41 : decode b_X3_expression 41 = .ok (.iconst 0, 1) := by decide +kernel
theorem d_X3_expression_42 : decode b_X3_expression 42 = .ok (.invokevirtual 75, 3) := by decide +kernel
theorem d_X3_expression_45 : decode b_X3_expression 45 = .ok (.pop, 1) := by decide +kernel
theorem d_X3_expression_46 : decode b_X3_expression 46 = .ok (.aload_n 0, 1) := by decide +kernel
theorem d_X3_expression_47 : decode b_X3_expression 47 = .ok (.iload_n 1, 1) := by decide +kernel
theorem d_X3_expression_48 : decode b_X3_expression 48 = .ok (.iconst 1, 1) := by decide +kernel
theorem d_X3_expression_49 : decode b_X3_expression 49 = .ok (.iadd, 1) := by decide +kernel
theorem d_X3_expression_50 : decode b_X3_expression 50 = .ok (.invokevirtual 119, 3) := by decide +kernel
theorem d_X3_expression_53 : decode b_X3_expression 53 = .ok (.aload_n 0, 1) := by decide +kernel
theorem d_X3_expression_54 : decode b_X3_expression 54 = .ok (.bipush 9, 2) := by decide +kernel
theorem d_X3_expression_56 : decode b_X3_expression 56 = .ok (.iload_n 2, 1) := by decide +kernel
theorem d_X3_expression_57 : decode b_X3_expression 57 = .ok (.iconst 0, 1) := by decide +kernel
theorem d_X3_expression_58 : decode b_X3_expression 58 = .ok (.iconst 0, 1) := by decide +kernel
theorem d_X3_expression_59 : decode b_X3_expression 59 = .ok (.invokevirtual 75, 3) := by decide +kernel
theorem d_X3_expression_62 : decode b_X3_expression 62 = .ok (.pop, 1) := by decide +kernel
theorem d_X3_expression_63 : decode b_X3_expression 63 = .ok (.return_, 1) := by decide +kernel
theorem d_X3_fail_0 : decode b_X3_fail 0 = .ok (.aload_n 0, 1) := by decide +kernel
theorem d_X3_fail_1 : decode b_X3_fail 1 = .ok (.getfield 41, 3) := by decide +kernel
theorem d_X3_fail_4 : decode b_X3_fail 4 = .ok (.ifCond .ge 11, 3) := by decide +kernel
theorem d_X3_fail_7 : decode b_X3_fail 7 = .ok (.aload_n 0, 1) := by decide +kernel
theorem d_X3_fail_8 : decode b_X3_fail 8 = .ok (.aload_n 0, 1) := by decide +kernel
theorem d_X3_fail_9 : decode b_X3_fail 9 = .ok (.getfield 44, 3) := by decide +kernel
theorem d_X3_fail_12 : decode b_X3_fail 12 = .ok (.putfield 41, 3) := by decide +kernel
theorem d_X3_fail_15 : decode b_X3_fail 15 = .ok (.aload_n 0, 1) := by decide +kernel
theorem d_X3_fail_16 : decode b_X3_fail 16 = .ok (.iconst (-1), 1) := by decide +kernel
theorem d_X3_fail_17 : decode b_X3_fail 17 = .ok (.putfield 53, 3) := by decide +kernel
theorem d_X3_fail_20 : decode b_X3_fail 20 = .ok (.return_, 1) := by decide +kernel
theorem d_X3_head_0 : decode b_X3_head 0 = .ok (.aload_n 0, 1) := by decide +kernel
theorem d_X3_head_1 : decode b_X3_head 1 = .ok (.bipush 20, 2) := by decide +kernel
theorem d_X3_head_3 : decode b_X3_head 3 = .ok (.invokevirtual 56, 3) := by decide +kernel
theorem d_X3_head_6 : decode b_X3_head 6 = .ok (.iconst 0, 1) := by decide +kernel
theorem d_X3_head_7 : decode b_X3_head 7 = .ok (.istore 4, 2) := by decide +kernel
theorem d_X3_head_9 : decode b_X3_head 9 = .ok (.aload_n 0, 1) := by decide +kernel
theorem d_X3_head_10 : decode b_X3_head 10 = .ok (.getfield 53, 3) := by decide +kernel
theorem d_X3_head_13 : decode b_X3_head 13 = .ok (.bipush 6, 2) := by decide +kernel
theorem d_X3_head_15 : decode b_X3_head 15 = .ok (.if_icmp .ne 10, 3) := by decide +kernel
theorem d_X3_head_18 : decode b_X3_head 18 = .ok (.aload_n 0, 1) := by decide +kernel
theorem d_X3_head_19 : decode b_X3_head 19 = .ok (.invokevirtual 47, 3) := by decide +kernel
theorem d_X3_head_22 : decode b_X3_head 22 = .ok (.goto 18, 3) := by decide +kernel
theorem d_X3_head_25 : decode b_X3_head 25 = .ok (.aload_n 0, 1) := by decide +kernel
theorem d_X3_head_26 : decode b_X3_head 26 = .ok (.getfield 53, 3) := by decide +kernel
theorem d_X3_head_29 : decode b_X3_head 29 = .ok (.bipush 21, 2) := by decide +kernel
theorem d_X3_head_31 : decode b_X3_head 31 = .ok (.if_icmp .eq 9, 3) := by decide +kernel
theorem d_X3_head_34 : decode b_X3_head 34 = .ok (.aload_n 0, 1) := by decide +kernel
theorem d_X3_head_35 : decode b_X3_head 35 = .ok (.invokevirtual 85, 3) := by decide +kernel
theorem d_X3_head_38 : decode b_X3_head 38 = .ok (.istore 4, 2) := by decide +kernel
theorem d_X3_head_40 : decode b_X3_head 40 = .ok (.aload_n 0, 1) := by decide +kernel
theorem d_X3_head_41 : decode b_X3_head 41 = .ok (.bipush 21, 2) := by decide +kernel
theorem d_X3_head_43 : decode b_X3_head 43 = .ok (.invokevirtual 56, 3) := by decide +kernel
theorem d_X3_head_46 : decode b_X3_head 46 = .ok (.aload_n 0, 1) := by decide +kernel
theorem d_X3_head_47 : decode b_X3_head 47 = .ok (.getfield 53, 3) := by decide +kernel
theorem d_X3_head_50 : decode b_X3_head 50 = .ok (.bipush 22, 2) := by decide +kernel
theorem d_X3_head_52 : decode b_X3_head 52 = .ok (.if_icmp .ne 7, 3) := by decide +kernel
theorem d_X3_head_55 : decode b_X3_head 55 = .ok (.iconst 1, 1) := by decide +kernel
theorem d_X3_head_56 : decode b_X3_head 56 = .ok (.goto 4, 3) := by decide +kernel
theorem d_X3_head_59 : decode b_X3_head 59 = .ok (.iconst 0, 1) := by decide +kernel
theorem d_X3_head_60 : decode b_X3_head 60 = .ok (.istore 5, 2) := by decide +kernel
theorem d_X3_head_62 : decode b_X3_head 62 = .ok (.aload_n 0, 1) := by decide +kernel
theorem d_X3_head_63 : decode b_X3_head 63 = .ok (.bipush 47, 2) := by decide +kernel
theorem d_X3_head_65 : decode b_X3_head 65 = .ok (.iload_n 1, 1) := by decide +kernel
theorem d_X3_head_66 : decode b_X3_head 66 = .ok (.iload 4, 2) := by decide +kernel
theorem d_X3_head_68 : decode b_X3_head 68 = .ok (.iload_n 2, 1) := by decide +kernel
theorem d_X3_head_69 : decode b_X3_head 69 = .ok (.iconst 1, 1) := by decide +kernel
theorem d_X3_head_70 : decode b_X3_head 70 = .ok (.iadd, 1) := by decide +kernel
theorem d_X3_head_71 : decode b_X3_head 71 = .ok (.bipush 8, 2) := by decide +kernel
theorem d_X3_head_73 : decode b_X3_head 73 = .ok (.imul, 1) := by decide +kernel
theorem d_X3_head_74 : decode b_X3_head 74 = .ok (.iload_n 3, 1) := by decide +kernel
theorem d_X3_head_75 : decode b_X3_head 75 = .ok (.iadd, 1) := by decide +kernel
theorem d_X3_head_76 : decode b_X3_head 76 = .ok (.iload 5, 2) := by decide +kernel
theorem d_X3_head_78 : decode b_X3_head 78 = .ok (.ifCond .eq 7, 3) := by decide +kernel
theorem d_X3_head_81 : decode b_X3_head 81 = .ok (.iconst 4, 1) := by decide +kernel
theorem d_X3_head_82 : decode b_X3_head 82 = .ok (.goto 4, 3) := by decide +kernel
theorem d_X3_head_85 : decode b_X3_head 85 = .ok (.iconst 0, 1) := by decide +kernel
theorem d_X3_head_86 : decode b_X3_head 86 = .ok (.iadd, 1) := by decide +kernel
theorem d_X3_head_87 : decode b_X3_head 87 = .ok (.invokevirtual 75, 3) := by decide +kernel
theorem d_X3_head_90 : decode b_X3_head 90 = .ok (.pop, 1) := by decide +kernel
theorem d_X3_head_91 : decode b_X3_head 91 = .ok (.iload 5, 2) := by decide +kernel
theorem d_X3_head_93 : decode b_X3_head 93 = .ok (.ifCond .ne 9, 3) := by decide +kernel
theorem d_X3_head_96 : decode b_X3_head 96 = .ok (.aload_n 0, 1) := by decide +kernel
theorem d_X3_head_97 : decode b_X3_head 97 = .ok (.bipush 27, 2) := by decide +kernel
theorem d_X3_head_99 : decode b_X3_head 99 = .ok (.invokevirtual 56, 3) := by decide +kernel
theorem d_X3_head_102 : decode b_X3_head 102 = .ok (.iconst 0, 1) := by decide +kernel
theorem d_X3_head_103 : decode b_X3_head 103 = .ok (.istore 6, 2) := by decide +kernel
theorem d_X3_head_105 : decode b_X3_head 105 = .ok (.iload 6, 2) := by decide +kernel
theorem d_X3_head_107 : decode b_X3_head 107 = .ok (.iload 4, 2) := by decide +kernel
theorem d_X3_head_109 : decode b_X3_head 109 = .ok (.invokestatic 88, 3) := by decide +kernel
theorem d_X3_head_112 : decode b_X3_head 112 = .ok (.if_icmp .ge 38, 3) := by decide +kernel
theorem d_X3_head_115 : decode b_X3_head 115 = .ok (.iload 5, 2) := by decide +kernel
theorem d_X3_head_117 : decode b_X3_head 117 = .ok (.ifCond .eq 33, 3) := by decide +kernel
theorem d_X3_head_120 : decode b_X3_head 120 = .ok (.aload_n 0, 1) := by decide +kernel
theorem d_X3_head_121 : decode b_X3_head 121 = .ok (.bipush 48, 2) := by decide +kernel
theorem d_X3_head_123 : decode b_X3_head 123 = .ok (.aload_n 0, 1) := by decide +kernel
theorem d_X3_head_124 : decode b_X3_head 124 = .ok (.getfield 27, 3) := by decide +kernel
theorem d_X3_head_127 : decode b_X3_head 127 = .ok (.iload 6, 2) := by decide +kernel
theorem d_X3_head_129 : decode b_X3_head 129 = .ok (.invokestatic 93, 3) := by decide +kernel
theorem d_X3_head_132 : decode b_X3_head 132 = .ok (.iload 4, 2) := by decide +kernel
theorem d_X3_head_134 : decode b_X3_head 134 = .ok (.iload 6, 2) := by decide +kernel
theorem d_X3_head_136 : decode b_X3_head 136 = .ok (.invokestatic 97, 3) := by decide +kernel
theorem d_X3_head_139 : decode b_X3_head 139 = .ok (.iconst 0, 1) := by decide +kernel
theorem d_X3_head_140 : decode b_X3_head 140 = .ok (.invokevirtual 75, 3) := by decide +kernel
theorem d_X3_head_143 : decode b_X3_head 143 = .ok (.pop, 1) := by decide +kernel
theorem d_X3_head_144 : decode b_X3_head 144 = .ok (.iinc 6 1, 3) := by decide +kernel
theorem d_X3_head_147 : decode b_X3_head 147 = .ok (.goto (-42), 3) := by decide +kernel
theorem d_X3_head_150 : decode b_X3_head 150 = .ok (.iload 5, 2) := by decide +kernel
theorem d_X3_head_152 : decode b_X3_head 152 = .ok (.ireturn, 1) := by decide +kernel
theorem d_X3_initial_0 : decode b_X3_initial 0 = .ok (.aload_n 0, 1) := by decide +kernel
theorem d_X3_initial_1 : decode b_X3_initial 1 = .ok (.getfield 44, 3) := by decide +kernel
theorem d_X3_initial_4 : decode b_X3_initial 4 = .ok (.istore_n 3, 1) := by decide +kernel
theorem d_X3_initial_5 : decode b_X3_initial 5 = .ok (.aload_n 0, 1) := by decide +kernel
theorem d_X3_initial_6 : decode b_X3_initial 6 = .ok (.invokevirtual 47, 3) := by decide +kernel
theorem d_X3_initial_9 : decode b_X3_initial 9 = .ok (.aload_n 0, 1) := by decide +kernel
theorem d_X3_initial_10 : decode b_X3_initial 10 = .ok (.getfield 30, 3) := by decide +kernel
theorem d_X3_initial_13 : decode b_X3_initial 13 = .ok (.getfield 79, 3) := by decide +kernel
theorem d_X3_initial_16 : decode b_X3_initial 16 = .ok (.aload_n 0, 1) := by decide +kernel
theorem d_X3_initial_17 : decode b_X3_initial 17 = .ok (.getfield 44, 3) := by decide +kernel
theorem d_X3_initial_20 : decode b_X3_initial 20 = .ok (.iconst 1, 1) := by decide +kernel
theorem d_X3_initial_21 : decode b_X3_initial 21 = .ok (.iadd, 1) := by decide +kernel
theorem d_X3_initial_22 : decode b_X3_initial 22 = .ok (.invokestatic 93, 3) := by decide +kernel
theorem d_X3_initial_25 : decode b_X3_initial 25 = .ok (.istore 4, 2) := by decide +kernel
theorem d_X3_initial_27 : decode b_X3_initial 27 = .ok (.iload_n 1, 1) := by decide +kernel
theorem d_X3_initial_28 : decode b_X3_initial 28 = .ok (.ifCond .lt 29, 3) := by decide +kernel
theorem d_X3_initial_31 : decode b_X3_initial 31 = .ok (.aload_n 0, 1) := by decide +kernel
theorem d_X3_initial_32 : decode b_X3_initial 32 = .ok (.getfield 53, 3) := by decide +kernel
theorem d_X3_initial_35 : decode b_X3_initial 35 = .ok (.iconst 4, 1) := by decide +kernel
theorem d_X3_initial_36 : decode b_X3_initial 36 = .ok (.if_icmp .ne 21, 3) := by decide +kernel
theorem d_X3_initial_39 : decode b_X3_initial 39 = .ok (.iload 4, 2) := by decide +kernel
theorem d_X3_initial_41 : decode b_X3_initial 41 = .ok (.bipush 26, 2) := by decide +kernel
theorem d_X3_initial_43 : decode b_X3_initial 43 = .ok (.if_icmp .eq 10, 3) := by decide +kernel
theorem d_X3_initial_46 : decode b_X3_initial 46 = .ok (.iload 4, 2) := by decide +kernel
theorem d_X3_initial_48 : decode b_X3_initial 48 = .ok (.bipush 27, 2) := by decide +kernel
theorem d_X3_initial_50 : decode b_X3_initial 50 = .ok (.if_icmp .ne 7, 3) := by decide +kernel
theorem d_X3_initial_53 : decode b_X3_initial 53 = .ok (.iconst 1, 1) := by decide +kernel
theorem d_X3_initial_54 : decode b_X3_initial 54 = .ok (.goto 4, 3) := by decide +kernel
theorem d_X3_initial_57 : decode b_X3_initial 57 = .ok (.iconst 0, 1) := by decide +kernel
theorem d_X3_initial_58 : decode b_X3_initial 58 = .ok (.istore 5, 2) := by decide +kernel
theorem d_X3_initial_60 : decode b_X3_initial 60 = .ok (.iload 5, 2) := by decide +kernel
theorem d_X3_initial_62 : decode b_X3_initial 62 = .ok (.ifCond .eq 27, 3) := by decide +kernel
theorem d_X3_initial_65 : decode b_X3_initial 65 = .ok (.aload_n 0, 1) := by decide +kernel
theorem d_X3_initial_66 : decode b_X3_initial 66 = .ok (.getfield 21, 3) := by decide +kernel
theorem d_X3_initial_69 : decode b_X3_initial 69 = .ok (.iload_n 1, 1) := by decide +kernel
theorem d_X3_initial_70 : decode b_X3_initial 70 = .ok (.aload_n 0, 1) := by decide +kernel
theorem d_X3_initial_71 : decode b_X3_initial 71 = .ok (.getfield 30, 3) := by decide +kernel
theorem d_X3_initial_74 : decode b_X3_initial 74 = .ok (.getfield 122, 3) := by decide +kernel
theorem d_X3_initial_77 : decode b_X3_initial 77 = .ok (.aload_n 0, 1) := by decide +kernel
theorem d_X3_initial_78 : decode b_X3_initial 78 = .ok (.getfield 44, 3) := by decide +kernel
theorem d_X3_initial_81 : decode b_X3_initial 81 = .ok (.invokestatic 93, 3) := by decide +kernel
theorem d_X3_initial_84 : decode b_X3_initial 84 = .ok (.iconst 1, 1) := by decide +kernel
theorem d_X3_initial_85 : decode b_X3_initial 85 = .ok (.iadd, 1) := by decide +kernel
theorem d_X3_initial_86 : decode b_X3_initial 86 = .ok (.invokestatic 105, 3) := by decide +kernel
theorem d_X3_initial_89 : decode b_X3_initial 89 = .ok (.aload_n 0, 1) := by decide +kernel
theorem d_X3_initial_90 : decode b_X3_initial 90 = .ok (.getfield 53, 3) := by decide +kernel
theorem d_X3_initial_93 : decode b_X3_initial 93 = .ok (.bipush 22, 2) := by decide +kernel
theorem d_X3_initial_95 : decode b_X3_initial 95 = .ok (.if_icmp .ne 91, 3) := by decide +kernel
theorem d_X3_initial_98 : decode b_X3_initial 98 = .ok (.aload_n 0, 1) := by decide +kernel
theorem d_X3_initial_99 : decode b_X3_initial 99 = .ok (.invokevirtual 47, 3) := by decide +kernel
theorem d_X3_initial_102 : decode b_X3_initial 102 = .ok (.iconst 0, 1) := by decide +kernel
theorem d_X3_initial_103 : decode b_X3_initial 103 = .ok (.istore 6, 2) := by decide +kernel
theorem d_X3_initial_105 : decode b_X3_initial 105 = .ok (.iconst 1, 1) := by decide +kernel
theorem d_X3_initial_106 : decode b_X3_initial 106 = .ok (.istore 7, 2) := by decide +kernel
theorem d_X3_initial_108 : decode b_X3_initial 108 = .ok (.iload 6, 2) := by decide +kernel
theorem d_X3_initial_110 : decode b_X3_initial 110 = .ok (.aload_n 0, 1) := by decide +kernel
theorem d_X3_initial_111 : decode b_X3_initial 111 = .ok (.getfield 30, 3) := by decide +kernel
theorem d_X3_initial_114 : decode b_X3_initial 114 = .ok (.getfield 50, 3) := by decide +kernel
theorem d_X3_initial_117 : decode b_X3_initial 117 = .ok (.if_icmp .ge 40, 3) := by decide +kernel
theorem d_X3_initial_120 : decode b_X3_initial 120 = .ok (.iload 7, 2) := by decide +kernel
theorem d_X3_initial_122 : decode b_X3_initial 122 = .ok (.ifCond .eq 35, 3) := by decide +kernel
theorem d_X3_initial_125 : decode b_X3_initial 125 = .ok (.aload_n 0, 1) := by decide +kernel
theorem d_X3_initial_126 : decode b_X3_initial 126 = .ok (.iconst 1, 1) := by decide +kernel
theorem d_X3_initial_127 : decode b_X3_initial 127 = .ok (.invokevirtual 119, 3) := by decide +kernel
theorem d_X3_initial_130 : decode b_X3_initial 130 = .ok (.aload_n 0, 1) := by decide +kernel
theorem d_X3_initial_131 : decode b_X3_initial 131 = .ok (.bipush 44, 2) := by decide +kernel
theorem d_X3_initial_133 : decode b_X3_initial 133 = .ok (.aload_n 0, 1) := by decide +kernel
theorem d_X3_initial_134 : decode b_X3_initial 134 = .ok (.getfield 44, 3) := by decide +kernel
theorem d_X3_initial_137 : decode b_X3_initial 137 = .ok (.iconst 0, 1) := by decide +kernel
theorem d_X3_initial_138 : decode b_X3_initial 138 = .ok (.iconst 0, 1) := by decide +kernel
theorem d_X3_initial_139 : decode b_X3_initial 139 = .ok (.invokevirtual 75, 3) := by decide +kernel
theorem d_X3_initial_142 : decode b_X3_initial 142 = .ok (.pop, 1) := by decide +kernel
theorem d_X3_initial_143 : decode b_X3_initial 143 = .ok (.aload_n 0, 1) := by decide +kernel
theorem d_X3_initial_144 : decode b_X3_initial 144 = .ok (.bipush 26, 2) := by decide +kernel
theorem d_X3_initial_146 : decode b_X3_initial 146 = .ok (.invokevirtual 101, 3) := by decide +kernel
theorem d_X3_initial_149 : decode b_X3_initial 149 = .ok (.istore 7, 2) := by decide +kernel
theorem d_X3_initial_151 : decode b_X3_initial 151 = .ok (.iinc 6 1, 3) := by decide +kernel
theorem d_X3_initial_154 : decode b_X3_initial 154 = .ok (.goto (-46), 3) := by decide +kernel
theorem d_X3_initial_157 : decode b_X3_initial 157 = .ok (.aload_n 0, 1) := by decide +kernel
theorem d_X3_initial_158 : decode b_X3_initial 158 = .ok (.bipush 23, 2) := by decide +kernel
theorem d_X3_initial_160 : decode b_X3_initial 160 = .ok (.invokevirtual 56, 3) := by decide +kernel
theorem d_X3_initial_163 : decode b_X3_initial 163 = .ok (.aload_n 0, 1) := by decide +kernel
theorem d_X3_initial_164 : decode b_X3_initial 164 = .ok (.getfield 21, 3) := by decide +kernel
theorem d_X3_initial_167 : decode b_X3_initial 167 = .ok (.iload_n 1, 1) := by decide +kernel
theorem d_X3_initial_168 : decode b_X3_initial 168 = .ok (.iload 6, 2) := by decide +kernel
theorem d_X3_initial_170 : decode b_X3_initial 170 = .ok (.invokestatic 105, 3) := by decide +kernel
theorem d_X3_initial_173 : decode b_X3_initial 173 = .ok (.aload_n 0, 1) := by decide +kernel
theorem d_X3_initial_174 : decode b_X3_initial 174 = .ok (.bipush 46, 2) := by decide +kernel
theorem d_X3_initial_176 : decode b_X3_initial 176 = .ok (.iload_n 3, 1) := by decide +kernel
theorem d_X3_initial_177 : decode b_X3_initial 177 = .ok (.iconst 1, 1) := by decide +kernel
theorem d_X3_initial_178 : decode b_X3_initial 178 = .ok (.iconst 0, 1) := by decide +kernel
theorem d_X3_initial_179 : decode b_X3_initial 179 = .ok (.invokevirtual 75, 3) := by decide +kernel
theorem d_X3_initial_182 : decode b_X3_initial 182 = .ok (.pop, 1) := by decide +kernel
theorem d_X3_initial_183 : decode b_X3_initial 183 = .ok (.goto 57, 3) := by decide +kernel
theorem d_X3_initial_186 : decode b_X3_initial 186 = .ok (.iload 5, 2) := by decide +kernel
theorem d_X3_initial_188 : decode b_X3_initial 188 = .ok (.ifCond .eq 37, 3) := by decide +kernel
theorem d_X3_initial_191 : decode b_X3_initial 191 = .ok (.iload_n 2, 1) := by decide +kernel
theorem d_X3_initial_192 : decode b_X3_initial 192 = .ok (.ifCond .ne 33, 3) := by decide +kernel
theorem d_X3_initial_195 : decode b_X3_initial 195 = .ok (.aload_n 0, 1) := by decide +kernel
theorem d_X3_initial_196 : decode b_X3_initial 196 = .ok (.bipush 45, 2) := by decide +kernel
theorem d_X3_initial_198 : decode b_X3_initial 198 = .ok (.aload_n 0, 1) := by decide +kernel
theorem d_X3_initial_199 : decode b_X3_initial 199 = .ok (.getfield 44, 3) := by decide +kernel
theorem d_X3_initial_202 : decode b_X3_initial 202 = .ok (.iconst 0, 1) := by decide +kernel
theorem d_X3_initial_203 : decode b_X3_initial 203 = .ok (.iconst 0, 1) := by decide +kernel
theorem d_X3_initial_204 : decode b_X3_initial 204 = .ok (.invokevirtual 75, 3) := by decide +kernel
theorem d_X3_initial_207 : decode b_X3_initial 207 = .ok (.pop, 1) := by decide +kernel
theorem d_X3_initial_208 : decode b_X3_initial 208 = .ok (.aload_n 0, 1) := by decide +kernel
theorem d_X3_initial_209 : decode b_X3_initial 209 = .ok (.invokevirtual 47, 3) := by decide +kernel
theorem d_X3_initial_212 : decode b_X3_initial 212 = .ok (.aload_n 0, 1) := by decide +kernel
theorem d_X3_initial_213 : decode b_X3_initial 213 = .ok (.bipush 46, 2) := by decide +kernel
theorem d_X3_initial_215 : decode b_X3_initial 215 = .ok (.iload_n 3, 1) := by decide +kernel
theorem d_X3_initial_216 : decode b_X3_initial 216 = .ok (.iconst 2, 1) := by decide +kernel
theorem d_X3_initial_217 : decode b_X3_initial 217 = .ok (.iconst 0, 1) := by decide +kernel
theorem d_X3_initial_218 : decode b_X3_initial 218 = .ok (.invokevirtual 75, 3) := by decide +kernel
theorem d_X3_initial_221 : decode b_X3_initial 221 = .ok (.pop, 1) := by decide +kernel
theorem d_X3_initial_222 : decode b_X3_initial 222 = .ok (.goto 18, 3) := by decide +kernel
theorem d_X3_initial_225 : decode b_X3_initial 225 = .ok (.aload_n 0, 1) := by decide +kernel
theorem d_X3_initial_226 : decode b_X3_initial 226 = .ok (.iconst 1, 1) := by decide +kernel
theorem d_X3_initial_227 : decode b_X3_initial 227 = .ok (.invokevirtual 119, 3) := by decide +kernel
theorem d_X3_initial_230 : decode b_X3_initial 230 = .ok (.aload_n 0, 1) := by decide +kernel
theorem d_X3_initial_231 : decode b_X3_initial 231 = .ok (.bipush 46, 2) := by decide +kernel
theorem d_X3_initial_233 : decode b_X3_initial 233 = .ok (.iload_n 3, 1) := by decide +kernel
theorem d_X3_initial_234 : decode b_X3_initial 234 = .ok (.iconst 0, 1) := by decide +kernel
theorem d_X3_initial_235 : decode b_X3_initial 235 = .ok (.iconst 0, 1) := by decide +kernel
theorem d_X3_initial_236 : decode b_X3_initial 236 = .ok (.invokevirtual 75, 3) := by decide +kernel
theorem d_X3_initial_239 : decode b_X3_initial 239 = .ok (.pop, 1) := by decide +kernel
theorem d_X3_initial_240 : decode b_X3_initial 240 = .ok (.return_, 1) := by decide +kernel
theorem d_X3_levelOf_0 : decode b_X3_levelOf 0 = .ok (.iload_n 0, 1) := by decide +kernel
theorem d_X3_levelOf_1 : decode b_X3_levelOf 1 = .ok (.bipush 41, 2) := by decide +kernel
theorem d_X3_levelOf_3 : decode b_X3_levelOf 3 = .ok (.isub, 1) := by decide +kernel
theorem d_X3_levelOf_4 : decode b_X3_levelOf 4 = .ok (.istore_n 1, 1) := by decide +kernel
theorem d_X3_levelOf_5 : decode b_X3_levelOf 5 = .ok (.iload_n 1, 1) := by decide +kernel
theorem d_X3_levelOf_6 : decode b_X3_levelOf 6 = .ok (.ifCond .lt 19, 3) := by decide +kernel
theorem d_X3_levelOf_9 : decode b_X3_levelOf 9 = .ok (.iload_n 1, 1) := by decide +kernel
theorem d_X3_levelOf_10 : decode b_X3_levelOf 10 = .ok (.getstatic 155, 3) := by decide +kernel
theorem d_X3_levelOf_13 : decode b_X3_levelOf 13 = .ok (.arraylength, 1) := by decide +kernel
theorem d_X3_levelOf_14 : decode b_X3_levelOf 14 = .ok (.if_icmp .ge 11, 3) := by decide +kernel
theorem d_X3_levelOf_17 : decode b_X3_levelOf 17 = .ok (.getstatic 155, 3) := by decide +kernel
theorem d_X3_levelOf_20 : decode b_X3_levelOf 20 = .ok (.iload_n 1, 1) := by decide +kernel
theorem d_X3_levelOf_21 : decode b_X3_levelOf 21 = .ok (.iaload, 1) := by decide +kernel
theorem d_X3_levelOf_22 : decode b_X3_levelOf 22 = .ok (.goto 4, 3) := by decide +kernel
theorem d_X3_levelOf_25 : decode b_X3_levelOf 25 = .ok (.iconst 0, 1) := by decide +kernel
theorem d_X3_levelOf_26 : decode b_X3_levelOf 26 = .ok (.ireturn, 1) := by decide +kernel
theorem d_X3_loop_0 : decode b_X3_loop 0 = .ok (.aload_n 0, 1) := by decide +kernel
theorem d_X3_loop_1 : decode b_X3_loop 1 = .ok (.getfield 44, 3) := by decide +kernel
theorem d_X3_loop_4 : decode b_X3_loop 4 = .ok (.istore_n 2, 1) := by decide +kernel
theorem d_X3_loop_5 : decode b_X3_loop 5 = .ok (.aload_n 0, 1) := by decide +kernel
theorem d_X3_loop_6 : decode b_X3_loop 6 = .ok (.getfield 53, 3) := by decide +kernel
theorem d_X3_loop_9 : decode b_X3_loop 9 = .ok (.istore_n 3, 1) := by decide +kernel
theorem d_X3_loop_10 : decode b_X3_loop 10 = .ok (.aload_n 0, 1) := by decide +kernel
theorem d_X3_loop_11 : decode b_X3_loop 11 = .ok (.invokevirtual 47, 3) := by decide +kernel
theorem d_X3_loop_14 : decode b_X3_loop 14 = .ok (.iload_n 3, 1) := by decide +kernel
theorem d_X3_loop_15 : decode b_X3_loop 15 = .ok (.bipush 11, 2) := by decide +kernel
theorem d_X3_loop_17 : decode b_X3_loop 17 = .ok (.if_icmp .ne 38, 3) := by decide +kernel
theorem d_X3_loop_20 : decode b_X3_loop 20 = .ok (.aload_n 0, 1) := by decide +kernel
theorem d_X3_loop_21 : decode b_X3_loop 21 = .ok (.bipush 26, 2) := by decide +kernel
theorem d_X3_loop_23 : decode b_X3_loop 23 = .ok (.iload_n 2, 1) := by decide +kernel
theorem d_X3_loop_24 : decode b_X3_loop 24 = .ok (.iconst 0, 1) := by decide +kernel
theorem d_X3_loop_25 : decode b_X3_loop 25 = .ok (.iconst 0, 1) := by decide +kernel
theorem d_X3_loop_26 : decode b_X3_loop 26 = .ok (.invokevirtual 75, 3) := by decide +kernel
theorem d_X3_loop_29 : decode b_X3_loop 29 = .ok (.pop, 1) := by decide +kernel
theorem d_X3_loop_30 : decode b_X3_loop 30 = .ok (.aload_n 0, 1) := by decide +kernel
theorem d_X3_loop_31 : decode b_X3_loop 31 = .ok (.bipush 27, 2) := by decide +kernel
theorem d_X3_loop_33 : decode b_X3_loop 33 = .ok (.iload_n 2, 1) := by decide +kernel
theorem d_X3_loop_34 : decode b_X3_loop 34 = .ok (.invokevirtual 137, 3) := by decide +kernel
theorem d_X3_loop_37 : decode b_X3_loop 37 = .ok (.aload_n 0, 1) := by decide +kernel
theorem d_X3_loop_38 : decode b_X3_loop 38 = .ok (.iload_n 1, 1) := by decide +kernel
theorem d_X3_loop_39 : decode b_X3_loop 39 = .ok (.invokevirtual 140, 3) := by decide +kernel
theorem d_X3_loop_42 : decode b_X3_loop 42 = .ok (.aload_n 0, 1) := by decide +kernel
theorem d_X3_loop_43 : decode b_X3_loop 43 = .ok (.bipush 28, 2) := by decide +kernel
theorem d_X3_loop_45 : decode b_X3_loop 45 = .ok (.iload_n 2, 1) := by decide +kernel
theorem d_X3_loop_46 : decode b_X3_loop 46 = .ok (.iconst 0, 1) := by decide +kernel
theorem d_X3_loop_47 : decode b_X3_loop 47 = .ok (.iconst 0, 1) := by decide +kernel
theorem d_X3_loop_48 : decode b_X3_loop 48 = .ok (.invokevirtual 75, 3) := by decide +kernel
theorem d_X3_loop_51 : decode b_X3_loop 51 = .ok (.pop, 1) := by decide +kernel
theorem d_X3_loop_52 : decode b_X3_loop 52 = .ok (.goto 84, 3) := by decide +kernel
theorem d_X3_loop_55 : decode b_X3_loop 55 = .ok (.iload_n 3, 1) := by decide +kernel
theorem d_X3_loop_56 : decode b_X3_loop 56 = .ok (.bipush 12, 2) := by decide +kernel
theorem d_X3_loop_58 : decode b_X3_loop 58 = .ok (.if_icmp .ne 58, 3) := by decide +kernel
theorem d_X3_loop_61 : decode b_X3_loop 61 = .ok (.aload_n 0, 1) := by decide +kernel
theorem d_X3_loop_62 : decode b_X3_loop 62 = .ok (.bipush 29, 2) := by decide +kernel
theorem d_X3_loop_64 : decode b_X3_loop 64 = .ok (.iload_n 2, 1) := by decide +kernel
theorem d_X3_loop_65 : decode b_X3_loop 65 = .ok (.iconst 0, 1) := by decide +kernel
theorem d_X3_loop_66 : decode b_X3_loop 66 = .ok (.iconst 0, 1) := by decide +kernel
theorem d_X3_loop_67 : decode b_X3_loop 67 = .ok (.invokevirtual 75, 3) := by decide +kernel
theorem d_X3_loop_70 : decode b_X3_loop 70 = .ok (.pop, 1) := by decide +kernel
theorem d_X3_loop_71 : decode b_X3_loop 71 = .ok (.aload_n 0, 1) := by decide +kernel
theorem d_X3_loop_72 : decode b_X3_loop 72 = .ok (.iload_n 1, 1) := by decide +kernel
theorem d_X3_loop_73 : decode b_X3_loop 73 = .ok (.invokevirtual 140, 3) := by decide +kernel
theorem d_X3_loop_76 : decode b_X3_loop 76 = .ok (.aload_n 0, 1) := by decide +kernel
theorem d_X3_loop_77 : decode b_X3_loop 77 = .ok (.getfield 44, 3) := by decide +kernel
theorem d_X3_loop_80 : decode b_X3_loop 80 = .ok (.istore 4, 2) := by decide +kernel
theorem d_X3_loop_82 : decode b_X3_loop 82 = .ok (.aload_n 0, 1) := by decide +kernel
theorem d_X3_loop_83 : decode b_X3_loop 83 = .ok (.bipush 11, 2) := by decide +kernel
theorem d_X3_loop_85 : decode b_X3_loop 85 = .ok (.invokevirtual 56, 3) := by decide +kernel
theorem d_X3_loop_88 : decode b_X3_loop 88 = .ok (.aload_n 0, 1) := by decide +kernel
theorem d_X3_loop_89 : decode b_X3_loop 89 = .ok (.bipush 30, 2) := by decide +kernel
theorem d_X3_loop_91 : decode b_X3_loop 91 = .ok (.iload 4, 2) := by decide +kernel
theorem d_X3_loop_93 : decode b_X3_loop 93 = .ok (.iconst 0, 1) := by decide +kernel
theorem d_X3_loop_94 : decode b_X3_loop 94 = .ok (.iconst 0, 1) := by decide +kernel
theorem d_X3_loop_95 : decode b_X3_loop 95 = .ok (.invokevirtual 75, 3) := by decide +kernel
theorem d_X3_loop_98 : decode b_X3_loop 98 = .ok (.pop, 1) := by decide +kernel
theorem d_X3_loop_99 : decode b_X3_loop 99 = .ok (.aload_n 0, 1) := by decide +kernel
theorem d_X3_loop_100 : decode b_X3_loop 100 = .ok (.bipush 31, 2) := by decide +kernel
theorem d_X3_loop_102 : decode b_X3_loop 102 = .ok (.iload 4, 2) := by decide +kernel
theorem d_X3_loop_104 : decode b_X3_loop 104 = .ok (.invokevirtual 137, 3) := by decide +kernel
theorem d_X3_loop_107 : decode b_X3_loop 107 = .ok (.aload_n 0, 1) := by decide +kernel
theorem d_X3_loop_108 : decode b_X3_loop 108 = .ok (.bipush 27, 2) := by decide +kernel
theorem d_X3_loop_110 : decode b_X3_loop 110 = .ok (.invokevirtual 56, 3) := by decide +kernel
theorem d_X3_loop_113 : decode b_X3_loop 113 = .ok (.goto 23, 3) := by decide +kernel
theorem d_X3_loop_116 : decode b_X3_loop 116 = .ok (.aload_n 0, 1) := by decide +kernel
theorem d_X3_loop_117 : decode b_X3_loop 117 = .ok (.iload_n 2, 1) := by decide +kernel
theorem d_X3_loop_118 : decode b_X3_loop 118 = .ok (.invokevirtual 143, 3) := by decide +kernel
theorem d_X3_loop_121 : decode b_X3_loop 121 = .ok (.aload_n 0, 1) := by decide +kernel
theorem d_X3_loop_122 : decode b_X3_loop 122 = .ok (.iload_n 1, 1) := by decide +kernel
theorem d_X3_loop_123 : decode b_X3_loop 123 = .ok (.invokevirtual 140, 3) := by decide +kernel
theorem d_X3_loop_126 : decode b_X3_loop 126 = .ok (.aload_n 0, 1) := by decide +kernel
theorem d_X3_loop_127 : decode b_X3_loop 127 = .ok (.bipush 35, 2) := by decide +kernel
theorem d_X3_loop_129 : decode b_X3_loop 129 = .ok (.iload_n 2, 1) := by decide +kernel
theorem d_X3_loop_130 : decode b_X3_loop 130 = .ok (.iconst 0, 1) := by decide +kernel
theorem d_X3_loop_131 : decode b_X3_loop 131 = .ok (.iconst 0, 1) := by decide +kernel
theorem d_X3_loop_132 : decode b_X3_loop 132 = .ok (.invokevirtual 75, 3) := by decide +kernel
theorem d_X3_loop_135 : decode b_X3_loop 135 = .ok (.pop, 1) := by decide +kernel
theorem d_X3_loop_136 : decode b_X3_loop 136 = .ok (.return_, 1) := by decide +kernel
theorem d_X3_parameters_0 : decode b_X3_parameters 0 = .ok (.iconst 0, 1) := by decide +kernel
theorem d_X3_parameters_1 : decode b_X3_parameters 1 = .ok (.istore_n 1, 1) := by decide +kernel
theorem d_X3_parameters_2 : decode b_X3_parameters 2 = .ok (.iconst 0, 1) := by decide +kernel
theorem d_X3_parameters_3 : decode b_X3_parameters 3 = .ok (.istore_n 2, 1) := by decide +kernel
theorem d_X3_parameters_4 : decode b_X3_parameters 4 = .ok (.iconst 1, 1) := by decide +kernel
theorem d_X3_parameters_5 : decode b_X3_parameters 5 = .ok (.istore_n 3, 1) := by decide +kernel
theorem d_X3_parameters_6 : decode b_X3_parameters 6 = .ok (.iload_n 2, 1) := by decide +kernel
theorem d_X3_parameters_7 : decode b_X3_parameters 7 = .ok (.bipush 8, 2) := by decide +kernel
theorem d_X3_parameters_9 : decode b_X3_parameters 9 = .ok (.if_icmp .ge 91, 3) := by decide +kernel
theorem d_X3_parameters_12 : decode b_X3_parameters 12 = .ok (.iload_n 3, 1) := by decide +kernel
theorem d_X3_parameters_13 : decode b_X3_parameters 13 = .ok (.ifCond .eq 87, 3) := by decide +kernel
theorem d_X3_parameters_16 : decode b_X3_parameters 16 = .ok (.aload_n 0, 1) := by decide +kernel
theorem d_X3_parameters_17 : decode b_X3_parameters 17 = .ok (.iconst 5, 1) := by decide +kernel
theorem d_X3_parameters_18 : decode b_X3_parameters 18 = .ok (.invokevirtual 56, 3) := by decide +kernel
theorem d_X3_parameters_21 : decode b_X3_parameters 21 = .ok (.aload_n 0, 1) := by decide +kernel
theorem d_X3_parameters_22 : decode b_X3_parameters 22 = .ok (.invokevirtual 60, 3) := by decide +kernel
theorem d_X3_parameters_25 : decode b_X3_parameters 25 = .ok (.istore 4, 2) := by decide +kernel
theorem d_X3_parameters_27 : decode b_X3_parameters 27 = .ok (.aload_n 0, 1) := by decide +kernel
theorem d_X3_parameters_28 : decode b_X3_parameters 28 = .ok (.getfield 44, 3) := by decide +kernel
theorem d_X3_parameters_31 : decode b_X3_parameters 31 = .ok (.istore 5, 2) := by decide +kernel
theorem d_X3_parameters_33 : decode b_X3_parameters 33 = .ok (.aload_n 0, 1) := by decide +kernel
theorem d_X3_parameters_34 : decode b_X3_parameters 34 = .ok (.iconst 2, 1) := by decide +kernel
theorem d_X3_parameters_35 : decode b_X3_parameters 35 = .ok (.invokevirtual 101, 3) := by decide +kernel
theorem d_X3_parameters_38 : decode b_X3_parameters 38 = .ok (.istore 6, 2) := by decide +kernel
theorem d_X3_parameters_40 : decode b_X3_parameters 40 = .ok (.aload_n 0, 1) := by decide +kernel
theorem d_X3_parameters_41 : decode b_X3_parameters 41 = .ok (.bipush 24, 2) := by decide +kernel
theorem d_X3_parameters_43 : decode b_X3_parameters 43 = .ok (.invokevirtual 101, 3) := by decide +kernel
theorem d_X3_parameters_46 : decode b_X3_parameters 46 = .ok (.ifCond .eq 12, 3) := by decide +kernel
theorem d_X3_parameters_49 : decode b_X3_parameters 49 = .ok (.aload_n 0, 1) := by decide +kernel
theorem d_X3_parameters_50 : decode b_X3_parameters 50 = .ok (.bipush 25, 2) := by decide +kernel
theorem d_X3_parameters_52 : decode b_X3_parameters 52 = .ok (.invokevirtual 56, 3) := by decide +kernel
theorem d_X3_parameters_55 : decode b_X3_parameters 55 = .ok (.iinc 4 1, 3) := by decide +kernel
theorem d_X3_parameters_58 : decode b_X3_parameters 58 = .ok (.aload_n 0, 1) := by decide +kernel
theorem d_X3_parameters_59 : decode b_X3_parameters 59 = .ok (.getfield 27, 3) := by decide +kernel
theorem d_X3_parameters_62 : decode b_X3_parameters 62 = .ok (.iload_n 2, 1) := by decide +kernel
theorem d_X3_parameters_63 : decode b_X3_parameters 63 = .ok (.iload 6, 2) := by decide +kernel
theorem d_X3_parameters_65 : decode b_X3_parameters 65 = .ok (.ifCond .eq 8, 3) := by decide +kernel
theorem d_X3_parameters_68 : decode b_X3_parameters 68 = .ok (.iload 5, 2) := by decide +kernel
theorem d_X3_parameters_70 : decode b_X3_parameters 70 = .ok (.goto 7, 3) := by decide +kernel
theorem d_X3_parameters_73 : decode b_X3_parameters 73 = .ok (.aload_n 0, 1) := by decide +kernel
theorem d_X3_parameters_74 : decode b_X3_parameters 74 = .ok (.getfield 44, 3) := by decide +kernel
theorem d_X3_parameters_77 : decode b_X3_parameters 77 = .ok (.invokestatic 105, 3) := by decide +kernel
theorem d_X3_parameters_80 : decode b_X3_parameters 80 = .ok (.iload_n 1, 1) := by decide +kernel
theorem d_X3_parameters_81 : decode b_X3_parameters 81 = .ok (.iload 4, 2) := by decide +kernel
theorem d_X3_parameters_83 : decode b_X3_parameters 83 = .ok (.invokestatic 109, 3) := by decide +kernel
theorem d_X3_parameters_86 : decode b_X3_parameters 86 = .ok (.istore_n 1, 1) := by decide +kernel
theorem d_X3_parameters_87 : decode b_X3_parameters 87 = .ok (.aload_n 0, 1) := by decide +kernel
theorem d_X3_parameters_88 : decode b_X3_parameters 88 = .ok (.bipush 26, 2) := by decide +kernel
theorem d_X3_parameters_90 : decode b_X3_parameters 90 = .ok (.invokevirtual 101, 3) := by decide +kernel
theorem d_X3_parameters_93 : decode b_X3_parameters 93 = .ok (.istore_n 3, 1) := by decide +kernel
theorem d_X3_parameters_94 : decode b_X3_parameters 94 = .ok (.iinc 2 1, 3) := by decide +kernel
theorem d_X3_parameters_97 : decode b_X3_parameters 97 = .ok (.goto (-91), 3) := by decide +kernel
theorem d_X3_parameters_100 : decode b_X3_parameters 100 = .ok (.iload_n 3, 1) := by decide +kernel
theorem d_X3_parameters_101 : decode b_X3_parameters 101 = .ok (.ifCond .eq 7, 3) := by decide +kernel
theorem d_X3_parameters_104 : decode b_X3_parameters 104 = .ok (.aload_n 0, 1) := by decide +kernel
theorem d_X3_parameters_105 : decode b_X3_parameters 105 = .ok (.invokevirtual 82, 3) := by decide +kernel
theorem d_X3_parameters_108 : decode b_X3_parameters 108 = .ok (.iload_n 1, 1) := by decide +kernel
theorem d_X3_parameters_109 : decode b_X3_parameters 109 = .ok (.ireturn, 1) := by decide +kernel
theorem d_X3_primary_0 : decode b_X3_primary 0 = .ok (.aload_n 0, 1) := by decide +kernel
theorem d_X3_primary_1 : decode b_X3_primary 1 = .ok (.getfield 44, 3) := by decide +kernel
theorem d_X3_primary_4 : decode b_X3_primary 4 = .ok (.istore_n 2, 1) := by decide +kernel
theorem d_X3_primary_5 : decode b_X3_primary 5 = .ok (.aload_n 0, 1) := by decide +kernel
theorem d_X3_primary_6 : decode b_X3_primary 6 = .ok (.getfield 53, 3) := by decide +kernel
theorem d_X3_primary_9 : decode b_X3_primary 9 = .ok (.lookupswitch 129 #[(2, 71), (3, 43), (4, 43), (20, 105)], 43) := by decide +kernel
theorem d_X3_primary_52 : decode b_X3_primary 52 = .ok (.aload_n 0, 1) := by decide +kernel
theorem d_X3_primary_53 : decode b_X3_primary 53 = .ok (.aload_n 0, 1) := by decide +kernel
theorem d_X3_primary_54 : decode b_X3_primary 54 = .ok (.getfield 53, 3) := by decide +kernel
theorem d_X3_primary_57 : decode b_X3_primary 57 = .ok (.iconst 3, 1) := by decide +kernel
theorem d_X3_primary_58 : decode b_X3_primary 58 = .ok (.if_icmp .ne 7, 3) := by decide +kernel
theorem d_X3_primary_61 : decode b_X3_primary 61 = .ok (.iconst 1, 1) := by decide +kernel
theorem d_X3_primary_62 : decode b_X3_primary 62 = .ok (.goto 4, 3) := by decide +kernel
theorem d_X3_primary_65 : decode b_X3_primary 65 = .ok (.iconst 2, 1) := by decide +kernel
theorem d_X3_primary_66 : decode b_X3_primary 66 = .ok (.iload_n 2, 1) := by decide +kernel
theorem d_X3_primary_67 : decode b_X3_primary 67 = .ok (.iconst 0, 1) := by decide +kernel
theorem d_X3_primary_68 : decode b_X3_primary 68 = .ok (.iconst 0, 1) := by decide +kernel
theorem d_X3_primary_69 : decode b_X3_primary 69 = .ok (.invokevirtual 75, 3) := by decide +kernel
theorem d_X3_primary_72 : decode b_X3_primary 72 = .ok (.pop, 1) := by decide +kernel
theorem d_X3_primary_73 : decode b_X3_primary 73 = .ok (.aload_n 0, 1) := by decide +kernel
theorem d_X3_primary_74 : decode b_X3_primary 74 = .ok (.invokevirtual 47, 3) := by decide +kernel
theorem d_X3_primary_77 : decode b_X3_primary 77 = .ok (.goto 65, 3) := by decide +kernel
theorem d_X3_primary_80 : decode b_X3_primary 80 = .ok (.aload_n 0, 1) := by decide +kernel
theorem d_X3_primary_81 : decode b_X3_primary 81 = .ok (.invokevirtual 47, 3) := by decide +kernel
theorem d_X3_primary_84 : decode b_X3_primary 84 = .ok (.aload_n 0, 1) := by decide +kernel
theorem d_X3_primary_85 : decode b_X3_primary 85 = .ok (.getfield 53, 3) := by decide +kernel
theorem d_X3_primary_88 : decode b_X3_primary 88 = .ok (.bipush 20, 2) := by decide +kernel
theorem d_X3_primary_90 : decode b_X3_primary 90 = .ok (.if_icmp .ne 12, 3) := by decide +kernel
theorem d_X3_primary_93 : decode b_X3_primary 93 = .ok (.aload_n 0, 1) := by decide +kernel
theorem d_X3_primary_94 : decode b_X3_primary 94 = .ok (.iload_n 2, 1) := by decide +kernel
theorem d_X3_primary_95 : decode b_X3_primary 95 = .ok (.iload_n 1, 1) := by decide +kernel
theorem d_X3_primary_96 : decode b_X3_primary 96 = .ok (.invokevirtual 176, 3) := by decide +kernel
theorem d_X3_primary_99 : decode b_X3_primary 99 = .ok (.goto 43, 3) := by decide +kernel
theorem d_X3_primary_102 : decode b_X3_primary 102 = .ok (.aload_n 0, 1) := by decide +kernel
theorem d_X3_primary_103 : decode b_X3_primary 103 = .ok (.iconst 3, 1) := by decide +kernel
theorem d_X3_primary_104 : decode b_X3_primary 104 = .ok (.iload_n 2, 1) := by decide +kernel
theorem d_X3_primary_105 : decode b_X3_primary 105 = .ok (.iconst 0, 1) := by decide +kernel
theorem d_X3_primary_106 : decode b_X3_primary 106 = .ok (.iconst 0, 1) := by decide +kernel
theorem d_X3_primary_107 : decode b_X3_primary 107 = .ok (.invokevirtual 75, 3) := by decide +kernel
theorem d_X3_primary_110 : decode b_X3_primary 110 = .ok (.pop, 1) := by decide +kernel
theorem d_X3_primary_111 : decode b_X3_primary 111 = .ok (.goto 31, 3) := by decide +kernel
theorem d_X3_primary_114 : decode b_X3_primary 114 = .ok (.aload_n 0, 1) := by decide +kernel
theorem d_X3_primary_115 : decode b_X3_primary 115 = .ok (.iload_n 1, 1) := by decide +kernel
theorem d_X3_primary_116 : decode b_X3_primary 116 = .ok (.invokevirtual 149, 3) := by decide +kernel
theorem d_X3_primary_119 : decode b_X3_primary 119 = .ok (.ifCond .eq 23, 3) := by decide +kernel
theorem d_X3_primary_122 : decode b_X3_primary 122 = .ok (.aload_n 0, 1) := by decide +kernel
theorem d_X3_primary_123 : decode b_X3_primary 123 = .ok (.iload_n 1, 1) := by decide +kernel
theorem d_X3_primary_124 : decode b_X3_primary 124 = .ok (.iconst 1, 1) := by decide +kernel
theorem d_X3_primary_125 : decode b_X3_primary 125 = .ok (.iadd, 1) := by decide +kernel
theorem d_X3_primary_126 : decode b_X3_primary 126 = .ok (.invokevirtual 119, 3) := by decide +kernel
theorem d_X3_primary_129 : decode b_X3_primary 129 = .ok (.aload_n 0, 1) := by decide +kernel
theorem d_X3_primary_130 : decode b_X3_primary 130 = .ok (.bipush 21, 2) := by decide +kernel
theorem d_X3_primary_132 : decode b_X3_primary 132 = .ok (.invokevirtual 56, 3) := by decide +kernel
theorem d_X3_primary_135 : decode b_X3_primary 135 = .ok (.goto 7, 3) := by decide +kernel
theorem d_X3_primary_138 : decode b_X3_primary 138 = .ok (.aload_n 0, 1) := by decide +kernel
theorem d_X3_primary_139 : decode b_X3_primary 139 = .ok (.invokevirtual 82, 3) := by decide +kernel
theorem d_X3_primary_142 : decode b_X3_primary 142 = .ok (.return_, 1) := by decide +kernel
theorem d_X3_read_0 : decode b_X3_read 0 = .ok (.aload_n 0, 1) := by decide +kernel
theorem d_X3_read_1 : decode b_X3_read 1 = .ok (.iconst 0, 1) := by decide +kernel
theorem d_X3_read_2 : decode b_X3_read 2 = .ok (.putfield 34, 3) := by decide +kernel
theorem d_X3_read_5 : decode b_X3_read 5 = .ok (.aload_n 0, 1) := by decide +kernel
theorem d_X3_read_6 : decode b_X3_read 6 = .ok (.iconst 0, 1) := by decide +kernel
theorem d_X3_read_7 : decode b_X3_read 7 = .ok (.putfield 38, 3) := by decide +kernel
theorem d_X3_read_10 : decode b_X3_read 10 = .ok (.aload_n 0, 1) := by decide +kernel
theorem d_X3_read_11 : decode b_X3_read 11 = .ok (.iconst (-1), 1) := by decide +kernel
theorem d_X3_read_12 : decode b_X3_read 12 = .ok (.putfield 41, 3) := by decide +kernel
theorem d_X3_read_15 : decode b_X3_read 15 = .ok (.aload_n 0, 1) := by decide +kernel
theorem d_X3_read_16 : decode b_X3_read 16 = .ok (.iconst (-1), 1) := by decide +kernel
theorem d_X3_read_17 : decode b_X3_read 17 = .ok (.putfield 44, 3) := by decide +kernel
theorem d_X3_read_20 : decode b_X3_read 20 = .ok (.aload_n 0, 1) := by decide +kernel
theorem d_X3_read_21 : decode b_X3_read 21 = .ok (.invokevirtual 47, 3) := by decide +kernel
theorem d_X3_read_24 : decode b_X3_read 24 = .ok (.aload_n 0, 1) := by decide +kernel
theorem d_X3_read_25 : decode b_X3_read 25 = .ok (.getfield 30, 3) := by decide +kernel
theorem d_X3_read_28 : decode b_X3_read 28 = .ok (.getfield 50, 3) := by decide +kernel
theorem d_X3_read_31 : decode b_X3_read 31 = .ok (.istore_n 1, 1) := by decide +kernel
theorem d_X3_read_32 : decode b_X3_read 32 = .ok (.iload_n 1, 1) := by decide +kernel
theorem d_X3_read_33 : decode b_X3_read 33 = .ok (.ifCond .le 166, 3) := by decide +kernel
theorem d_X3_read_36 : decode b_X3_read 36 = .ok (.aload_n 0, 1) := by decide +kernel
theorem d_X3_read_37 : decode b_X3_read 37 = .ok (.getfield 41, 3) := by decide +kernel
theorem d_X3_read_40 : decode b_X3_read 40 = .ok (.ifCond .ge 159, 3) := by decide +kernel
theorem d_X3_read_43 : decode b_X3_read 43 = .ok (.aload_n 0, 1) := by decide +kernel
theorem d_X3_read_44 : decode b_X3_read 44 = .ok (.getfield 53, 3) := by decide +kernel
theorem d_X3_read_47 : decode b_X3_read 47 = .ok (.ifCond .eq 152, 3) := by decide +kernel
theorem d_X3_read_50 : decode b_X3_read 50 = .ok (.aload_n 0, 1) := by decide +kernel
theorem d_X3_read_51 : decode b_X3_read 51 = .ok (.getfield 53, 3) := by decide +kernel
theorem d_X3_read_54 : decode b_X3_read 54 = .ok (.bipush 7, 2) := by decide +kernel
theorem d_X3_read_56 : decode b_X3_read 56 = .ok (.if_icmp .ne 7, 3) := by decide +kernel
theorem d_X3_read_59 : decode b_X3_read 59 = .ok (.iconst 1, 1) := by decide +kernel
theorem d_X3_read_60 : decode b_X3_read 60 = .ok (.goto 17, 3) := by decide +kernel
theorem d_X3_read_63 : decode b_X3_read 63 = .ok (.aload_n 0, 1) := by decide +kernel
theorem d_X3_read_64 : decode b_X3_read 64 = .ok (.getfield 53, 3) := by decide +kernel
theorem d_X3_read_67 : decode b_X3_read 67 = .ok (.bipush 8, 2) := by decide +kernel
theorem d_X3_read_69 : decode b_X3_read 69 = .ok (.if_icmp .ne 7, 3) := by decide +kernel
theorem d_X3_read_72 : decode b_X3_read 72 = .ok (.iconst 2, 1) := by decide +kernel
theorem d_X3_read_73 : decode b_X3_read 73 = .ok (.goto 4, 3) := by decide +kernel
theorem d_X3_read_76 : decode b_X3_read 76 = .ok (.iconst 0, 1) := by decide +kernel
theorem d_X3_read_77 : decode b_X3_read 77 = .ok (.istore_n 2, 1) := by decide +kernel
theorem d_X3_read_78 : decode b_X3_read 78 = .ok (.iload_n 2, 1) := by decide +kernel
theorem d_X3_read_79 : decode b_X3_read 79 = .ok (.ifCond .eq 7, 3) := by decide +kernel
theorem d_X3_read_82 : decode b_X3_read 82 = .ok (.aload_n 0, 1) := by decide +kernel
theorem d_X3_read_83 : decode b_X3_read 83 = .ok (.invokevirtual 47, 3) := by decide +kernel
theorem d_X3_read_86 : decode b_X3_read 86 = .ok (.aload_n 0, 1) := by decide +kernel
theorem d_X3_read_87 : decode b_X3_read 87 = .ok (.getfield 53, 3) := by decide +kernel
theorem d_X3_read_90 : decode b_X3_read 90 = .ok (.bipush 6, 2) := by decide +kernel
theorem d_X3_read_92 : decode b_X3_read 92 = .ok (.if_icmp .ne 7, 3) := by decide +kernel
theorem d_X3_read_95 : decode b_X3_read 95 = .ok (.iconst 1, 1) := by decide +kernel
theorem d_X3_read_96 : decode b_X3_read 96 = .ok (.goto 4, 3) := by decide +kernel
theorem d_X3_read_99 : decode b_X3_read 99 = .ok (.iconst 0, 1) := by decide +kernel
theorem d_X3_read_100 : decode b_X3_read 100 = .ok (.istore_n 3, 1) := by decide +kernel
theorem d_X3_read_101 : decode b_X3_read 101 = .ok (.aload_n 0, 1) := by decide +kernel
theorem d_X3_read_102 : decode b_X3_read 102 = .ok (.iload_n 3, 1) := by decide +kernel
theorem d_X3_read_103 : decode b_X3_read 103 = .ok (.ifCond .eq 8, 3) := by decide +kernel
theorem d_X3_read_106 : decode b_X3_read 106 = .ok (.bipush 6, 2) := by decide +kernel
theorem d_X3_read_108 : decode b_X3_read 108 = .ok (.goto 4, 3) := by decide +kernel
theorem d_X3_read_111 : decode b_X3_read 111 = .ok (.iconst 5, 1) := by decide +kernel
theorem d_X3_read_112 : decode b_X3_read 112 = .ok (.invokevirtual 56, 3) := by decide +kernel
theorem d_X3_read_115 : decode b_X3_read 115 = .ok (.iload_n 3, 1) := by decide +kernel
theorem d_X3_read_116 : decode b_X3_read 116 = .ok (.ifCond .eq 7, 3) := by decide +kernel
theorem d_X3_read_119 : decode b_X3_read 119 = .ok (.iconst (-1), 1) := by decide +kernel
theorem d_X3_read_120 : decode b_X3_read 120 = .ok (.goto 7, 3) := by decide +kernel
theorem d_X3_read_123 : decode b_X3_read 123 = .ok (.aload_n 0, 1) := by decide +kernel
theorem d_X3_read_124 : decode b_X3_read 124 = .ok (.invokevirtual 60, 3) := by decide +kernel
theorem d_X3_read_127 : decode b_X3_read 127 = .ok (.istore 4, 2) := by decide +kernel
theorem d_X3_read_129 : decode b_X3_read 129 = .ok (.aload_n 0, 1) := by decide +kernel
theorem d_X3_read_130 : decode b_X3_read 130 = .ok (.getfield 44, 3) := by decide +kernel
theorem d_X3_read_133 : decode b_X3_read 133 = .ok (.istore 5, 2) := by decide +kernel
theorem d_X3_read_135 : decode b_X3_read 135 = .ok (.aload_n 0, 1) := by decide +kernel
theorem d_X3_read_136 : decode b_X3_read 136 = .ok (.iconst 2, 1) := by decide +kernel
theorem d_X3_read_137 : decode b_X3_read 137 = .ok (.invokevirtual 56, 3) := by decide +kernel
theorem d_X3_read_140 : decode b_X3_read 140 = .ok (.iload_n 3, 1) := by decide +kernel
theorem d_X3_read_141 : decode b_X3_read 141 = .ok (.ifCond .ne 24, 3) := by decide +kernel
theorem d_X3_read_144 : decode b_X3_read 144 = .ok (.aload_n 0, 1) := by decide +kernel
theorem d_X3_read_145 : decode b_X3_read 145 = .ok (.getfield 53, 3) := by decide +kernel
theorem d_X3_read_148 : decode b_X3_read 148 = .ok (.bipush 20, 2) := by decide +kernel
theorem d_X3_read_150 : decode b_X3_read 150 = .ok (.if_icmp .eq 15, 3) := by decide +kernel
theorem d_X3_read_153 : decode b_X3_read 153 = .ok (.aload_n 0, 1) := by decide +kernel
theorem d_X3_read_154 : decode b_X3_read 154 = .ok (.iload 5, 2) := by decide +kernel
theorem d_X3_read_156 : decode b_X3_read 156 = .ok (.iload 4, 2) := by decide +kernel
theorem d_X3_read_158 : decode b_X3_read 158 = .ok (.iload_n 2, 1) := by decide +kernel
theorem d_X3_read_159 : decode b_X3_read 159 = .ok (.invokevirtual 64, 3) := by decide +kernel
theorem d_X3_read_162 : decode b_X3_read 162 = .ok (.goto 31, 3) := by decide +kernel
theorem d_X3_read_165 : decode b_X3_read 165 = .ok (.aload_n 0, 1) := by decide +kernel
theorem d_X3_read_166 : decode b_X3_read 166 = .ok (.iload 5, 2) := by decide +kernel
theorem d_X3_read_168 : decode b_X3_read 168 = .ok (.iload 4, 2) := by decide +kernel
theorem d_X3_read_170 : decode b_X3_read 170 = .ok (.iload_n 2, 1) := by decide +kernel
theorem d_X3_read_171 : decode b_X3_read 171 = .ok (.invokevirtual 68, 3) := by decide +kernel
theorem d_X3_read_174 : decode b_X3_read 174 = .ok (.ifCond .eq 19, 3) := by decide +kernel
theorem d_X3_read_177 : decode b_X3_read 177 = .ok (.aload_n 0, 1) := by decide +kernel
theorem d_X3_read_178 : decode b_X3_read 178 = .ok (.iconst 1, 1) := by decide +kernel
theorem d_X3_read_179 : decode b_X3_read 179 = .ok (.invokevirtual 72, 3) := by decide +kernel
theorem d_X3_read_182 : decode b_X3_read 182 = .ok (.aload_n 0, 1) := by decide +kernel
theorem d_X3_read_183 : decode b_X3_read 183 = .ok (.bipush 49, 2) := by decide +kernel
theorem d_X3_read_185 : decode b_X3_read 185 = .ok (.iload 5, 2) := by decide +kernel
theorem d_X3_read_187 : decode b_X3_read 187 = .ok (.iconst 0, 1) := by decide +kernel
theorem d_X3_read_188 : decode b_X3_read 188 = .ok (.iconst 0, 1) := by decide +kernel
theorem d_X3_read_189 : decode b_X3_read 189 = .ok (.invokevirtual 75, 3) := by decide +kernel
theorem d_X3_read_192 : decode b_X3_read 192 = .ok (.pop, 1) := by decide +kernel
theorem d_X3_read_193 : decode b_X3_read 193 = .ok (.iinc 1 (-1), 3) := by decide +kernel
theorem d_X3_read_196 : decode b_X3_read 196 = .ok (.goto (-164), 3) := by decide +kernel
theorem d_X3_read_199 : decode b_X3_read 199 = .ok (.aload_n 0, 1) := by decide +kernel
theorem d_X3_read_200 : decode b_X3_read 200 = .ok (.getfield 41, 3) := by decide +kernel
theorem d_X3_read_203 : decode b_X3_read 203 = .ok (.ifCond .ge 7, 3) := by decide +kernel
theorem d_X3_read_206 : decode b_X3_read 206 = .ok (.iconst 1, 1) := by decide +kernel
theorem d_X3_read_207 : decode b_X3_read 207 = .ok (.goto 4, 3) := by decide +kernel
theorem d_X3_read_210 : decode b_X3_read 210 = .ok (.iconst 0, 1) := by decide +kernel
theorem d_X3_read_211 : decode b_X3_read 211 = .ok (.ireturn, 1) := by decide +kernel
theorem d_X3_settle_0 : decode b_X3_settle 0 = .ok (.aload_n 0, 1) := by decide +kernel
theorem d_X3_settle_1 : decode b_X3_settle 1 = .ok (.getfield 38, 3) := by decide +kernel
theorem d_X3_settle_4 : decode b_X3_settle 4 = .ok (.iload_n 1, 1) := by decide +kernel
theorem d_X3_settle_5 : decode b_X3_settle 5 = .ok (.if_icmp .le 59, 3) := by decide +kernel
theorem d_X3_settle_8 : decode b_X3_settle 8 = .ok (.aload_n 0, 1) := by decide +kernel
theorem d_X3_settle_9 : decode b_X3_settle 9 = .ok (.getfield 24, 3) := by decide +kernel
theorem d_X3_settle_12 : decode b_X3_settle 12 = .ok (.aload_n 0, 1) := by decide +kernel
theorem d_X3_settle_13 : decode b_X3_settle 13 = .ok (.getfield 38, 3) := by decide +kernel
theorem d_X3_settle_16 : decode b_X3_settle 16 = .ok (.iconst 1, 1) := by decide +kernel
theorem d_X3_settle_17 : decode b_X3_settle 17 = .ok (.isub, 1) := by decide +kernel
theorem d_X3_settle_18 : decode b_X3_settle 18 = .ok (.invokestatic 93, 3) := by decide +kernel
theorem d_X3_settle_21 : decode b_X3_settle 21 = .ok (.istore_n 3, 1) := by decide +kernel
theorem d_X3_settle_22 : decode b_X3_settle 22 = .ok (.aload_n 0, 1) := by decide +kernel
theorem d_X3_settle_23 : decode b_X3_settle 23 = .ok (.getfield 30, 3) := by decide +kernel
theorem d_X3_settle_26 : decode b_X3_settle 26 = .ok (.getfield 79, 3) := by decide +kernel
theorem d_X3_settle_29 : decode b_X3_settle 29 = .ok (.iload_n 3, 1) := by decide +kernel
theorem d_X3_settle_30 : decode b_X3_settle 30 = .ok (.invokestatic 93, 3) := by decide +kernel
theorem d_X3_settle_33 : decode b_X3_settle 33 = .ok (.invokestatic 161, 3) := by decide +kernel
theorem d_X3_settle_36 : decode b_X3_settle 36 = .ok (.iload_n 2, 1) := by decide +kernel
theorem d_X3_settle_37 : decode b_X3_settle 37 = .ok (.if_icmp .ge 4, 3) := by decide +kernel
theorem d_X3_settle_40 : decode b_X3_settle 40 = .ok (.return_, 1) := by decide +kernel
theorem d_X3_settle_41 : decode b_X3_settle 41 = .ok (.aload_n 0, 1) := by decide +kernel
theorem d_X3_settle_42 : decode b_X3_settle 42 = .ok (.bipush 8, 2) := by decide +kernel
theorem d_X3_settle_44 : decode b_X3_settle 44 = .ok (.iload_n 3, 1) := by decide +kernel
