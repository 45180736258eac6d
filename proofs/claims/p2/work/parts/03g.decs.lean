theorem d_X14_codes_39 : decode b_X14_codes 39 = .ok (.iload_n 3, 1) := by decide +kernel
theorem d_X14_codes_40 : decode b_X14_codes 40 = .ok (.aload_n 0, 1) := by decide +kernel
theorem d_X14_codes_41 : decode b_X14_codes 41 = .ok (.iload_n 3, 1) := by decide +kernel
theorem d_X14_codes_42 : decode b_X14_codes 42 = .ok (.invokevirtual 209, 3) := by decide +kernel
theorem d_X14_codes_45 : decode b_X14_codes 45 = .ok (.bipush 92, 2) := by decide +kernel
theorem d_X14_codes_47 : decode b_X14_codes 47 = .ok (.if_icmp .ne 7, 3) := by decide +kernel
theorem d_X14_codes_50 : decode b_X14_codes 50 = .ok (.iconst 2, 1) := by decide +kernel
theorem d_X14_codes_51 : decode b_X14_codes 51 = .ok (.goto 4, 3) := by decide +kernel
theorem d_X14_codes_54 : decode b_X14_codes 54 = .ok (.iconst 1, 1) := by decide +kernel
theorem d_X14_codes_55 : decode b_X14_codes 55 = .ok (.iadd, 1) := by decide +kernel
theorem d_X14_codes_56 : decode b_X14_codes 56 = .ok (.istore_n 3, 1) := by decide +kernel
theorem d_X14_codes_57 : decode b_X14_codes 57 = .ok (.iinc 4 1, 3) := by decide +kernel
theorem d_X14_codes_60 : decode b_X14_codes 60 = .ok (.goto (-48), 3) := by decide +kernel
theorem d_X14_codes_63 : decode b_X14_codes 63 = .ok (.return_, 1) := by decide +kernel
theorem d_X14_init_0 : decode b_X14_init 0 = .ok (.iload_n 2, 1) := by decide +kernel
theorem d_X14_init_1 : decode b_X14_init 1 = .ok (.ifCond .ne 7, 3) := by decide +kernel
theorem d_X14_init_4 : decode b_X14_init 4 = .ok (.iload_n 3, 1) := by decide +kernel
theorem d_X14_init_5 : decode b_X14_init 5 = .ok (.ifCond .eq 10, 3) := by decide +kernel
theorem d_X14_init_8 : decode b_X14_init 8 = .ok (.aload_n 0, 1) := by decide +kernel
theorem d_X14_init_9 : decode b_X14_init 9 = .ok (.getfield 295, 3) := by decide +kernel
theorem d_X14_init_12 : decode b_X14_init 12 = .ok (.ifCond .le 4, 3) := by decide +kernel
theorem d_X14_init_15 : decode b_X14_init 15 = .ok (.return_, 1) := by decide +kernel
theorem d_X14_init_16 : decode b_X14_init 16 = .ok (.aload_n 0, 1) := by decide +kernel
theorem d_X14_init_17 : decode b_X14_init 17 = .ok (.getfield 324, 3) := by decide +kernel
theorem d_X14_init_20 : decode b_X14_init 20 = .ok (.iconst 3, 1) := by decide +kernel
theorem d_X14_init_21 : decode b_X14_init 21 = .ok (.iadd, 1) := by decide +kernel
theorem d_X14_init_22 : decode b_X14_init 22 = .ok (.aload_n 0, 1) := by decide +kernel
theorem d_X14_init_23 : decode b_X14_init 23 = .ok (.getfield 96, 3) := by decide +kernel
theorem d_X14_init_26 : decode b_X14_init 26 = .ok (.arraylength, 1) := by decide +kernel
theorem d_X14_init_27 : decode b_X14_init 27 = .ok (.if_icmp .le 50, 3) := by decide +kernel
theorem d_X14_init_30 : decode b_X14_init 30 = .ok (.iconst 2, 1) := by decide +kernel
theorem d_X14_init_31 : decode b_X14_init 31 = .ok (.aload_n 0, 1) := by decide +kernel
theorem d_X14_init_32 : decode b_X14_init 32 = .ok (.getfield 96, 3) := by decide +kernel
theorem d_X14_init_35 : decode b_X14_init 35 = .ok (.arraylength, 1) := by decide +kernel
theorem d_X14_init_36 : decode b_X14_init 36 = .ok (.imul, 1) := by decide +kernel
theorem d_X14_init_37 : decode b_X14_init 37 = .ok (.newarray .int, 2) := by decide +kernel
theorem d_X14_init_39 : decode b_X14_init 39 = .ok (.astore 4, 2) := by decide +kernel
theorem d_X14_init_41 : decode b_X14_init 41 = .ok (.iconst 0, 1) := by decide +kernel
theorem d_X14_init_42 : decode b_X14_init 42 = .ok (.istore 5, 2) := by decide +kernel
theorem d_X14_init_44 : decode b_X14_init 44 = .ok (.iload 5, 2) := by decide +kernel
theorem d_X14_init_46 : decode b_X14_init 46 = .ok (.aload_n 0, 1) := by decide +kernel
theorem d_X14_init_47 : decode b_X14_init 47 = .ok (.getfield 324, 3) := by decide +kernel
theorem d_X14_init_50 : decode b_X14_init 50 = .ok (.if_icmp .ge 21, 3) := by decide +kernel
theorem d_X14_init_53 : decode b_X14_init 53 = .ok (.aload 4, 2) := by decide +kernel
theorem d_X14_init_55 : decode b_X14_init 55 = .ok (.iload 5, 2) := by decide +kernel
theorem d_X14_init_57 : decode b_X14_init 57 = .ok (.aload_n 0, 1) := by decide +kernel
theorem d_X14_init_58 : decode b_X14_init 58 = .ok (.getfield 96, 3) := by decide +kernel
theorem d_X14_init_61 : decode b_X14_init 61 = .ok (.iload 5, 2) := by decide +kernel
theorem d_X14_init_63 : decode b_X14_init 63 = .ok (.iaload, 1) := by decide +kernel
theorem d_X14_init_64 : decode b_X14_init 64 = .ok (.iastore, 1) := by decide +kernel
theorem d_X14_init_65 : decode b_X14_init 65 = .ok (.iinc 5 1, 3) := by decide +kernel
theorem d_X14_init_68 : decode b_X14_init 68 = .ok (.goto (-24), 3) := by decide +kernel
theorem d_X14_init_71 : decode b_X14_init 71 = .ok (.aload_n 0, 1) := by decide +kernel
theorem d_X14_init_72 : decode b_X14_init 72 = .ok (.aload 4, 2) := by decide +kernel
theorem d_X14_init_74 : decode b_X14_init 74 = .ok (.putfield 96, 3) := by decide +kernel
theorem d_X14_init_77 : decode b_X14_init 77 = .ok (.aload_n 0, 1) := by decide +kernel
theorem d_X14_init_78 : decode b_X14_init 78 = .ok (.getfield 96, 3) := by decide +kernel
theorem d_X14_init_81 : decode b_X14_init 81 = .ok (.aload_n 0, 1) := by decide +kernel
theorem d_X14_init_82 : decode b_X14_init 82 = .ok (.getfield 324, 3) := by decide +kernel
theorem d_X14_init_85 : decode b_X14_init 85 = .ok (.iload_n 1, 1) := by decide +kernel
theorem d_X14_init_86 : decode b_X14_init 86 = .ok (.iastore, 1) := by decide +kernel
theorem d_X14_init_87 : decode b_X14_init 87 = .ok (.aload_n 0, 1) := by decide +kernel
theorem d_X14_init_88 : decode b_X14_init 88 = .ok (.getfield 96, 3) := by decide +kernel
theorem d_X14_init_91 : decode b_X14_init 91 = .ok (.aload_n 0, 1) := by decide +kernel
theorem d_X14_init_92 : decode b_X14_init 92 = .ok (.getfield 324, 3) := by decide +kernel
theorem d_X14_init_95 : decode b_X14_init 95 = .ok (.iconst 1, 1) := by decide +kernel
theorem d_X14_init_96 : decode b_X14_init 96 = .ok (.iadd, 1) := by decide +kernel
theorem d_X14_init_97 : decode b_X14_init 97 = .ok (.iload_n 2, 1) := by decide +kernel
theorem d_X14_init_98 : decode b_X14_init 98 = .ok (.iastore, 1) := by decide +kernel
theorem d_X14_init_99 : decode b_X14_init 99 = .ok (.aload_n 0, 1) := by decide +kernel
theorem d_X14_init_100 : decode b_X14_init 100 = .ok (.getfield 96, 3) := by decide +kernel
theorem d_X14_init_103 : decode b_X14_init 103 = .ok (.aload_n 0, 1) := by decide +kernel
theorem d_X14_init_104 : decode b_X14_init 104 = .ok (.getfield 324, 3) := by decide +kernel
theorem d_X14_init_107 : decode b_X14_init 107 = .ok (.iconst 2, 1) := by decide +kernel
theorem d_X14_init_108 : decode b_X14_init 108 = .ok (.iadd, 1) := by decide +kernel
theorem d_X14_init_109 : decode b_X14_init 109 = .ok (.iload_n 3, 1) := by decide +kernel
theorem d_X14_init_110 : decode b_X14_init 110 = .ok (.iastore, 1) := by decide +kernel
theorem d_X14_init_111 : decode b_X14_init 111 = .ok (.aload_n 0, 1) := by decide +kernel
theorem d_X14_init_112 : decode b_X14_init 112 = .ok (.dup, 1) := by decide +kernel
theorem d_X14_init_113 : decode b_X14_init 113 = .ok (.getfield 324, 3) := by decide +kernel
theorem d_X14_init_116 : decode b_X14_init 116 = .ok (.iconst 3, 1) := by decide +kernel
theorem d_X14_init_117 : decode b_X14_init 117 = .ok (.iadd, 1) := by decide +kernel
theorem d_X14_init_118 : decode b_X14_init 118 = .ok (.putfield 324, 3) := by decide +kernel
theorem d_X14_init_121 : decode b_X14_init 121 = .ok (.return_, 1) := by decide +kernel
theorem d_X14_call_0_0 : decode b_X14_call_0 0 = .ok (.aload_n 0, 1) := by decide +kernel
theorem d_X14_call_0_1 : decode b_X14_call_0 1 = .ok (.iload_n 1, 1) := by decide +kernel
theorem d_X14_call_0_2 : decode b_X14_call_0 2 = .ok (.invokevirtual 524, 3) := by decide +kernel
theorem d_X14_call_0_5 : decode b_X14_call_0 5 = .ok (.ifCond .lt 7, 3) := by decide +kernel
theorem d_X14_call_0_8 : decode b_X14_call_0 8 = .ok (.iconst (-1), 1) := by decide +kernel
theorem d_X14_call_0_9 : decode b_X14_call_0 9 = .ok (.goto 8, 3) := by decide +kernel
theorem d_X14_call_0_12 : decode b_X14_call_0 12 = .ok (.aload_n 0, 1) := by decide +kernel
theorem d_X14_call_0_13 : decode b_X14_call_0 13 = .ok (.iload_n 1, 1) := by decide +kernel
theorem d_X14_call_0_14 : decode b_X14_call_0 14 = .ok (.invokevirtual 527, 3) := by decide +kernel
theorem d_X14_call_0_17 : decode b_X14_call_0 17 = .ok (.istore_n 3, 1) := by decide +kernel
theorem d_X14_call_0_18 : decode b_X14_call_0 18 = .ok (.iload_n 3, 1) := by decide +kernel
theorem d_X14_call_0_19 : decode b_X14_call_0 19 = .ok (.ifCond .lt 17, 3) := by decide +kernel
theorem d_X14_call_0_22 : decode b_X14_call_0 22 = .ok (.aload_n 0, 1) := by decide +kernel
theorem d_X14_call_0_23 : decode b_X14_call_0 23 = .ok (.getfield 44, 3) := by decide +kernel
theorem d_X14_call_0_26 : decode b_X14_call_0 26 = .ok (.iload_n 3, 1) := by decide +kernel
theorem d_X14_call_0_27 : decode b_X14_call_0 27 = .ok (.iaload, 1) := by decide +kernel
theorem d_X14_call_0_28 : decode b_X14_call_0 28 = .ok (.iconst 2, 1) := by decide +kernel
theorem d_X14_call_0_29 : decode b_X14_call_0 29 = .ok (.if_icmp .ne 7, 3) := by decide +kernel
theorem d_X14_call_0_32 : decode b_X14_call_0 32 = .ok (.iconst 1, 1) := by decide +kernel
theorem d_X14_call_0_33 : decode b_X14_call_0 33 = .ok (.goto 4, 3) := by decide +kernel
theorem d_X14_call_0_36 : decode b_X14_call_0 36 = .ok (.iconst 0, 1) := by decide +kernel
theorem d_X14_call_0_37 : decode b_X14_call_0 37 = .ok (.istore 4, 2) := by decide +kernel
theorem d_X14_call_0_39 : decode b_X14_call_0 39 = .ok (.aload_n 0, 1) := by decide +kernel
theorem d_X14_call_0_40 : decode b_X14_call_0 40 = .ok (.iload 4, 2) := by decide +kernel
theorem d_X14_call_0_42 : decode b_X14_call_0 42 = .ok (.iload_n 1, 1) := by decide +kernel
theorem d_X14_call_0_43 : decode b_X14_call_0 43 = .ok (.invokevirtual 410, 3) := by decide +kernel
theorem d_X14_call_0_46 : decode b_X14_call_0 46 = .ok (.iload 4, 2) := by decide +kernel
theorem d_X14_call_0_48 : decode b_X14_call_0 48 = .ok (.ifCond .eq 10, 3) := by decide +kernel
theorem d_X14_call_0_51 : decode b_X14_call_0 51 = .ok (.aload_n 0, 1) := by decide +kernel
theorem d_X14_call_0_52 : decode b_X14_call_0 52 = .ok (.getfield 60, 3) := by decide +kernel
theorem d_X14_call_0_55 : decode b_X14_call_0 55 = .ok (.iload_n 3, 1) := by decide +kernel
theorem d_X14_call_0_56 : decode b_X14_call_0 56 = .ok (.iconst 1, 1) := by decide +kernel
theorem d_X14_call_0_57 : decode b_X14_call_0 57 = .ok (.bastore, 1) := by decide +kernel
theorem d_X14_call_0_58 : decode b_X14_call_0 58 = .ok (.iload 4, 2) := by decide +kernel
theorem d_X14_call_0_60 : decode b_X14_call_0 60 = .ok (.ifCond .eq 39, 3) := by decide +kernel
theorem d_X14_call_0_63 : decode b_X14_call_0 63 = .ok (.aload_n 0, 1) := by decide +kernel
theorem d_X14_call_0_64 : decode b_X14_call_0 64 = .ok (.getfield 83, 3) := by decide +kernel
theorem d_X14_call_0_67 : decode b_X14_call_0 67 = .ok (.iload_n 3, 1) := by decide +kernel
theorem d_X14_call_0_68 : decode b_X14_call_0 68 = .ok (.aload_n 0, 1) := by decide +kernel
theorem d_X14_call_0_69 : decode b_X14_call_0 69 = .ok (.getfield 86, 3) := by decide +kernel
theorem d_X14_call_0_72 : decode b_X14_call_0 72 = .ok (.aload_n 0, 1) := by decide +kernel
theorem d_X14_call_0_73 : decode b_X14_call_0 73 = .ok (.getfield 327, 3) := by decide +kernel
theorem d_X14_call_0_76 : decode b_X14_call_0 76 = .ok (.iaload, 1) := by decide +kernel
theorem d_X14_call_0_77 : decode b_X14_call_0 77 = .ok (.isub, 1) := by decide +kernel
theorem d_X14_call_0_78 : decode b_X14_call_0 78 = .ok (.iaload, 1) := by decide +kernel
theorem d_X14_call_0_79 : decode b_X14_call_0 79 = .ok (.ifCond .ge 20, 3) := by decide +kernel
theorem d_X14_call_0_82 : decode b_X14_call_0 82 = .ok (.aload_n 0, 1) := by decide +kernel
theorem d_X14_call_0_83 : decode b_X14_call_0 83 = .ok (.getfield 83, 3) := by decide +kernel
theorem d_X14_call_0_86 : decode b_X14_call_0 86 = .ok (.iload_n 3, 1) := by decide +kernel
theorem d_X14_call_0_87 : decode b_X14_call_0 87 = .ok (.aload_n 0, 1) := by decide +kernel
theorem d_X14_call_0_88 : decode b_X14_call_0 88 = .ok (.getfield 86, 3) := by decide +kernel
theorem d_X14_call_0_91 : decode b_X14_call_0 91 = .ok (.aload_n 0, 1) := by decide +kernel
theorem d_X14_call_0_92 : decode b_X14_call_0 92 = .ok (.getfield 327, 3) := by decide +kernel
theorem d_X14_call_0_95 : decode b_X14_call_0 95 = .ok (.iaload, 1) := by decide +kernel
theorem d_X14_call_0_96 : decode b_X14_call_0 96 = .ok (.isub, 1) := by decide +kernel
theorem d_X14_call_0_97 : decode b_X14_call_0 97 = .ok (.iload_n 1, 1) := by decide +kernel
theorem d_X14_call_0_98 : decode b_X14_call_0 98 = .ok (.iastore, 1) := by decide +kernel
theorem d_X14_call_0_99 : decode b_X14_call_0 99 = .ok (.aload_n 0, 1) := by decide +kernel
theorem d_X14_call_0_100 : decode b_X14_call_0 100 = .ok (.iload_n 2, 1) := by decide +kernel
theorem d_X14_call_0_101 : decode b_X14_call_0 101 = .ok (.invokevirtual 389, 3) := by decide +kernel
theorem d_X14_call_0_104 : decode b_X14_call_0 104 = .ok (.istore 5, 2) := by decide +kernel
theorem d_X14_call_0_106 : decode b_X14_call_0 106 = .ok (.aload_n 0, 1) := by decide +kernel
theorem d_X14_call_0_107 : decode b_X14_call_0 107 = .ok (.dup, 1) := by decide +kernel
theorem d_X14_call_0_108 : decode b_X14_call_0 108 = .ok (.getfield 288, 3) := by decide +kernel
theorem d_X14_call_0_111 : decode b_X14_call_0 111 = .ok (.iconst 1, 1) := by decide +kernel
theorem d_X14_call_0_112 : decode b_X14_call_0 112 = .ok (.iadd, 1) := by decide +kernel
theorem d_X14_call_0_113 : decode b_X14_call_0 113 = .ok (.putfield 288, 3) := by decide +kernel
theorem d_X14_call_0_116 : decode b_X14_call_0 116 = .ok (.iconst 0, 1) := by decide +kernel
theorem d_X14_call_0_117 : decode b_X14_call_0 117 = .ok (.istore 6, 2) := by decide +kernel
theorem d_X14_call_0_119 : decode b_X14_call_0 119 = .ok (.iconst 0, 1) := by decide +kernel
theorem d_X14_call_0_120 : decode b_X14_call_0 120 = .ok (.istore 7, 2) := by decide +kernel
theorem d_X14_call_0_122 : decode b_X14_call_0 122 = .ok (.iconst 1, 1) := by decide +kernel
theorem d_X14_call_0_123 : decode b_X14_call_0 123 = .ok (.istore 8, 2) := by decide +kernel
theorem d_X14_call_0_125 : decode b_X14_call_0 125 = .ok (.aload_n 0, 1) := by decide +kernel
theorem d_X14_call_0_126 : decode b_X14_call_0 126 = .ok (.bipush 21, 2) := by decide +kernel
theorem d_X14_call_0_128 : decode b_X14_call_0 128 = .ok (.invokevirtual 308, 3) := by decide +kernel
theorem d_X14_call_0_131 : decode b_X14_call_0 131 = .ok (.ifCond .ne 89, 3) := by decide +kernel
theorem d_X14_call_0_134 : decode b_X14_call_0 134 = .ok (.aload_n 0, 1) := by decide +kernel
theorem d_X14_call_0_135 : decode b_X14_call_0 135 = .ok (.iload 5, 2) := by decide +kernel
theorem d_X14_call_0_137 : decode b_X14_call_0 137 = .ok (.invokevirtual 395, 3) := by decide +kernel
theorem d_X14_call_0_140 : decode b_X14_call_0 140 = .ok (.astore 9, 2) := by decide +kernel
theorem d_X14_call_0_142 : decode b_X14_call_0 142 = .ok (.aload_n 0, 1) := by decide +kernel
theorem d_X14_call_0_143 : decode b_X14_call_0 143 = .ok (.aload 9, 2) := by decide +kernel
theorem d_X14_call_0_145 : decode b_X14_call_0 145 = .ok (.invokevirtual 398, 3) := by decide +kernel
theorem d_X14_call_0_148 : decode b_X14_call_0 148 = .ok (.iload 8, 2) := by decide +kernel
theorem d_X14_call_0_150 : decode b_X14_call_0 150 = .ok (.ifCond .eq 43, 3) := by decide +kernel
theorem d_X14_call_0_153 : decode b_X14_call_0 153 = .ok (.iload 4, 2) := by decide +kernel
theorem d_X14_call_0_155 : decode b_X14_call_0 155 = .ok (.ifCond .eq 38, 3) := by decide +kernel
theorem d_X14_call_0_158 : decode b_X14_call_0 158 = .ok (.iload 6, 2) := by decide +kernel
theorem d_X14_call_0_160 : decode b_X14_call_0 160 = .ok (.aload_n 0, 1) := by decide +kernel
theorem d_X14_call_0_161 : decode b_X14_call_0 161 = .ok (.getfield 63, 3) := by decide +kernel
theorem d_X14_call_0_164 : decode b_X14_call_0 164 = .ok (.iload_n 3, 1) := by decide +kernel
theorem d_X14_call_0_165 : decode b_X14_call_0 165 = .ok (.iaload, 1) := by decide +kernel
theorem d_X14_call_0_166 : decode b_X14_call_0 166 = .ok (.if_icmp .ge 27, 3) := by decide +kernel
theorem d_X14_call_0_169 : decode b_X14_call_0 169 = .ok (.aload 9, 2) := by decide +kernel
theorem d_X14_call_0_171 : decode b_X14_call_0 171 = .ok (.aload_n 0, 1) := by decide +kernel
theorem d_X14_call_0_172 : decode b_X14_call_0 172 = .ok (.getfield 67, 3) := by decide +kernel
theorem d_X14_call_0_175 : decode b_X14_call_0 175 = .ok (.bipush 8, 2) := by decide +kernel
theorem d_X14_call_0_177 : decode b_X14_call_0 177 = .ok (.iload_n 3, 1) := by decide +kernel
theorem d_X14_call_0_178 : decode b_X14_call_0 178 = .ok (.imul, 1) := by decide +kernel
theorem d_X14_call_0_179 : decode b_X14_call_0 179 = .ok (.iload 6, 2) := by decide +kernel
theorem d_X14_call_0_181 : decode b_X14_call_0 181 = .ok (.iadd, 1) := by decide +kernel
theorem d_X14_call_0_182 : decode b_X14_call_0 182 = .ok (.iaload, 1) := by decide +kernel
theorem d_X14_call_0_183 : decode b_X14_call_0 183 = .ok (.invokestatic 402, 3) := by decide +kernel
theorem d_X14_call_0_186 : decode b_X14_call_0 186 = .ok (.ifCond .eq 7, 3) := by decide +kernel
theorem d_X14_call_0_189 : decode b_X14_call_0 189 = .ok (.iconst 1, 1) := by decide +kernel
theorem d_X14_call_0_190 : decode b_X14_call_0 190 = .ok (.goto 4, 3) := by decide +kernel
theorem d_X14_call_0_193 : decode b_X14_call_0 193 = .ok (.iconst 0, 1) := by decide +kernel
theorem d_X14_call_0_194 : decode b_X14_call_0 194 = .ok (.istore 8, 2) := by decide +kernel
theorem d_X14_call_0_196 : decode b_X14_call_0 196 = .ok (.iload 7, 2) := by decide +kernel
theorem d_X14_call_0_198 : decode b_X14_call_0 198 = .ok (.aload 9, 2) := by decide +kernel
theorem d_X14_call_0_200 : decode b_X14_call_0 200 = .ok (.getfield 371, 3) := by decide +kernel
theorem d_X14_call_0_203 : decode b_X14_call_0 203 = .ok (.invokestatic 374, 3) := by decide +kernel
theorem d_X14_call_0_206 : decode b_X14_call_0 206 = .ok (.istore 7, 2) := by decide +kernel
theorem d_X14_call_0_208 : decode b_X14_call_0 208 = .ok (.iinc 6 1, 3) := by decide +kernel
theorem d_X14_call_0_211 : decode b_X14_call_0 211 = .ok (.aload_n 0, 1) := by decide +kernel
theorem d_X14_call_0_212 : decode b_X14_call_0 212 = .ok (.bipush 26, 2) := by decide +kernel
theorem d_X14_call_0_214 : decode b_X14_call_0 214 = .ok (.invokevirtual 530, 3) := by decide +kernel
theorem d_X14_call_0_217 : decode b_X14_call_0 217 = .ok (.ifCond .ne (-83), 3) := by decide +kernel
theorem d_X14_call_0_220 : decode b_X14_call_0 220 = .ok (.aload_n 0, 1) := by decide +kernel
theorem d_X14_call_0_221 : decode b_X14_call_0 221 = .ok (.bipush 21, 2) := by decide +kernel
theorem d_X14_call_0_223 : decode b_X14_call_0 223 = .ok (.invokevirtual 497, 3) := by decide +kernel
theorem d_X14_call_0_226 : decode b_X14_call_0 226 = .ok (.aload_n 0, 1) := by decide +kernel
theorem d_X14_call_0_227 : decode b_X14_call_0 227 = .ok (.iload 8, 2) := by decide +kernel
theorem d_X14_call_0_229 : decode b_X14_call_0 229 = .ok (.ifCond .eq 23, 3) := by decide +kernel
theorem d_X14_call_0_232 : decode b_X14_call_0 232 = .ok (.iload 4, 2) := by decide +kernel
theorem d_X14_call_0_234 : decode b_X14_call_0 234 = .ok (.ifCond .eq 18, 3) := by decide +kernel
theorem d_X14_call_0_237 : decode b_X14_call_0 237 = .ok (.iload 6, 2) := by decide +kernel
theorem d_X14_call_0_239 : decode b_X14_call_0 239 = .ok (.aload_n 0, 1) := by decide +kernel
theorem d_X14_call_0_240 : decode b_X14_call_0 240 = .ok (.getfield 63, 3) := by decide +kernel
theorem d_X14_call_0_243 : decode b_X14_call_0 243 = .ok (.iload_n 3, 1) := by decide +kernel
theorem d_X14_call_0_244 : decode b_X14_call_0 244 = .ok (.iaload, 1) := by decide +kernel
theorem d_X14_call_0_245 : decode b_X14_call_0 245 = .ok (.if_icmp .ne 7, 3) := by decide +kernel
theorem d_X14_call_0_248 : decode b_X14_call_0 248 = .ok (.iconst 1, 1) := by decide +kernel
theorem d_X14_call_0_249 : decode b_X14_call_0 249 = .ok (.goto 4, 3) := by decide +kernel
theorem d_X14_call_0_252 : decode b_X14_call_0 252 = .ok (.iconst 0, 1) := by decide +kernel
theorem d_X14_call_0_253 : decode b_X14_call_0 253 = .ok (.iload_n 1, 1) := by decide +kernel
theorem d_X14_call_0_254 : decode b_X14_call_0 254 = .ok (.invokevirtual 410, 3) := by decide +kernel
theorem d_X14_call_0_257 : decode b_X14_call_0 257 = .ok (.aload_n 0, 1) := by decide +kernel
theorem d_X14_call_0_258 : decode b_X14_call_0 258 = .ok (.bipush 19, 2) := by decide +kernel
theorem d_X14_call_0_260 : decode b_X14_call_0 260 = .ok (.iload 4, 2) := by decide +kernel
theorem d_X14_call_0_262 : decode b_X14_call_0 262 = .ok (.ifCond .eq 17, 3) := by decide +kernel
theorem d_X14_call_0_265 : decode b_X14_call_0 265 = .ok (.iload_n 3, 1) := by decide +kernel
theorem d_X14_call_0_266 : decode b_X14_call_0 266 = .ok (.aload_n 0, 1) := by decide +kernel
theorem d_X14_call_0_267 : decode b_X14_call_0 267 = .ok (.getfield 86, 3) := by decide +kernel
theorem d_X14_call_0_270 : decode b_X14_call_0 270 = .ok (.aload_n 0, 1) := by decide +kernel
theorem d_X14_call_0_271 : decode b_X14_call_0 271 = .ok (.getfield 327, 3) := by decide +kernel
theorem d_X14_call_0_274 : decode b_X14_call_0 274 = .ok (.iaload, 1) := by decide +kernel
theorem d_X14_call_0_275 : decode b_X14_call_0 275 = .ok (.isub, 1) := by decide +kernel
theorem d_X14_call_0_276 : decode b_X14_call_0 276 = .ok (.goto 4, 3) := by decide +kernel
theorem d_X14_call_0_279 : decode b_X14_call_0 279 = .ok (.iconst 0, 1) := by decide +kernel
theorem d_X14_call_0_280 : decode b_X14_call_0 280 = .ok (.aload_n 0, 1) := by decide +kernel
theorem d_X14_call_0_281 : decode b_X14_call_0 281 = .ok (.getfield 23, 3) := by decide +kernel
theorem d_X14_call_0_284 : decode b_X14_call_0 284 = .ok (.iload_n 1, 1) := by decide +kernel
theorem d_X14_call_0_285 : decode b_X14_call_0 285 = .ok (.iaload, 1) := by decide +kernel
theorem d_X14_call_0_286 : decode b_X14_call_0 286 = .ok (.invokevirtual 418, 3) := by decide +kernel
theorem d_X14_call_0_289 : decode b_X14_call_0 289 = .ok (.new 353, 3) := by decide +kernel
theorem d_X14_call_0_292 : decode b_X14_call_0 292 = .ok (.dup, 1) := by decide +kernel
theorem d_X14_call_0_293 : decode b_X14_call_0 293 = .ok (.iload 4, 2) := by decide +kernel
theorem d_X14_call_0_295 : decode b_X14_call_0 295 = .ok (.ifCond .eq 12, 3) := by decide +kernel
theorem d_X14_call_0_298 : decode b_X14_call_0 298 = .ok (.aload_n 0, 1) := by decide +kernel
theorem d_X14_call_0_299 : decode b_X14_call_0 299 = .ok (.getfield 47, 3) := by decide +kernel
theorem d_X14_call_0_302 : decode b_X14_call_0 302 = .ok (.iload_n 3, 1) := by decide +kernel
theorem d_X14_call_0_303 : decode b_X14_call_0 303 = .ok (.iaload, 1) := by decide +kernel
theorem d_X14_call_0_304 : decode b_X14_call_0 304 = .ok (.goto 5, 3) := by decide +kernel
theorem d_X14_call_0_307 : decode b_X14_call_0 307 = .ok (.bipush (-2), 2) := by decide +kernel
theorem d_X14_call_0_309 : decode b_X14_call_0 309 = .ok (.invokespecial 369, 3) := by decide +kernel
theorem d_X14_call_0_312 : decode b_X14_call_0 312 = .ok (.astore 9, 2) := by decide +kernel
theorem d_X14_call_0_314 : decode b_X14_call_0 314 = .ok (.aload 9, 2) := by decide +kernel
theorem d_X14_call_0_316 : decode b_X14_call_0 316 = .ok (.iload 7, 2) := by decide +kernel
theorem d_X14_call_0_318 : decode b_X14_call_0 318 = .ok (.iconst 1, 1) := by decide +kernel
theorem d_X14_call_0_319 : decode b_X14_call_0 319 = .ok (.iadd, 1) := by decide +kernel
theorem d_X14_call_0_320 : decode b_X14_call_0 320 = .ok (.putfield 371, 3) := by decide +kernel
theorem d_X14_call_0_323 : decode b_X14_call_0 323 = .ok (.aload 9, 2) := by decide +kernel
theorem d_X14_call_0_325 : decode b_X14_call_0 325 = .ok (.getfield 371, 3) := by decide +kernel
theorem d_X14_call_0_328 : decode b_X14_call_0 328 = .ok (.bipush 60, 2) := by decide +kernel
theorem d_X14_call_0_330 : decode b_X14_call_0 330 = .ok (.if_icmp .le 9, 3) := by decide +kernel
theorem d_X14_call_0_333 : decode b_X14_call_0 333 = .ok (.aload_n 0, 1) := by decide +kernel
theorem d_X14_call_0_334 : decode b_X14_call_0 334 = .ok (.iconst 4, 1) := by decide +kernel
theorem d_X14_call_0_335 : decode b_X14_call_0 335 = .ok (.iload_n 1, 1) := by decide +kernel
theorem d_X14_call_0_336 : decode b_X14_call_0 336 = .ok (.invokevirtual 304, 3) := by decide +kernel
theorem d_X14_call_0_339 : decode b_X14_call_0 339 = .ok (.aload 9, 2) := by decide +kernel
theorem d_X14_call_0_341 : decode b_X14_call_0 341 = .ok (.areturn, 1) := by decide +kernel
theorem d_X14_local_0 : decode b_X14_local 0 = .ok (.aload_n 0, 1) := by decide +kernel
theorem d_X14_local_1 : decode b_X14_local 1 = .ok (.getfield 340, 3) := by decide +kernel
theorem d_X14_local_4 : decode b_X14_local 4 = .ok (.iconst 1, 1) := by decide +kernel
theorem d_X14_local_5 : decode b_X14_local 5 = .ok (.isub, 1) := by decide +kernel
theorem d_X14_local_6 : decode b_X14_local 6 = .ok (.istore_n 2, 1) := by decide +kernel
theorem d_X14_local_7 : decode b_X14_local 7 = .ok (.iload_n 2, 1) := by decide +kernel
theorem d_X14_local_8 : decode b_X14_local 8 = .ok (.ifCond .lt 30, 3) := by decide +kernel
theorem d_X14_local_11 : decode b_X14_local 11 = .ok (.aload_n 0, 1) := by decide +kernel
theorem d_X14_local_12 : decode b_X14_local 12 = .ok (.aload_n 0, 1) := by decide +kernel
theorem d_X14_local_13 : decode b_X14_local 13 = .ok (.getfield 123, 3) := by decide +kernel
theorem d_X14_local_16 : decode b_X14_local 16 = .ok (.iload_n 2, 1) := by decide +kernel
theorem d_X14_local_17 : decode b_X14_local 17 = .ok (.iaload, 1) := by decide +kernel
theorem d_X14_local_18 : decode b_X14_local 18 = .ok (.iload_n 1, 1) := by decide +kernel
theorem d_X14_local_19 : decode b_X14_local 19 = .ok (.invokevirtual 343, 3) := by decide +kernel
theorem d_X14_local_22 : decode b_X14_local 22 = .ok (.ifCond .eq 10, 3) := by decide +kernel
theorem d_X14_local_25 : decode b_X14_local 25 = .ok (.aload_n 0, 1) := by decide +kernel
theorem d_X14_local_26 : decode b_X14_local 26 = .ok (.getfield 126, 3) := by decide +kernel
theorem d_X14_local_29 : decode b_X14_local 29 = .ok (.iload_n 2, 1) := by decide +kernel
theorem d_X14_local_30 : decode b_X14_local 30 = .ok (.iaload, 1) := by decide +kernel
theorem d_X14_local_31 : decode b_X14_local 31 = .ok (.ireturn, 1) := by decide +kernel
theorem d_X14_local_32 : decode b_X14_local 32 = .ok (.iinc 2 (-1), 3) := by decide +kernel
theorem d_X14_local_35 : decode b_X14_local 35 = .ok (.goto (-28), 3) := by decide +kernel
theorem d_X14_local_38 : decode b_X14_local 38 = .ok (.iconst (-1), 1) := by decide +kernel
theorem d_X14_local_39 : decode b_X14_local 39 = .ok (.ireturn, 1) := by decide +kernel
theorem d_X14_fits_0 : decode b_X14_fits 0 = .ok (.aload_n 0, 1) := by decide +kernel
theorem d_X14_fits_1 : decode b_X14_fits 1 = .ok (.getfield 352, 3) := by decide +kernel
theorem d_X14_fits_4 : decode b_X14_fits 4 = .ok (.iload_n 1, 1) := by decide +kernel
theorem d_X14_fits_5 : decode b_X14_fits 5 = .ok (.if_icmp .eq 14, 3) := by decide +kernel
theorem d_X14_fits_8 : decode b_X14_fits 8 = .ok (.iload_n 1, 1) := by decide +kernel
theorem d_X14_fits_9 : decode b_X14_fits 9 = .ok (.ifCond .le 14, 3) := by decide +kernel
theorem d_X14_fits_12 : decode b_X14_fits 12 = .ok (.aload_n 0, 1) := by decide +kernel
theorem d_X14_fits_13 : decode b_X14_fits 13 = .ok (.getfield 357, 3) := by decide +kernel
theorem d_X14_fits_16 : decode b_X14_fits 16 = .ok (.ifCond .eq 7, 3) := by decide +kernel
theorem d_X14_fits_19 : decode b_X14_fits 19 = .ok (.iconst 1, 1) := by decide +kernel
theorem d_X14_fits_20 : decode b_X14_fits 20 = .ok (.goto 4, 3) := by decide +kernel
theorem d_X14_fits_23 : decode b_X14_fits 23 = .ok (.iconst 0, 1) := by decide +kernel
theorem d_X14_fits_24 : decode b_X14_fits 24 = .ok (.ireturn, 1) := by decide +kernel
theorem d_X14_named_0 : decode b_X14_named 0 = .ok (.aload_n 0, 1) := by decide +kernel
theorem d_X14_named_1 : decode b_X14_named 1 = .ok (.iload_n 1, 1) := by decide +kernel
theorem d_X14_named_2 : decode b_X14_named 2 = .ok (.invokevirtual 524, 3) := by decide +kernel
theorem d_X14_named_5 : decode b_X14_named 5 = .ok (.istore_n 2, 1) := by decide +kernel
theorem d_X14_named_6 : decode b_X14_named 6 = .ok (.iload_n 2, 1) := by decide +kernel
theorem d_X14_named_7 : decode b_X14_named 7 = .ok (.ifCond .lt 77, 3) := by decide +kernel
theorem d_X14_named_10 : decode b_X14_named 10 = .ok (.new 353, 3) := by decide +kernel
theorem d_X14_named_13 : decode b_X14_named 13 = .ok (.dup, 1) := by decide +kernel
theorem d_X14_named_14 : decode b_X14_named 14 = .ok (.aload_n 0, 1) := by decide +kernel
theorem d_X14_named_15 : decode b_X14_named 15 = .ok (.getfield 117, 3) := by decide +kernel
theorem d_X14_named_18 : decode b_X14_named 18 = .ok (.iload_n 2, 1) := by decide +kernel
theorem d_X14_named_19 : decode b_X14_named 19 = .ok (.iaload, 1) := by decide +kernel
theorem d_X14_named_20 : decode b_X14_named 20 = .ok (.ifCond .ge 12, 3) := by decide +kernel
theorem d_X14_named_23 : decode b_X14_named 23 = .ok (.aload_n 0, 1) := by decide +kernel
theorem d_X14_named_24 : decode b_X14_named 24 = .ok (.getfield 114, 3) := by decide +kernel
theorem d_X14_named_27 : decode b_X14_named 27 = .ok (.iload_n 2, 1) := by decide +kernel
theorem d_X14_named_28 : decode b_X14_named 28 = .ok (.iaload, 1) := by decide +kernel
theorem d_X14_named_29 : decode b_X14_named 29 = .ok (.goto 11, 3) := by decide +kernel
theorem d_X14_named_32 : decode b_X14_named 32 = .ok (.aload_n 0, 1) := by decide +kernel
theorem d_X14_named_33 : decode b_X14_named 33 = .ok (.getfield 114, 3) := by decide +kernel
theorem d_X14_named_36 : decode b_X14_named 36 = .ok (.iload_n 2, 1) := by decide +kernel
theorem d_X14_named_37 : decode b_X14_named 37 = .ok (.iaload, 1) := by decide +kernel
theorem d_X14_named_38 : decode b_X14_named 38 = .ok (.iconst 1, 1) := by decide +kernel
theorem d_X14_named_39 : decode b_X14_named 39 = .ok (.iadd, 1) := by decide +kernel
theorem d_X14_named_40 : decode b_X14_named 40 = .ok (.invokespecial 369, 3) := by decide +kernel
theorem d_X14_named_43 : decode b_X14_named 43 = .ok (.astore_n 3, 1) := by decide +kernel
theorem d_X14_named_44 : decode b_X14_named 44 = .ok (.aload_n 3, 1) := by decide +kernel
theorem d_X14_named_45 : decode b_X14_named 45 = .ok (.aload_n 0, 1) := by decide +kernel
theorem d_X14_named_46 : decode b_X14_named 46 = .ok (.getfield 117, 3) := by decide +kernel
theorem d_X14_named_49 : decode b_X14_named 49 = .ok (.iload_n 2, 1) := by decide +kernel
theorem d_X14_named_50 : decode b_X14_named 50 = .ok (.iaload, 1) := by decide +kernel
theorem d_X14_named_51 : decode b_X14_named 51 = .ok (.ifCond .ge 7, 3) := by decide +kernel
theorem d_X14_named_54 : decode b_X14_named 54 = .ok (.iconst 1, 1) := by decide +kernel
theorem d_X14_named_55 : decode b_X14_named 55 = .ok (.goto 4, 3) := by decide +kernel
theorem d_X14_named_58 : decode b_X14_named 58 = .ok (.iconst 0, 1) := by decide +kernel
theorem d_X14_named_59 : decode b_X14_named 59 = .ok (.putfield 361, 3) := by decide +kernel
theorem d_X14_named_62 : decode b_X14_named 62 = .ok (.aload_n 3, 1) := by decide +kernel
theorem d_X14_named_63 : decode b_X14_named 63 = .ok (.iload_n 2, 1) := by decide +kernel
theorem d_X14_named_64 : decode b_X14_named 64 = .ok (.putfield 364, 3) := by decide +kernel
theorem d_X14_named_67 : decode b_X14_named 67 = .ok (.aload_n 0, 1) := by decide +kernel
theorem d_X14_named_68 : decode b_X14_named 68 = .ok (.getfield 117, 3) := by decide +kernel
theorem d_X14_named_71 : decode b_X14_named 71 = .ok (.iload_n 2, 1) := by decide +kernel
theorem d_X14_named_72 : decode b_X14_named 72 = .ok (.iaload, 1) := by decide +kernel
theorem d_X14_named_73 : decode b_X14_named 73 = .ok (.ifCond .lt 9, 3) := by decide +kernel
theorem d_X14_named_76 : decode b_X14_named 76 = .ok (.aload_n 0, 1) := by decide +kernel
theorem d_X14_named_77 : decode b_X14_named 77 = .ok (.iconst 4, 1) := by decide +kernel
theorem d_X14_named_78 : decode b_X14_named 78 = .ok (.iload_n 2, 1) := by decide +kernel
theorem d_X14_named_79 : decode b_X14_named 79 = .ok (.invokevirtual 322, 3) := by decide +kernel
theorem d_X14_named_82 : decode b_X14_named 82 = .ok (.aload_n 3, 1) := by decide +kernel
theorem d_X14_named_83 : decode b_X14_named 83 = .ok (.areturn, 1) := by decide +kernel
theorem d_X14_named_84 : decode b_X14_named 84 = .ok (.aload_n 0, 1) := by decide +kernel
theorem d_X14_named_85 : decode b_X14_named 85 = .ok (.iload_n 1, 1) := by decide +kernel
theorem d_X14_named_86 : decode b_X14_named 86 = .ok (.invokevirtual 527, 3) := by decide +kernel
theorem d_X14_named_89 : decode b_X14_named 89 = .ok (.istore_n 3, 1) := by decide +kernel
theorem d_X14_named_90 : decode b_X14_named 90 = .ok (.aload_n 0, 1) := by decide +kernel
theorem d_X14_named_91 : decode b_X14_named 91 = .ok (.iload_n 3, 1) := by decide +kernel
theorem d_X14_named_92 : decode b_X14_named 92 = .ok (.ifCond .lt 17, 3) := by decide +kernel
theorem d_X14_named_95 : decode b_X14_named 95 = .ok (.aload_n 0, 1) := by decide +kernel
theorem d_X14_named_96 : decode b_X14_named 96 = .ok (.getfield 44, 3) := by decide +kernel
theorem d_X14_named_99 : decode b_X14_named 99 = .ok (.iload_n 3, 1) := by decide +kernel
theorem d_X14_named_100 : decode b_X14_named 100 = .ok (.iaload, 1) := by decide +kernel
theorem d_X14_named_101 : decode b_X14_named 101 = .ok (.iconst 1, 1) := by decide +kernel
theorem d_X14_named_102 : decode b_X14_named 102 = .ok (.if_icmp .ne 7, 3) := by decide +kernel
theorem d_X14_named_105 : decode b_X14_named 105 = .ok (.iconst 1, 1) := by decide +kernel
theorem d_X14_named_106 : decode b_X14_named 106 = .ok (.goto 4, 3) := by decide +kernel
theorem d_X14_named_109 : decode b_X14_named 109 = .ok (.iconst 0, 1) := by decide +kernel
theorem d_X14_named_110 : decode b_X14_named 110 = .ok (.iload_n 1, 1) := by decide +kernel
theorem d_X14_named_111 : decode b_X14_named 111 = .ok (.invokevirtual 410, 3) := by decide +kernel
theorem d_X14_named_114 : decode b_X14_named 114 = .ok (.iload_n 3, 1) := by decide +kernel
theorem d_X14_named_115 : decode b_X14_named 115 = .ok (.ifCond .lt 13, 3) := by decide +kernel
theorem d_X14_named_118 : decode b_X14_named 118 = .ok (.aload_n 0, 1) := by decide +kernel
theorem d_X14_named_119 : decode b_X14_named 119 = .ok (.getfield 44, 3) := by decide +kernel
theorem d_X14_named_122 : decode b_X14_named 122 = .ok (.iload_n 3, 1) := by decide +kernel
theorem d_X14_named_123 : decode b_X14_named 123 = .ok (.iaload, 1) := by decide +kernel
theorem d_X14_named_124 : decode b_X14_named 124 = .ok (.iconst 1, 1) := by decide +kernel
theorem d_X14_named_125 : decode b_X14_named 125 = .ok (.if_icmp .eq 13, 3) := by decide +kernel
theorem d_X14_named_128 : decode b_X14_named 128 = .ok (.new 353, 3) := by decide +kernel
theorem d_X14_named_131 : decode b_X14_named 131 = .ok (.dup, 1) := by decide +kernel
theorem d_X14_named_132 : decode b_X14_named 132 = .ok (.bipush (-2), 2) := by decide +kernel
theorem d_X14_named_134 : decode b_X14_named 134 = .ok (.invokespecial 369, 3) := by decide +kernel
theorem d_X14_named_137 : decode b_X14_named 137 = .ok (.areturn, 1) := by decide +kernel
theorem d_X14_named_138 : decode b_X14_named 138 = .ok (.aload_n 0, 1) := by decide +kernel
theorem d_X14_named_139 : decode b_X14_named 139 = .ok (.getfield 60, 3) := by decide +kernel
theorem d_X14_named_142 : decode b_X14_named 142 = .ok (.iload_n 3, 1) := by decide +kernel
theorem d_X14_named_143 : decode b_X14_named 143 = .ok (.iconst 1, 1) := by decide +kernel
theorem d_X14_named_144 : decode b_X14_named 144 = .ok (.bastore, 1) := by decide +kernel
theorem d_X14_named_145 : decode b_X14_named 145 = .ok (.iload_n 3, 1) := by decide +kernel
theorem d_X14_named_146 : decode b_X14_named 146 = .ok (.aload_n 0, 1) := by decide +kernel
theorem d_X14_named_147 : decode b_X14_named 147 = .ok (.getfield 86, 3) := by decide +kernel
theorem d_X14_named_150 : decode b_X14_named 150 = .ok (.aload_n 0, 1) := by decide +kernel
theorem d_X14_named_151 : decode b_X14_named 151 = .ok (.getfield 327, 3) := by decide +kernel
theorem d_X14_named_154 : decode b_X14_named 154 = .ok (.iaload, 1) := by decide +kernel
theorem d_X14_named_155 : decode b_X14_named 155 = .ok (.isub, 1) := by decide +kernel
theorem d_X14_named_156 : decode b_X14_named 156 = .ok (.istore 4, 2) := by decide +kernel
theorem d_X14_named_158 : decode b_X14_named 158 = .ok (.new 353, 3) := by decide +kernel
theorem d_X14_named_161 : decode b_X14_named 161 = .ok (.dup, 1) := by decide +kernel
theorem d_X14_named_162 : decode b_X14_named 162 = .ok (.aload_n 0, 1) := by decide +kernel
theorem d_X14_named_163 : decode b_X14_named 163 = .ok (.getfield 50, 3) := by decide +kernel
theorem d_X14_named_166 : decode b_X14_named 166 = .ok (.iload_n 3, 1) := by decide +kernel
theorem d_X14_named_167 : decode b_X14_named 167 = .ok (.iaload, 1) := by decide +kernel
theorem d_X14_named_168 : decode b_X14_named 168 = .ok (.ifCond .ge 12, 3) := by decide +kernel
theorem d_X14_named_171 : decode b_X14_named 171 = .ok (.aload_n 0, 1) := by decide +kernel
theorem d_X14_named_172 : decode b_X14_named 172 = .ok (.getfield 47, 3) := by decide +kernel
theorem d_X14_named_175 : decode b_X14_named 175 = .ok (.iload_n 3, 1) := by decide +kernel
theorem d_X14_named_176 : decode b_X14_named 176 = .ok (.iaload, 1) := by decide +kernel
theorem d_X14_named_177 : decode b_X14_named 177 = .ok (.goto 11, 3) := by decide +kernel
theorem d_X14_named_180 : decode b_X14_named 180 = .ok (.aload_n 0, 1) := by decide +kernel
theorem d_X14_named_181 : decode b_X14_named 181 = .ok (.getfield 47, 3) := by decide +kernel
theorem d_X14_named_184 : decode b_X14_named 184 = .ok (.iload_n 3, 1) := by decide +kernel
theorem d_X14_named_185 : decode b_X14_named 185 = .ok (.iaload, 1) := by decide +kernel
theorem d_X14_named_186 : decode b_X14_named 186 = .ok (.iconst 1, 1) := by decide +kernel
theorem d_X14_named_187 : decode b_X14_named 187 = .ok (.iadd, 1) := by decide +kernel
theorem d_X14_named_188 : decode b_X14_named 188 = .ok (.invokespecial 369, 3) := by decide +kernel
theorem d_X14_named_191 : decode b_X14_named 191 = .ok (.astore 5, 2) := by decide +kernel
theorem d_X14_named_193 : decode b_X14_named 193 = .ok (.aload 5, 2) := by decide +kernel
theorem d_X14_named_195 : decode b_X14_named 195 = .ok (.iload 4, 2) := by decide +kernel
theorem d_X14_named_197 : decode b_X14_named 197 = .ok (.putfield 364, 3) := by decide +kernel
theorem d_X14_named_200 : decode b_X14_named 200 = .ok (.aload 5, 2) := by decide +kernel
theorem d_X14_named_202 : decode b_X14_named 202 = .ok (.iload_n 1, 1) := by decide +kernel
theorem d_X14_named_203 : decode b_X14_named 203 = .ok (.putfield 367, 3) := by decide +kernel
theorem d_X14_named_206 : decode b_X14_named 206 = .ok (.aload_n 0, 1) := by decide +kernel
theorem d_X14_named_207 : decode b_X14_named 207 = .ok (.getfield 50, 3) := by decide +kernel
theorem d_X14_named_210 : decode b_X14_named 210 = .ok (.iload_n 3, 1) := by decide +kernel
theorem d_X14_named_211 : decode b_X14_named 211 = .ok (.iaload, 1) := by decide +kernel
theorem d_X14_named_212 : decode b_X14_named 212 = .ok (.ifCond .ge 12, 3) := by decide +kernel
theorem d_X14_named_215 : decode b_X14_named 215 = .ok (.aload 5, 2) := by decide +kernel
theorem d_X14_named_217 : decode b_X14_named 217 = .ok (.iconst 2, 1) := by decide +kernel
theorem d_X14_named_218 : decode b_X14_named 218 = .ok (.putfield 361, 3) := by decide +kernel
theorem d_X14_named_221 : decode b_X14_named 221 = .ok (.aload 5, 2) := by decide +kernel
theorem d_X14_named_223 : decode b_X14_named 223 = .ok (.areturn, 1) := by decide +kernel
theorem d_X14_named_224 : decode b_X14_named 224 = .ok (.aload_n 0, 1) := by decide +kernel
theorem d_X14_named_225 : decode b_X14_named 225 = .ok (.iconst 1, 1) := by decide +kernel
theorem d_X14_named_226 : decode b_X14_named 226 = .ok (.iload 4, 2) := by decide +kernel
theorem d_X14_named_228 : decode b_X14_named 228 = .ok (.invokevirtual 322, 3) := by decide +kernel
theorem d_X14_named_231 : decode b_X14_named 231 = .ok (.aload 5, 2) := by decide +kernel
theorem d_X14_named_233 : decode b_X14_named 233 = .ok (.iload 4, 2) := by decide +kernel
theorem d_X14_named_235 : decode b_X14_named 235 = .ok (.iconst 1, 1) := by decide +kernel
theorem d_X14_named_236 : decode b_X14_named 236 = .ok (.iadd, 1) := by decide +kernel
theorem d_X14_named_237 : decode b_X14_named 237 = .ok (.iconst 0, 1) := by decide +kernel
theorem d_X14_named_238 : decode b_X14_named 238 = .ok (.invokevirtual 470, 3) := by decide +kernel
theorem d_X14_named_241 : decode b_X14_named 241 = .ok (.areturn, 1) := by decide +kernel
theorem d_X14_rank_0 : decode b_X14_rank 0 = .ok (.iload_n 0, 1) := by decide +kernel
theorem d_X14_rank_1 : decode b_X14_rank 1 = .ok (.bipush 10, 2) := by decide +kernel
theorem d_X14_rank_3 : decode b_X14_rank 3 = .ok (.if_icmp .ne 5, 3) := by decide +kernel
theorem d_X14_rank_6 : decode b_X14_rank 6 = .ok (.iconst 1, 1) := by decide +kernel
theorem d_X14_rank_7 : decode b_X14_rank 7 = .ok (.ireturn, 1) := by decide +kernel
theorem d_X14_rank_8 : decode b_X14_rank 8 = .ok (.iload_n 0, 1) := by decide +kernel
theorem d_X14_rank_9 : decode b_X14_rank 9 = .ok (.bipush 11, 2) := by decide +kernel
theorem d_X14_rank_11 : decode b_X14_rank 11 = .ok (.if_icmp .ne 5, 3) := by decide +kernel
theorem d_X14_rank_14 : decode b_X14_rank 14 = .ok (.iconst 2, 1) := by decide +kernel
theorem d_X14_rank_15 : decode b_X14_rank 15 = .ok (.ireturn, 1) := by decide +kernel
theorem d_X14_rank_16 : decode b_X14_rank 16 = .ok (.iload_n 0, 1) := by decide +kernel
theorem d_X14_rank_17 : decode b_X14_rank 17 = .ok (.bipush 31, 2) := by decide +kernel
theorem d_X14_rank_19 : decode b_X14_rank 19 = .ok (.if_icmp .ne 5, 3) := by decide +kernel
theorem d_X14_rank_22 : decode b_X14_rank 22 = .ok (.iconst 3, 1) := by decide +kernel
theorem d_X14_rank_23 : decode b_X14_rank 23 = .ok (.ireturn, 1) := by decide +kernel
theorem d_X14_rank_24 : decode b_X14_rank 24 = .ok (.iload_n 0, 1) := by decide +kernel
theorem d_X14_rank_25 : decode b_X14_rank 25 = .ok (.bipush 32, 2) := by decide +kernel
theorem d_X14_rank_27 : decode b_X14_rank 27 = .ok (.if_icmp .ne 5, 3) := by decide +kernel
theorem d_X14_rank_30 : decode b_X14_rank 30 = .ok (.iconst 4, 1) := by decide +kernel
theorem d_X14_rank_31 : decode b_X14_rank 31 = .ok (.ireturn, 1) := by decide +kernel
theorem d_X14_rank_32 : decode b_X14_rank 32 = .ok (.iload_n 0, 1) := by decide +kernel
theorem d_X14_rank_33 : decode b_X14_rank 33 = .ok (.bipush 33, 2) := by decide +kernel
theorem d_X14_rank_35 : decode b_X14_rank 35 = .ok (.if_icmp .ne 5, 3) := by decide +kernel
theorem d_X14_rank_38 : decode b_X14_rank 38 = .ok (.iconst 5, 1) := by decide +kernel
theorem d_X14_rank_39 : decode b_X14_rank 39 = .ok (.ireturn, 1) := by decide +kernel
theorem d_X14_rank_40 : decode b_X14_rank 40 = .ok (.iload_n 0, 1) := by decide +kernel
theorem d_X14_rank_41 : decode b_X14_rank 41 = .ok (.bipush 12, 2) := by decide +kernel
theorem d_X14_rank_43 : decode b_X14_rank 43 = .ok (.if_icmp .eq 9, 3) := by decide +kernel
theorem d_X14_rank_46 : decode b_X14_rank 46 = .ok (.iload_n 0, 1) := by decide +kernel
theorem d_X14_rank_47 : decode b_X14_rank 47 = .ok (.bipush 13, 2) := by decide +kernel
theorem d_X14_rank_49 : decode b_X14_rank 49 = .ok (.if_icmp .ne 6, 3) := by decide +kernel
theorem d_X14_rank_52 : decode b_X14_rank 52 = .ok (.bipush 6, 2) := by decide +kernel
theorem d_X14_rank_54 : decode b_X14_rank 54 = .ok (.ireturn, 1) := by decide +kernel
theorem d_X14_rank_55 : decode b_X14_rank 55 = .ok (.iload_n 0, 1) := by decide +kernel
theorem d_X14_rank_56 : decode b_X14_rank 56 = .ok (.bipush 14, 2) := by decide +kernel
theorem d_X14_rank_58 : decode b_X14_rank 58 = .ok (.if_icmp .eq 21, 3) := by decide +kernel
theorem d_X14_rank_61 : decode b_X14_rank 61 = .ok (.iload_n 0, 1) := by decide +kernel
theorem d_X14_rank_62 : decode b_X14_rank 62 = .ok (.bipush 15, 2) := by decide +kernel
theorem d_X14_rank_64 : decode b_X14_rank 64 = .ok (.if_icmp .eq 15, 3) := by decide +kernel
theorem d_X14_rank_67 : decode b_X14_rank 67 = .ok (.iload_n 0, 1) := by decide +kernel
theorem d_X14_rank_68 : decode b_X14_rank 68 = .ok (.bipush 34, 2) := by decide +kernel
theorem d_X14_rank_70 : decode b_X14_rank 70 = .ok (.if_icmp .eq 9, 3) := by decide +kernel
theorem d_X14_rank_73 : decode b_X14_rank 73 = .ok (.iload_n 0, 1) := by decide +kernel
theorem d_X14_rank_74 : decode b_X14_rank 74 = .ok (.bipush 35, 2) := by decide +kernel
theorem d_X14_rank_76 : decode b_X14_rank 76 = .ok (.if_icmp .ne 6, 3) := by decide +kernel
theorem d_X14_rank_79 : decode b_X14_rank 79 = .ok (.bipush 7, 2) := by decide +kernel
theorem d_X14_rank_81 : decode b_X14_rank 81 = .ok (.ireturn, 1) := by decide +kernel
theorem d_X14_rank_82 : decode b_X14_rank 82 = .ok (.iload_n 0, 1) := by decide +kernel
theorem d_X14_rank_83 : decode b_X14_rank 83 = .ok (.bipush 16, 2) := by decide +kernel
theorem d_X14_rank_85 : decode b_X14_rank 85 = .ok (.if_icmp .eq 9, 3) := by decide +kernel
theorem d_X14_rank_88 : decode b_X14_rank 88 = .ok (.iload_n 0, 1) := by decide +kernel
theorem d_X14_rank_89 : decode b_X14_rank 89 = .ok (.bipush 17, 2) := by decide +kernel
theorem d_X14_rank_91 : decode b_X14_rank 91 = .ok (.if_icmp .ne 6, 3) := by decide +kernel
theorem d_X14_rank_94 : decode b_X14_rank 94 = .ok (.bipush 8, 2) := by decide +kernel
theorem d_X14_rank_96 : decode b_X14_rank 96 = .ok (.ireturn, 1) := by decide +kernel
theorem d_X14_rank_97 : decode b_X14_rank 97 = .ok (.iload_n 0, 1) := by decide +kernel
theorem d_X14_rank_98 : decode b_X14_rank 98 = .ok (.bipush 36, 2) := by decide +kernel
theorem d_X14_rank_100 : decode b_X14_rank 100 = .ok (.if_icmp .eq 9, 3) := by decide +kernel
theorem d_X14_rank_103 : decode b_X14_rank 103 = .ok (.iload_n 0, 1) := by decide +kernel
theorem d_X14_rank_104 : decode b_X14_rank 104 = .ok (.bipush 37, 2) := by decide +kernel
theorem d_X14_rank_106 : decode b_X14_rank 106 = .ok (.if_icmp .ne 6, 3) := by decide +kernel
theorem d_X14_rank_109 : decode b_X14_rank 109 = .ok (.bipush 9, 2) := by decide +kernel
theorem d_X14_rank_111 : decode b_X14_rank 111 = .ok (.ireturn, 1) := by decide +kernel
theorem d_X14_rank_112 : decode b_X14_rank 112 = .ok (.iload_n 0, 1) := by decide +kernel
theorem d_X14_rank_113 : decode b_X14_rank 113 = .ok (.bipush 38, 2) := by decide +kernel
theorem d_X14_rank_115 : decode b_X14_rank 115 = .ok (.if_icmp .eq 15, 3) := by decide +kernel
theorem d_X14_rank_118 : decode b_X14_rank 118 = .ok (.iload_n 0, 1) := by decide +kernel
theorem d_X14_rank_119 : decode b_X14_rank 119 = .ok (.bipush 39, 2) := by decide +kernel
theorem d_X14_rank_121 : decode b_X14_rank 121 = .ok (.if_icmp .eq 9, 3) := by decide +kernel
theorem d_X14_rank_124 : decode b_X14_rank 124 = .ok (.iload_n 0, 1) := by decide +kernel
theorem d_X14_rank_125 : decode b_X14_rank 125 = .ok (.bipush 40, 2) := by decide +kernel
theorem d_X14_rank_127 : decode b_X14_rank 127 = .ok (.if_icmp .ne 8, 3) := by decide +kernel
theorem d_X14_rank_130 : decode b_X14_rank 130 = .ok (.bipush 10, 2) := by decide +kernel
theorem d_X14_rank_132 : decode b_X14_rank 132 = .ok (.goto 4, 3) := by decide +kernel
theorem d_X14_rank_135 : decode b_X14_rank 135 = .ok (.iconst 0, 1) := by decide +kernel
theorem d_X14_rank_136 : decode b_X14_rank 136 = .ok (.ireturn, 1) := by decide +kernel
theorem d_X14_decided_0 : decode b_X14_decided 0 = .ok (.aload_n 0, 1) := by decide +kernel
theorem d_X14_decided_1 : decode b_X14_decided 1 = .ok (.iload_n 1, 1) := by decide +kernel
theorem d_X14_decided_2 : decode b_X14_decided 2 = .ok (.bipush 11, 2) := by decide +kernel
theorem d_X14_decided_4 : decode b_X14_decided 4 = .ok (.if_icmp .ne 8, 3) := by decide +kernel
theorem d_X14_decided_7 : decode b_X14_decided 7 = .ok (.bipush 16, 2) := by decide +kernel
theorem d_X14_decided_9 : decode b_X14_decided 9 = .ok (.goto 5, 3) := by decide +kernel
theorem d_X14_decided_12 : decode b_X14_decided 12 = .ok (.bipush 17, 2) := by decide +kernel
theorem d_X14_decided_14 : decode b_X14_decided 14 = .ok (.invokevirtual 425, 3) := by decide +kernel
theorem d_X14_decided_17 : decode b_X14_decided 17 = .ok (.istore 5, 2) := by decide +kernel
theorem d_X14_decided_19 : decode b_X14_decided 19 = .ok (.aload_n 0, 1) := by decide +kernel
theorem d_X14_decided_20 : decode b_X14_decided 20 = .ok (.iload_n 1, 1) := by decide +kernel
theorem d_X14_decided_21 : decode b_X14_decided 21 = .ok (.invokestatic 440, 3) := by decide +kernel
theorem d_X14_decided_24 : decode b_X14_decided 24 = .ok (.iconst 1, 1) := by decide +kernel
theorem d_X14_decided_25 : decode b_X14_decided 25 = .ok (.iadd, 1) := by decide +kernel
theorem d_X14_decided_26 : decode b_X14_decided 26 = .ok (.iload 4, 2) := by decide +kernel
theorem d_X14_decided_28 : decode b_X14_decided 28 = .ok (.invokevirtual 421, 3) := by decide +kernel
theorem d_X14_decided_31 : decode b_X14_decided 31 = .ok (.astore 6, 2) := by decide +kernel
theorem d_X14_decided_33 : decode b_X14_decided 33 = .ok (.aload_n 0, 1) := by decide +kernel
theorem d_X14_decided_34 : decode b_X14_decided 34 = .ok (.aload 6, 2) := by decide +kernel
theorem d_X14_decided_36 : decode b_X14_decided 36 = .ok (.invokevirtual 398, 3) := by decide +kernel
theorem d_X14_decided_39 : decode b_X14_decided 39 = .ok (.aload_n 0, 1) := by decide +kernel
theorem d_X14_decided_40 : decode b_X14_decided 40 = .ok (.bipush 24, 2) := by decide +kernel
theorem d_X14_decided_42 : decode b_X14_decided 42 = .ok (.invokevirtual 318, 3) := by decide +kernel
theorem d_X14_decided_45 : decode b_X14_decided 45 = .ok (.aload_n 0, 1) := by decide +kernel
theorem d_X14_decided_46 : decode b_X14_decided 46 = .ok (.bipush 15, 2) := by decide +kernel
theorem d_X14_decided_48 : decode b_X14_decided 48 = .ok (.invokevirtual 425, 3) := by decide +kernel
theorem d_X14_decided_51 : decode b_X14_decided 51 = .ok (.istore 7, 2) := by decide +kernel
theorem d_X14_decided_53 : decode b_X14_decided 53 = .ok (.aload_n 0, 1) := by decide +kernel
theorem d_X14_decided_54 : decode b_X14_decided 54 = .ok (.iload 5, 2) := by decide +kernel
theorem d_X14_decided_56 : decode b_X14_decided 56 = .ok (.invokevirtual 428, 3) := by decide +kernel
theorem d_X14_decided_59 : decode b_X14_decided 59 = .ok (.aload_n 0, 1) := by decide +kernel
theorem d_X14_decided_60 : decode b_X14_decided 60 = .ok (.iconst 0, 1) := by decide +kernel
theorem d_X14_decided_61 : decode b_X14_decided 61 = .ok (.iload_n 1, 1) := by decide +kernel
theorem d_X14_decided_62 : decode b_X14_decided 62 = .ok (.bipush 11, 2) := by decide +kernel
theorem d_X14_decided_64 : decode b_X14_decided 64 = .ok (.if_icmp .ne 7, 3) := by decide +kernel
theorem d_X14_decided_67 : decode b_X14_decided 67 = .ok (.iconst 0, 1) := by decide +kernel
theorem d_X14_decided_68 : decode b_X14_decided 68 = .ok (.goto 4, 3) := by decide +kernel
theorem d_X14_decided_71 : decode b_X14_decided 71 = .ok (.iconst 1, 1) := by decide +kernel
theorem d_X14_decided_72 : decode b_X14_decided 72 = .ok (.invokevirtual 322, 3) := by decide +kernel
theorem d_X14_decided_75 : decode b_X14_decided 75 = .ok (.aload_n 0, 1) := by decide +kernel
theorem d_X14_decided_76 : decode b_X14_decided 76 = .ok (.iload 7, 2) := by decide +kernel
theorem d_X14_decided_78 : decode b_X14_decided 78 = .ok (.invokevirtual 428, 3) := by decide +kernel
theorem d_X14_decided_81 : decode b_X14_decided 81 = .ok (.aload_n 0, 1) := by decide +kernel
theorem d_X14_decided_82 : decode b_X14_decided 82 = .ok (.aload_n 2, 1) := by decide +kernel
theorem d_X14_decided_83 : decode b_X14_decided 83 = .ok (.invokestatic 431, 3) := by decide +kernel
theorem d_X14_decided_86 : decode b_X14_decided 86 = .ok (.ifCond .eq 15, 3) := by decide +kernel
theorem d_X14_decided_89 : decode b_X14_decided 89 = .ok (.aload 6, 2) := by decide +kernel
theorem d_X14_decided_91 : decode b_X14_decided 91 = .ok (.invokestatic 431, 3) := by decide +kernel
theorem d_X14_decided_94 : decode b_X14_decided 94 = .ok (.ifCond .eq 7, 3) := by decide +kernel
theorem d_X14_decided_97 : decode b_X14_decided 97 = .ok (.iconst 1, 1) := by decide +kernel
theorem d_X14_decided_98 : decode b_X14_decided 98 = .ok (.goto 4, 3) := by decide +kernel
theorem d_X14_decided_101 : decode b_X14_decided 101 = .ok (.iconst 0, 1) := by decide +kernel
theorem d_X14_decided_102 : decode b_X14_decided 102 = .ok (.iload_n 3, 1) := by decide +kernel
theorem d_X14_decided_103 : decode b_X14_decided 103 = .ok (.invokevirtual 410, 3) := by decide +kernel
theorem d_X14_decided_106 : decode b_X14_decided 106 = .ok (.aload_n 0, 1) := by decide +kernel
theorem d_X14_decided_107 : decode b_X14_decided 107 = .ok (.iconst 0, 1) := by decide +kernel
theorem d_X14_decided_108 : decode b_X14_decided 108 = .ok (.aload_n 2, 1) := by decide +kernel
theorem d_X14_decided_109 : decode b_X14_decided 109 = .ok (.aload 6, 2) := by decide +kernel
theorem d_X14_decided_111 : decode b_X14_decided 111 = .ok (.iload_n 3, 1) := by decide +kernel
theorem d_X14_decided_112 : decode b_X14_decided 112 = .ok (.invokevirtual 414, 3) := by decide +kernel
theorem d_X14_decided_115 : decode b_X14_decided 115 = .ok (.areturn, 1) := by decide +kernel
theorem d_X14_open_0 : decode b_X14_open 0 = .ok (.aload_n 0, 1) := by decide +kernel
theorem d_X14_open_1 : decode b_X14_open 1 = .ok (.iload_n 1, 1) := by decide +kernel
theorem d_X14_open_2 : decode b_X14_open 2 = .ok (.iconst (-1), 1) := by decide +kernel
theorem d_X14_open_3 : decode b_X14_open 3 = .ok (.invokevirtual 322, 3) := by decide +kernel
theorem d_X14_open_6 : decode b_X14_open 6 = .ok (.aload_n 0, 1) := by decide +kernel
theorem d_X14_open_7 : decode b_X14_open 7 = .ok (.getfield 315, 3) := by decide +kernel
theorem d_X14_open_10 : decode b_X14_open 10 = .ok (.iconst 1, 1) := by decide +kernel
theorem d_X14_open_11 : decode b_X14_open 11 = .ok (.isub, 1) := by decide +kernel
theorem d_X14_open_12 : decode b_X14_open 12 = .ok (.ireturn, 1) := by decide +kernel
theorem d_X14_aim_0 : decode b_X14_aim 0 = .ok (.aload_n 0, 1) := by decide +kernel
theorem d_X14_aim_1 : decode b_X14_aim 1 = .ok (.getfield 41, 3) := by decide +kernel
theorem d_X14_aim_4 : decode b_X14_aim 4 = .ok (.iload_n 1, 1) := by decide +kernel
theorem d_X14_aim_5 : decode b_X14_aim 5 = .ok (.aload_n 0, 1) := by decide +kernel
theorem d_X14_aim_6 : decode b_X14_aim 6 = .ok (.getfield 315, 3) := by decide +kernel
theorem d_X14_aim_9 : decode b_X14_aim 9 = .ok (.iastore, 1) := by decide +kernel
theorem d_X14_aim_10 : decode b_X14_aim 10 = .ok (.return_, 1) := by decide +kernel
theorem d_X14_two_0 : decode b_X14_two 0 = .ok (.iload_n 1, 1) := by decide +kernel
theorem d_X14_two_1 : decode b_X14_two 1 = .ok (.aload_n 2, 1) := by decide +kernel
theorem d_X14_two_2 : decode b_X14_two 2 = .ok (.aload_n 3, 1) := by decide +kernel
theorem d_X14_two_3 : decode b_X14_two 3 = .ok (.invokestatic 450, 3) := by decide +kernel
theorem d_X14_two_6 : decode b_X14_two 6 = .ok (.istore 5, 2) := by decide +kernel
theorem d_X14_two_8 : decode b_X14_two 8 = .ok (.aload_n 0, 1) := by decide +kernel
theorem d_X14_two_9 : decode b_X14_two 9 = .ok (.iload 5, 2) := by decide +kernel
theorem d_X14_two_11 : decode b_X14_two 11 = .ok (.bipush (-2), 2) := by decide +kernel
theorem d_X14_two_13 : decode b_X14_two 13 = .ok (.if_icmp .eq 7, 3) := by decide +kernel
theorem d_X14_two_16 : decode b_X14_two 16 = .ok (.iconst 1, 1) := by decide +kernel
theorem d_X14_two_17 : decode b_X14_two 17 = .ok (.goto 4, 3) := by decide +kernel
theorem d_X14_two_20 : decode b_X14_two 20 = .ok (.iconst 0, 1) := by decide +kernel
theorem d_X14_two_21 : decode b_X14_two 21 = .ok (.iload 4, 2) := by decide +kernel
theorem d_X14_two_23 : decode b_X14_two 23 = .ok (.invokevirtual 410, 3) := by decide +kernel
theorem d_X14_two_26 : decode b_X14_two 26 = .ok (.aload_n 0, 1) := by decide +kernel
theorem d_X14_two_27 : decode b_X14_two 27 = .ok (.iload 5, 2) := by decide +kernel
theorem d_X14_two_29 : decode b_X14_two 29 = .ok (.aload_n 2, 1) := by decide +kernel
theorem d_X14_two_30 : decode b_X14_two 30 = .ok (.aload_n 3, 1) := by decide +kernel
theorem d_X14_two_31 : decode b_X14_two 31 = .ok (.iload 4, 2) := by decide +kernel
theorem d_X14_two_33 : decode b_X14_two 33 = .ok (.invokevirtual 414, 3) := by decide +kernel
theorem d_X14_two_36 : decode b_X14_two 36 = .ok (.astore 6, 2) := by decide +kernel
theorem d_X14_two_38 : decode b_X14_two 38 = .ok (.iload_n 1, 1) := by decide +kernel
theorem d_X14_two_39 : decode b_X14_two 39 = .ok (.invokestatic 440, 3) := by decide +kernel
theorem d_X14_two_42 : decode b_X14_two 42 = .ok (.bipush 7, 2) := by decide +kernel
theorem d_X14_two_44 : decode b_X14_two 44 = .ok (.if_icmp .ne 14, 3) := by decide +kernel
theorem d_X14_two_47 : decode b_X14_two 47 = .ok (.aload_n 2, 1) := by decide +kernel
theorem d_X14_two_48 : decode b_X14_two 48 = .ok (.invokestatic 434, 3) := by decide +kernel
theorem d_X14_two_51 : decode b_X14_two 51 = .ok (.ifCond .eq 7, 3) := by decide +kernel
theorem d_X14_two_54 : decode b_X14_two 54 = .ok (.iconst 1, 1) := by decide +kernel
theorem d_X14_two_55 : decode b_X14_two 55 = .ok (.goto 4, 3) := by decide +kernel
theorem d_X14_two_58 : decode b_X14_two 58 = .ok (.iconst 0, 1) := by decide +kernel
theorem d_X14_two_59 : decode b_X14_two 59 = .ok (.istore 7, 2) := by decide +kernel
theorem d_X14_two_61 : decode b_X14_two 61 = .ok (.aload_n 0, 1) := by decide +kernel
theorem d_X14_two_62 : decode b_X14_two 62 = .ok (.bipush 11, 2) := by decide +kernel
theorem d_X14_two_64 : decode b_X14_two 64 = .ok (.iload 7, 2) := by decide +kernel
theorem d_X14_two_66 : decode b_X14_two 66 = .ok (.ifCond .eq 10, 3) := by decide +kernel
theorem d_X14_two_69 : decode b_X14_two 69 = .ok (.iload_n 1, 1) := by decide +kernel
theorem d_X14_two_70 : decode b_X14_two 70 = .ok (.bipush 100, 2) := by decide +kernel
theorem d_X14_two_72 : decode b_X14_two 72 = .ok (.iadd, 1) := by decide +kernel
theorem d_X14_two_73 : decode b_X14_two 73 = .ok (.goto 4, 3) := by decide +kernel
theorem d_X14_two_76 : decode b_X14_two 76 = .ok (.iload_n 1, 1) := by decide +kernel
theorem d_X14_two_77 : decode b_X14_two 77 = .ok (.aload_n 0, 1) := by decide +kernel
theorem d_X14_two_78 : decode b_X14_two 78 = .ok (.getfield 23, 3) := by decide +kernel
theorem d_X14_two_81 : decode b_X14_two 81 = .ok (.iload 4, 2) := by decide +kernel
theorem d_X14_two_83 : decode b_X14_two 83 = .ok (.iaload, 1) := by decide +kernel
theorem d_X14_two_84 : decode b_X14_two 84 = .ok (.invokevirtual 418, 3) := by decide +kernel
theorem d_X14_two_87 : decode b_X14_two 87 = .ok (.aload 6, 2) := by decide +kernel
theorem d_X14_two_89 : decode b_X14_two 89 = .ok (.getfield 371, 3) := by decide +kernel
theorem d_X14_two_92 : decode b_X14_two 92 = .ok (.bipush 60, 2) := by decide +kernel
theorem d_X14_two_94 : decode b_X14_two 94 = .ok (.if_icmp .le 6, 3) := by decide +kernel
theorem d_X14_two_97 : decode b_X14_two 97 = .ok (.aload 6, 2) := by decide +kernel
theorem d_X14_two_99 : decode b_X14_two 99 = .ok (.areturn, 1) := by decide +kernel
theorem d_X14_two_100 : decode b_X14_two 100 = .ok (.aload_n 2, 1) := by decide +kernel
theorem d_X14_two_101 : decode b_X14_two 101 = .ok (.getfield 454, 3) := by decide +kernel
theorem d_X14_two_104 : decode b_X14_two 104 = .ok (.iconst 1, 1) := by decide +kernel
theorem d_X14_two_105 : decode b_X14_two 105 = .ok (.if_icmp .ne 67, 3) := by decide +kernel
theorem d_X14_two_108 : decode b_X14_two 108 = .ok (.aload_n 3, 1) := by decide +kernel
theorem d_X14_two_109 : decode b_X14_two 109 = .ok (.getfield 454, 3) := by decide +kernel
theorem d_X14_two_112 : decode b_X14_two 112 = .ok (.iconst 1, 1) := by decide +kernel
theorem d_X14_two_113 : decode b_X14_two 113 = .ok (.if_icmp .ne 59, 3) := by decide +kernel
theorem d_X14_two_116 : decode b_X14_two 116 = .ok (.aload_n 2, 1) := by decide +kernel
theorem d_X14_two_117 : decode b_X14_two 117 = .ok (.invokestatic 406, 3) := by decide +kernel
theorem d_X14_two_120 : decode b_X14_two 120 = .ok (.ifCond .eq 52, 3) := by decide +kernel
theorem d_X14_two_123 : decode b_X14_two 123 = .ok (.aload_n 3, 1) := by decide +kernel
theorem d_X14_two_124 : decode b_X14_two 124 = .ok (.invokestatic 406, 3) := by decide +kernel
theorem d_X14_two_127 : decode b_X14_two 127 = .ok (.ifCond .eq 45, 3) := by decide +kernel
theorem d_X14_two_130 : decode b_X14_two 130 = .ok (.iload_n 1, 1) := by decide +kernel
theorem d_X14_two_131 : decode b_X14_two 131 = .ok (.bipush 39, 2) := by decide +kernel
theorem d_X14_two_133 : decode b_X14_two 133 = .ok (.if_icmp .eq 9, 3) := by decide +kernel
theorem d_X14_two_136 : decode b_X14_two 136 = .ok (.iload_n 1, 1) := by decide +kernel
theorem d_X14_two_137 : decode b_X14_two 137 = .ok (.bipush 40, 2) := by decide +kernel
theorem d_X14_two_139 : decode b_X14_two 139 = .ok (.if_icmp .ne 15, 3) := by decide +kernel
theorem d_X14_two_142 : decode b_X14_two 142 = .ok (.aload_n 3, 1) := by decide +kernel
theorem d_X14_two_143 : decode b_X14_two 143 = .ok (.getfield 457, 3) := by decide +kernel
theorem d_X14_two_146 : decode b_X14_two 146 = .ok (.ifCond .ne 8, 3) := by decide +kernel
theorem d_X14_two_149 : decode b_X14_two 149 = .ok (.aload 6, 2) := by decide +kernel
theorem d_X14_two_151 : decode b_X14_two 151 = .ok (.goto 20, 3) := by decide +kernel
theorem d_X14_two_154 : decode b_X14_two 154 = .ok (.aload 6, 2) := by decide +kernel
theorem d_X14_two_156 : decode b_X14_two 156 = .ok (.iload_n 1, 1) := by decide +kernel
theorem d_X14_two_157 : decode b_X14_two 157 = .ok (.aload_n 2, 1) := by decide +kernel
theorem d_X14_two_158 : decode b_X14_two 158 = .ok (.getfield 457, 3) := by decide +kernel
theorem d_X14_two_161 : decode b_X14_two 161 = .ok (.aload_n 3, 1) := by decide +kernel
theorem d_X14_two_162 : decode b_X14_two 162 = .ok (.getfield 457, 3) := by decide +kernel
theorem d_X14_two_165 : decode b_X14_two 165 = .ok (.invokestatic 460, 3) := by decide +kernel
theorem d_X14_two_168 : decode b_X14_two 168 = .ok (.invokevirtual 464, 3) := by decide +kernel
theorem d_X14_two_171 : decode b_X14_two 171 = .ok (.areturn, 1) := by decide +kernel
theorem d_X14_two_172 : decode b_X14_two 172 = .ok (.iload_n 1, 1) := by decide +kernel
theorem d_X14_two_173 : decode b_X14_two 173 = .ok (.bipush 36, 2) := by decide +kernel
theorem d_X14_two_175 : decode b_X14_two 175 = .ok (.if_icmp .eq 9, 3) := by decide +kernel
theorem d_X14_two_178 : decode b_X14_two 178 = .ok (.iload_n 1, 1) := by decide +kernel
theorem d_X14_two_179 : decode b_X14_two 179 = .ok (.bipush 37, 2) := by decide +kernel
theorem d_X14_two_181 : decode b_X14_two 181 = .ok (.if_icmp .ne 15, 3) := by decide +kernel
theorem d_X14_two_184 : decode b_X14_two 184 = .ok (.aload 6, 2) := by decide +kernel
theorem d_X14_two_186 : decode b_X14_two 186 = .ok (.invokestatic 434, 3) := by decide +kernel
theorem d_X14_two_189 : decode b_X14_two 189 = .ok (.ifCond .eq 7, 3) := by decide +kernel
theorem d_X14_two_192 : decode b_X14_two 192 = .ok (.iconst 1, 1) := by decide +kernel
theorem d_X14_two_193 : decode b_X14_two 193 = .ok (.goto 4, 3) := by decide +kernel
theorem d_X14_two_196 : decode b_X14_two 196 = .ok (.iconst 0, 1) := by decide +kernel
theorem d_X14_two_197 : decode b_X14_two 197 = .ok (.istore 8, 2) := by decide +kernel
theorem d_X14_two_199 : decode b_X14_two 199 = .ok (.iload 8, 2) := by decide +kernel
theorem d_X14_two_201 : decode b_X14_two 201 = .ok (.ifCond .eq 56, 3) := by decide +kernel
theorem d_X14_two_204 : decode b_X14_two 204 = .ok (.aload_n 2, 1) := by decide +kernel
theorem d_X14_two_205 : decode b_X14_two 205 = .ok (.getfield 454, 3) := by decide +kernel
theorem d_X14_two_208 : decode b_X14_two 208 = .ok (.iconst 2, 1) := by decide +kernel
theorem d_X14_two_209 : decode b_X14_two 209 = .ok (.if_icmp .ne 48, 3) := by decide +kernel
theorem d_X14_two_212 : decode b_X14_two 212 = .ok (.aload_n 3, 1) := by decide +kernel
theorem d_X14_two_213 : decode b_X14_two 213 = .ok (.getfield 454, 3) := by decide +kernel
theorem d_X14_two_216 : decode b_X14_two 216 = .ok (.iconst 1, 1) := by decide +kernel
theorem d_X14_two_217 : decode b_X14_two 217 = .ok (.if_icmp .ne 40, 3) := by decide +kernel
theorem d_X14_two_220 : decode b_X14_two 220 = .ok (.aload 6, 2) := by decide +kernel
theorem d_X14_two_222 : decode b_X14_two 222 = .ok (.aload_n 2, 1) := by decide +kernel
theorem d_X14_two_223 : decode b_X14_two 223 = .ok (.getfield 467, 3) := by decide +kernel
theorem d_X14_two_226 : decode b_X14_two 226 = .ok (.iload_n 1, 1) := by decide +kernel
theorem d_X14_two_227 : decode b_X14_two 227 = .ok (.bipush 36, 2) := by decide +kernel
theorem d_X14_two_229 : decode b_X14_two 229 = .ok (.if_icmp .ne 15, 3) := by decide +kernel
theorem d_X14_two_232 : decode b_X14_two 232 = .ok (.aload_n 2, 1) := by decide +kernel
theorem d_X14_two_233 : decode b_X14_two 233 = .ok (.getfield 457, 3) := by decide +kernel
theorem d_X14_two_236 : decode b_X14_two 236 = .ok (.aload_n 3, 1) := by decide +kernel
theorem d_X14_two_237 : decode b_X14_two 237 = .ok (.getfield 457, 3) := by decide +kernel
theorem d_X14_two_240 : decode b_X14_two 240 = .ok (.iadd, 1) := by decide +kernel
theorem d_X14_two_241 : decode b_X14_two 241 = .ok (.goto 12, 3) := by decide +kernel
theorem d_X14_two_244 : decode b_X14_two 244 = .ok (.aload_n 2, 1) := by decide +kernel
theorem d_X14_two_245 : decode b_X14_two 245 = .ok (.getfield 457, 3) := by decide +kernel
theorem d_X14_two_248 : decode b_X14_two 248 = .ok (.aload_n 3, 1) := by decide +kernel
theorem d_X14_two_249 : decode b_X14_two 249 = .ok (.getfield 457, 3) := by decide +kernel
theorem d_X14_two_252 : decode b_X14_two 252 = .ok (.isub, 1) := by decide +kernel
theorem d_X14_two_253 : decode b_X14_two 253 = .ok (.invokevirtual 470, 3) := by decide +kernel
theorem d_X14_two_256 : decode b_X14_two 256 = .ok (.areturn, 1) := by decide +kernel
theorem d_X14_two_257 : decode b_X14_two 257 = .ok (.iload 8, 2) := by decide +kernel
theorem d_X14_two_259 : decode b_X14_two 259 = .ok (.ifCond .eq 40, 3) := by decide +kernel
theorem d_X14_two_262 : decode b_X14_two 262 = .ok (.aload_n 2, 1) := by decide +kernel
theorem d_X14_two_263 : decode b_X14_two 263 = .ok (.getfield 454, 3) := by decide +kernel
theorem d_X14_two_266 : decode b_X14_two 266 = .ok (.iconst 1, 1) := by decide +kernel
theorem d_X14_two_267 : decode b_X14_two 267 = .ok (.if_icmp .ne 32, 3) := by decide +kernel
theorem d_X14_two_270 : decode b_X14_two 270 = .ok (.aload_n 3, 1) := by decide +kernel
theorem d_X14_two_271 : decode b_X14_two 271 = .ok (.getfield 454, 3) := by decide +kernel
theorem d_X14_two_274 : decode b_X14_two 274 = .ok (.iconst 2, 1) := by decide +kernel
theorem d_X14_two_275 : decode b_X14_two 275 = .ok (.if_icmp .ne 24, 3) := by decide +kernel
theorem d_X14_two_278 : decode b_X14_two 278 = .ok (.aload 6, 2) := by decide +kernel
theorem d_X14_two_280 : decode b_X14_two 280 = .ok (.aload_n 3, 1) := by decide +kernel
theorem d_X14_two_281 : decode b_X14_two 281 = .ok (.getfield 467, 3) := by decide +kernel
theorem d_X14_two_284 : decode b_X14_two 284 = .ok (.aload_n 2, 1) := by decide +kernel
theorem d_X14_two_285 : decode b_X14_two 285 = .ok (.getfield 457, 3) := by decide +kernel
theorem d_X14_two_288 : decode b_X14_two 288 = .ok (.aload_n 3, 1) := by decide +kernel
theorem d_X14_two_289 : decode b_X14_two 289 = .ok (.getfield 457, 3) := by decide +kernel
theorem d_X14_two_292 : decode b_X14_two 292 = .ok (.iadd, 1) := by decide +kernel
theorem d_X14_two_293 : decode b_X14_two 293 = .ok (.invokevirtual 470, 3) := by decide +kernel
theorem d_X14_two_296 : decode b_X14_two 296 = .ok (.goto 5, 3) := by decide +kernel
theorem d_X14_two_299 : decode b_X14_two 299 = .ok (.aload 6, 2) := by decide +kernel
theorem d_X14_two_301 : decode b_X14_two 301 = .ok (.areturn, 1) := by decide +kernel
theorem d_X14_typeOf_0 : decode b_X14_typeOf 0 = .ok (.aload_n 1, 1) := by decide +kernel
theorem d_X14_typeOf_1 : decode b_X14_typeOf 1 = .ok (.invokestatic 406, 3) := by decide +kernel
theorem d_X14_typeOf_4 : decode b_X14_typeOf 4 = .ok (.ifCond .eq 14, 3) := by decide +kernel
theorem d_X14_typeOf_7 : decode b_X14_typeOf 7 = .ok (.aload_n 2, 1) := by decide +kernel
theorem d_X14_typeOf_8 : decode b_X14_typeOf 8 = .ok (.invokestatic 406, 3) := by decide +kernel
theorem d_X14_typeOf_11 : decode b_X14_typeOf 11 = .ok (.ifCond .eq 7, 3) := by decide +kernel
theorem d_X14_typeOf_14 : decode b_X14_typeOf 14 = .ok (.iconst 1, 1) := by decide +kernel
theorem d_X14_typeOf_15 : decode b_X14_typeOf 15 = .ok (.goto 4, 3) := by decide +kernel
theorem d_X14_typeOf_18 : decode b_X14_typeOf 18 = .ok (.iconst 0, 1) := by decide +kernel
theorem d_X14_typeOf_19 : decode b_X14_typeOf 19 = .ok (.istore_n 3, 1) := by decide +kernel
theorem d_X14_typeOf_20 : decode b_X14_typeOf 20 = .ok (.aload_n 1, 1) := by decide +kernel
theorem d_X14_typeOf_21 : decode b_X14_typeOf 21 = .ok (.invokestatic 434, 3) := by decide +kernel
theorem d_X14_typeOf_24 : decode b_X14_typeOf 24 = .ok (.ifCond .eq 18, 3) := by decide +kernel
theorem d_X14_typeOf_27 : decode b_X14_typeOf 27 = .ok (.aload_n 1, 1) := by decide +kernel
theorem d_X14_typeOf_28 : decode b_X14_typeOf 28 = .ok (.getfield 352, 3) := by decide +kernel
theorem d_X14_typeOf_31 : decode b_X14_typeOf 31 = .ok (.aload_n 2, 1) := by decide +kernel
theorem d_X14_typeOf_32 : decode b_X14_typeOf 32 = .ok (.getfield 352, 3) := by decide +kernel
theorem d_X14_typeOf_35 : decode b_X14_typeOf 35 = .ok (.if_icmp .ne 7, 3) := by decide +kernel
theorem d_X14_typeOf_38 : decode b_X14_typeOf 38 = .ok (.iconst 1, 1) := by decide +kernel
theorem d_X14_typeOf_39 : decode b_X14_typeOf 39 = .ok (.goto 4, 3) := by decide +kernel
theorem d_X14_typeOf_42 : decode b_X14_typeOf 42 = .ok (.iconst 0, 1) := by decide +kernel
theorem d_X14_typeOf_43 : decode b_X14_typeOf 43 = .ok (.istore 4, 2) := by decide +kernel
theorem d_X14_typeOf_45 : decode b_X14_typeOf 45 = .ok (.iload_n 0, 1) := by decide +kernel
theorem d_X14_typeOf_46 : decode b_X14_typeOf 46 = .ok (.bipush 36, 2) := by decide +kernel
theorem d_X14_typeOf_48 : decode b_X14_typeOf 48 = .ok (.if_icmp .ne 56, 3) := by decide +kernel
theorem d_X14_typeOf_51 : decode b_X14_typeOf 51 = .ok (.iload_n 3, 1) := by decide +kernel
theorem d_X14_typeOf_52 : decode b_X14_typeOf 52 = .ok (.ifCond .eq 7, 3) := by decide +kernel
theorem d_X14_typeOf_55 : decode b_X14_typeOf 55 = .ok (.iconst 0, 1) := by decide +kernel
theorem d_X14_typeOf_56 : decode b_X14_typeOf 56 = .ok (.goto 47, 3) := by decide +kernel
theorem d_X14_typeOf_59 : decode b_X14_typeOf 59 = .ok (.aload_n 1, 1) := by decide +kernel
theorem d_X14_typeOf_60 : decode b_X14_typeOf 60 = .ok (.invokestatic 434, 3) := by decide +kernel
theorem d_X14_typeOf_63 : decode b_X14_typeOf 63 = .ok (.ifCond .eq 17, 3) := by decide +kernel
theorem d_X14_typeOf_66 : decode b_X14_typeOf 66 = .ok (.aload_n 2, 1) := by decide +kernel
theorem d_X14_typeOf_67 : decode b_X14_typeOf 67 = .ok (.invokestatic 406, 3) := by decide +kernel
theorem d_X14_typeOf_70 : decode b_X14_typeOf 70 = .ok (.ifCond .eq 10, 3) := by decide +kernel
theorem d_X14_typeOf_73 : decode b_X14_typeOf 73 = .ok (.aload_n 1, 1) := by decide +kernel
theorem d_X14_typeOf_74 : decode b_X14_typeOf 74 = .ok (.getfield 352, 3) := by decide +kernel
theorem d_X14_typeOf_77 : decode b_X14_typeOf 77 = .ok (.goto 26, 3) := by decide +kernel
theorem d_X14_typeOf_80 : decode b_X14_typeOf 80 = .ok (.aload_n 1, 1) := by decide +kernel
theorem d_X14_typeOf_81 : decode b_X14_typeOf 81 = .ok (.invokestatic 406, 3) := by decide +kernel
theorem d_X14_typeOf_84 : decode b_X14_typeOf 84 = .ok (.ifCond .eq 17, 3) := by decide +kernel
theorem d_X14_typeOf_87 : decode b_X14_typeOf 87 = .ok (.aload_n 2, 1) := by decide +kernel
theorem d_X14_typeOf_88 : decode b_X14_typeOf 88 = .ok (.invokestatic 434, 3) := by decide +kernel
theorem d_X14_typeOf_91 : decode b_X14_typeOf 91 = .ok (.ifCond .eq 10, 3) := by decide +kernel
theorem d_X14_typeOf_94 : decode b_X14_typeOf 94 = .ok (.aload_n 2, 1) := by decide +kernel
theorem d_X14_typeOf_95 : decode b_X14_typeOf 95 = .ok (.getfield 352, 3) := by decide +kernel
theorem d_X14_typeOf_98 : decode b_X14_typeOf 98 = .ok (.goto 5, 3) := by decide +kernel
theorem d_X14_typeOf_101 : decode b_X14_typeOf 101 = .ok (.bipush (-2), 2) := by decide +kernel
theorem d_X14_typeOf_103 : decode b_X14_typeOf 103 = .ok (.ireturn, 1) := by decide +kernel
theorem d_X14_typeOf_104 : decode b_X14_typeOf 104 = .ok (.iload_n 0, 1) := by decide +kernel
theorem d_X14_typeOf_105 : decode b_X14_typeOf 105 = .ok (.bipush 37, 2) := by decide +kernel
theorem d_X14_typeOf_107 : decode b_X14_typeOf 107 = .ok (.if_icmp .ne 40, 3) := by decide +kernel
theorem d_X14_typeOf_110 : decode b_X14_typeOf 110 = .ok (.iload_n 3, 1) := by decide +kernel
theorem d_X14_typeOf_111 : decode b_X14_typeOf 111 = .ok (.ifCond .ne 8, 3) := by decide +kernel
theorem d_X14_typeOf_114 : decode b_X14_typeOf 114 = .ok (.iload 4, 2) := by decide +kernel
theorem d_X14_typeOf_116 : decode b_X14_typeOf 116 = .ok (.ifCond .eq 7, 3) := by decide +kernel
theorem d_X14_typeOf_119 : decode b_X14_typeOf 119 = .ok (.iconst 0, 1) := by decide +kernel
theorem d_X14_typeOf_120 : decode b_X14_typeOf 120 = .ok (.goto 26, 3) := by decide +kernel
theorem d_X14_typeOf_123 : decode b_X14_typeOf 123 = .ok (.aload_n 1, 1) := by decide +kernel
theorem d_X14_typeOf_124 : decode b_X14_typeOf 124 = .ok (.invokestatic 434, 3) := by decide +kernel
theorem d_X14_typeOf_127 : decode b_X14_typeOf 127 = .ok (.ifCond .eq 17, 3) := by decide +kernel
theorem d_X14_typeOf_130 : decode b_X14_typeOf 130 = .ok (.aload_n 2, 1) := by decide +kernel
theorem d_X14_typeOf_131 : decode b_X14_typeOf 131 = .ok (.invokestatic 406, 3) := by decide +kernel
theorem d_X14_typeOf_134 : decode b_X14_typeOf 134 = .ok (.ifCond .eq 10, 3) := by decide +kernel
theorem d_X14_typeOf_137 : decode b_X14_typeOf 137 = .ok (.aload_n 1, 1) := by decide +kernel
theorem d_X14_typeOf_138 : decode b_X14_typeOf 138 = .ok (.getfield 352, 3) := by decide +kernel
theorem d_X14_typeOf_141 : decode b_X14_typeOf 141 = .ok (.goto 5, 3) := by decide +kernel
theorem d_X14_typeOf_144 : decode b_X14_typeOf 144 = .ok (.bipush (-2), 2) := by decide +kernel
theorem d_X14_typeOf_146 : decode b_X14_typeOf 146 = .ok (.ireturn, 1) := by decide +kernel
theorem d_X14_typeOf_147 : decode b_X14_typeOf 147 = .ok (.iload_n 0, 1) := by decide +kernel
theorem d_X14_typeOf_148 : decode b_X14_typeOf 148 = .ok (.bipush 12, 2) := by decide +kernel
theorem d_X14_typeOf_150 : decode b_X14_typeOf 150 = .ok (.if_icmp .eq 9, 3) := by decide +kernel
theorem d_X14_typeOf_153 : decode b_X14_typeOf 153 = .ok (.iload_n 0, 1) := by decide +kernel
theorem d_X14_typeOf_154 : decode b_X14_typeOf 154 = .ok (.bipush 13, 2) := by decide +kernel
theorem d_X14_typeOf_156 : decode b_X14_typeOf 156 = .ok (.if_icmp .ne 47, 3) := by decide +kernel
theorem d_X14_typeOf_159 : decode b_X14_typeOf 159 = .ok (.iload_n 3, 1) := by decide +kernel
theorem d_X14_typeOf_160 : decode b_X14_typeOf 160 = .ok (.ifCond .ne 36, 3) := by decide +kernel
theorem d_X14_typeOf_163 : decode b_X14_typeOf 163 = .ok (.iload 4, 2) := by decide +kernel
theorem d_X14_typeOf_165 : decode b_X14_typeOf 165 = .ok (.ifCond .ne 31, 3) := by decide +kernel
theorem d_X14_typeOf_168 : decode b_X14_typeOf 168 = .ok (.aload_n 1, 1) := by decide +kernel
theorem d_X14_typeOf_169 : decode b_X14_typeOf 169 = .ok (.invokestatic 434, 3) := by decide +kernel
theorem d_X14_typeOf_172 : decode b_X14_typeOf 172 = .ok (.ifCond .eq 10, 3) := by decide +kernel
theorem d_X14_typeOf_175 : decode b_X14_typeOf 175 = .ok (.aload_n 2, 1) := by decide +kernel
theorem d_X14_typeOf_176 : decode b_X14_typeOf 176 = .ok (.getfield 357, 3) := by decide +kernel
theorem d_X14_typeOf_179 : decode b_X14_typeOf 179 = .ok (.ifCond .ne 17, 3) := by decide +kernel
theorem d_X14_typeOf_182 : decode b_X14_typeOf 182 = .ok (.aload_n 2, 1) := by decide +kernel
theorem d_X14_typeOf_183 : decode b_X14_typeOf 183 = .ok (.invokestatic 434, 3) := by decide +kernel
theorem d_X14_typeOf_186 : decode b_X14_typeOf 186 = .ok (.ifCond .eq 14, 3) := by decide +kernel
theorem d_X14_typeOf_189 : decode b_X14_typeOf 189 = .ok (.aload_n 1, 1) := by decide +kernel
theorem d_X14_typeOf_190 : decode b_X14_typeOf 190 = .ok (.getfield 357, 3) := by decide +kernel
theorem d_X14_typeOf_193 : decode b_X14_typeOf 193 = .ok (.ifCond .eq 7, 3) := by decide +kernel
theorem d_X14_typeOf_196 : decode b_X14_typeOf 196 = .ok (.iconst 0, 1) := by decide +kernel
theorem d_X14_typeOf_197 : decode b_X14_typeOf 197 = .ok (.goto 5, 3) := by decide +kernel
theorem d_X14_typeOf_200 : decode b_X14_typeOf 200 = .ok (.bipush (-2), 2) := by decide +kernel
theorem d_X14_typeOf_202 : decode b_X14_typeOf 202 = .ok (.ireturn, 1) := by decide +kernel
theorem d_X14_typeOf_203 : decode b_X14_typeOf 203 = .ok (.iload_n 0, 1) := by decide +kernel
theorem d_X14_typeOf_204 : decode b_X14_typeOf 204 = .ok (.invokestatic 440, 3) := by decide +kernel
theorem d_X14_typeOf_207 : decode b_X14_typeOf 207 = .ok (.bipush 7, 2) := by decide +kernel
theorem d_X14_typeOf_209 : decode b_X14_typeOf 209 = .ok (.if_icmp .ne 19, 3) := by decide +kernel
theorem d_X14_typeOf_212 : decode b_X14_typeOf 212 = .ok (.iload_n 3, 1) := by decide +kernel
theorem d_X14_typeOf_213 : decode b_X14_typeOf 213 = .ok (.ifCond .ne 8, 3) := by decide +kernel
theorem d_X14_typeOf_216 : decode b_X14_typeOf 216 = .ok (.iload 4, 2) := by decide +kernel
theorem d_X14_typeOf_218 : decode b_X14_typeOf 218 = .ok (.ifCond .eq 7, 3) := by decide +kernel
theorem d_X14_typeOf_221 : decode b_X14_typeOf 221 = .ok (.iconst 0, 1) := by decide +kernel
theorem d_X14_typeOf_222 : decode b_X14_typeOf 222 = .ok (.goto 5, 3) := by decide +kernel
theorem d_X14_typeOf_225 : decode b_X14_typeOf 225 = .ok (.bipush (-2), 2) := by decide +kernel
theorem d_X14_typeOf_227 : decode b_X14_typeOf 227 = .ok (.ireturn, 1) := by decide +kernel
theorem d_X14_typeOf_228 : decode b_X14_typeOf 228 = .ok (.iload_n 3, 1) := by decide +kernel
theorem d_X14_typeOf_229 : decode b_X14_typeOf 229 = .ok (.ifCond .eq 7, 3) := by decide +kernel
theorem d_X14_typeOf_232 : decode b_X14_typeOf 232 = .ok (.iconst 0, 1) := by decide +kernel
theorem d_X14_typeOf_233 : decode b_X14_typeOf 233 = .ok (.goto 5, 3) := by decide +kernel
theorem d_X14_typeOf_236 : decode b_X14_typeOf 236 = .ok (.bipush (-2), 2) := by decide +kernel
theorem d_X14_typeOf_238 : decode b_X14_typeOf 238 = .ok (.ireturn, 1) := by decide +kernel
theorem d_X14_work_0 : decode b_X14_work 0 = .ok (.iload_n 0, 1) := by decide +kernel
theorem d_X14_work_1 : decode b_X14_work 1 = .ok (.tableswitch 218 12 40 #[196, 207, 218, 218, 170, 177, 218, 218, 218, 218, 218, 218, 218, 218, 218, 218, 218, 218, 218, 188, 192, 184, 218, 218, 131, 135, 139, 143, 157], 131) := by decide +kernel
theorem d_X14_work_132 : decode b_X14_work 132 = .ok (.iload_n 1, 1) := by decide +kernel
theorem d_X14_work_133 : decode b_X14_work 133 = .ok (.iload_n 2, 1) := by decide +kernel
theorem d_X14_work_134 : decode b_X14_work 134 = .ok (.iadd, 1) := by decide +kernel
theorem d_X14_work_135 : decode b_X14_work 135 = .ok (.ireturn, 1) := by decide +kernel
theorem d_X14_work_136 : decode b_X14_work 136 = .ok (.iload_n 1, 1) := by decide +kernel
theorem d_X14_work_137 : decode b_X14_work 137 = .ok (.iload_n 2, 1) := by decide +kernel
theorem d_X14_work_138 : decode b_X14_work 138 = .ok (.isub, 1) := by decide +kernel
theorem d_X14_work_139 : decode b_X14_work 139 = .ok (.ireturn, 1) := by decide +kernel
theorem d_X14_work_140 : decode b_X14_work 140 = .ok (.iload_n 1, 1) := by decide +kernel
theorem d_X14_work_141 : decode b_X14_work 141 = .ok (.iload_n 2, 1) := by decide +kernel
theorem d_X14_work_142 : decode b_X14_work 142 = .ok (.imul, 1) := by decide +kernel
theorem d_X14_work_143 : decode b_X14_work 143 = .ok (.ireturn, 1) := by decide +kernel
theorem d_X14_work_144 : decode b_X14_work 144 = .ok (.iload_n 2, 1) := by decide +kernel
theorem d_X14_work_145 : decode b_X14_work 145 = .ok (.iconst (-1), 1) := by decide +kernel
theorem d_X14_work_146 : decode b_X14_work 146 = .ok (.if_icmp .ne 8, 3) := by decide +kernel
theorem d_X14_work_149 : decode b_X14_work 149 = .ok (.iload_n 1, 1) := by decide +kernel
theorem d_X14_work_150 : decode b_X14_work 150 = .ok (.ineg, 1) := by decide +kernel
theorem d_X14_work_151 : decode b_X14_work 151 = .ok (.goto 6, 3) := by decide +kernel
theorem d_X14_work_154 : decode b_X14_work 154 = .ok (.iload_n 1, 1) := by decide +kernel
theorem d_X14_work_155 : decode b_X14_work 155 = .ok (.iload_n 2, 1) := by decide +kernel
theorem d_X14_work_156 : decode b_X14_work 156 = .ok (.idiv, 1) := by decide +kernel
theorem d_X14_work_157 : decode b_X14_work 157 = .ok (.ireturn, 1) := by decide +kernel
theorem d_X14_work_158 : decode b_X14_work 158 = .ok (.iload_n 2, 1) := by decide +kernel
theorem d_X14_work_159 : decode b_X14_work 159 = .ok (.iconst (-1), 1) := by decide +kernel
theorem d_X14_work_160 : decode b_X14_work 160 = .ok (.if_icmp .ne 7, 3) := by decide +kernel
theorem d_X14_work_163 : decode b_X14_work 163 = .ok (.iconst 0, 1) := by decide +kernel
theorem d_X14_work_164 : decode b_X14_work 164 = .ok (.goto 6, 3) := by decide +kernel
theorem d_X14_work_167 : decode b_X14_work 167 = .ok (.iload_n 1, 1) := by decide +kernel
theorem d_X14_work_168 : decode b_X14_work 168 = .ok (.iload_n 2, 1) := by decide +kernel
theorem d_X14_work_169 : decode b_X14_work 169 = .ok (.irem, 1) := by decide +kernel
theorem d_X14_work_170 : decode b_X14_work 170 = .ok (.ireturn, 1) := by decide +kernel
theorem d_X14_work_171 : decode b_X14_work 171 = .ok (.iload_n 1, 1) := by decide +kernel
theorem d_X14_work_172 : decode b_X14_work 172 = .ok (.iload_n 2, 1) := by decide +kernel
theorem d_X14_work_173 : decode b_X14_work 173 = .ok (.bipush 31, 2) := by decide +kernel
theorem d_X14_work_175 : decode b_X14_work 175 = .ok (.iand, 1) := by decide +kernel
theorem d_X14_work_176 : decode b_X14_work 176 = .ok (.ishl, 1) := by decide +kernel
theorem d_X14_work_177 : decode b_X14_work 177 = .ok (.ireturn, 1) := by decide +kernel
theorem d_X14_work_178 : decode b_X14_work 178 = .ok (.iload_n 1, 1) := by decide +kernel
theorem d_X14_work_179 : decode b_X14_work 179 = .ok (.iload_n 2, 1) := by decide +kernel
theorem d_X14_work_180 : decode b_X14_work 180 = .ok (.bipush 31, 2) := by decide +kernel
theorem d_X14_work_182 : decode b_X14_work 182 = .ok (.iand, 1) := by decide +kernel
theorem d_X14_work_183 : decode b_X14_work 183 = .ok (.ishr, 1) := by decide +kernel
theorem d_X14_work_184 : decode b_X14_work 184 = .ok (.ireturn, 1) := by decide +kernel
theorem d_X14_work_185 : decode b_X14_work 185 = .ok (.iload_n 1, 1) := by decide +kernel
theorem d_X14_work_186 : decode b_X14_work 186 = .ok (.iload_n 2, 1) := by decide +kernel
theorem d_X14_work_187 : decode b_X14_work 187 = .ok (.iand, 1) := by decide +kernel
theorem d_X14_work_188 : decode b_X14_work 188 = .ok (.ireturn, 1) := by decide +kernel
theorem d_X14_work_189 : decode b_X14_work 189 = .ok (.iload_n 1, 1) := by decide +kernel
theorem d_X14_work_190 : decode b_X14_work 190 = .ok (.iload_n 2, 1) := by decide +kernel
theorem d_X14_work_191 : decode b_X14_work 191 = .ok (.ior, 1) := by decide +kernel
theorem d_X14_work_192 : decode b_X14_work 192 = .ok (.ireturn, 1) := by decide +kernel
theorem d_X14_work_193 : decode b_X14_work 193 = .ok (.iload_n 1, 1) := by decide +kernel
theorem d_X14_work_194 : decode b_X14_work 194 = .ok (.iload_n 2, 1) := by decide +kernel
theorem d_X14_work_195 : decode b_X14_work 195 = .ok (.ixor, 1) := by decide +kernel
theorem d_X14_work_196 : decode b_X14_work 196 = .ok (.ireturn, 1) := by decide +kernel
theorem d_X14_work_197 : decode b_X14_work 197 = .ok (.iload_n 1, 1) := by decide +kernel
theorem d_X14_work_198 : decode b_X14_work 198 = .ok (.iload_n 2, 1) := by decide +kernel
theorem d_X14_work_199 : decode b_X14_work 199 = .ok (.if_icmp .ne 7, 3) := by decide +kernel
theorem d_X14_work_202 : decode b_X14_work 202 = .ok (.iconst 1, 1) := by decide +kernel
theorem d_X14_work_203 : decode b_X14_work 203 = .ok (.goto 4, 3) := by decide +kernel
theorem d_X14_work_206 : decode b_X14_work 206 = .ok (.iconst 0, 1) := by decide +kernel
theorem d_X14_work_207 : decode b_X14_work 207 = .ok (.ireturn, 1) := by decide +kernel
theorem d_X14_work_208 : decode b_X14_work 208 = .ok (.iload_n 1, 1) := by decide +kernel
theorem d_X14_work_209 : decode b_X14_work 209 = .ok (.iload_n 2, 1) := by decide +kernel
theorem d_X14_work_210 : decode b_X14_work 210 = .ok (.if_icmp .eq 7, 3) := by decide +kernel
theorem d_X14_work_213 : decode b_X14_work 213 = .ok (.iconst 1, 1) := by decide +kernel
theorem d_X14_work_214 : decode b_X14_work 214 = .ok (.goto 4, 3) := by decide +kernel
theorem d_X14_work_217 : decode b_X14_work 217 = .ok (.iconst 0, 1) := by decide +kernel
theorem d_X14_work_218 : decode b_X14_work 218 = .ok (.ireturn, 1) := by decide +kernel
theorem d_X14_work_219 : decode b_X14_work 219 = .ok (.iload_n 0, 1) := by decide +kernel
theorem d_X14_work_220 : decode b_X14_work 220 = .ok (.bipush 100, 2) := by decide +kernel
theorem d_X14_work_222 : decode b_X14_work 222 = .ok (.if_icmp .ge 7, 3) := by decide +kernel
theorem d_X14_work_225 : decode b_X14_work 225 = .ok (.iload_n 0, 1) := by decide +kernel
theorem d_X14_work_226 : decode b_X14_work 226 = .ok (.goto 7, 3) := by decide +kernel
theorem d_X14_work_229 : decode b_X14_work 229 = .ok (.iload_n 0, 1) := by decide +kernel
theorem d_X14_work_230 : decode b_X14_work 230 = .ok (.bipush 100, 2) := by decide +kernel
theorem d_X14_work_232 : decode b_X14_work 232 = .ok (.isub, 1) := by decide +kernel
theorem d_X14_work_233 : decode b_X14_work 233 = .ok (.iload_n 0, 1) := by decide +kernel
theorem d_X14_work_234 : decode b_X14_work 234 = .ok (.bipush 100, 2) := by decide +kernel
theorem d_X14_work_236 : decode b_X14_work 236 = .ok (.if_icmp .ge 7, 3) := by decide +kernel
theorem d_X14_work_239 : decode b_X14_work 239 = .ok (.iload_n 1, 1) := by decide +kernel
theorem d_X14_work_240 : decode b_X14_work 240 = .ok (.goto 8, 3) := by decide +kernel
theorem d_X14_work_243 : decode b_X14_work 243 = .ok (.iload_n 1, 1) := by decide +kernel
theorem d_X14_work_244 : decode b_X14_work 244 = .ok (.ldc_w 475, 3) := by decide +kernel
theorem d_X14_work_247 : decode b_X14_work 247 = .ok (.iadd, 1) := by decide +kernel
theorem d_X14_work_248 : decode b_X14_work 248 = .ok (.iload_n 0, 1) := by decide +kernel
theorem d_X14_work_249 : decode b_X14_work 249 = .ok (.bipush 100, 2) := by decide +kernel
theorem d_X14_work_251 : decode b_X14_work 251 = .ok (.if_icmp .ge 7, 3) := by decide +kernel
theorem d_X14_work_254 : decode b_X14_work 254 = .ok (.iload_n 2, 1) := by decide +kernel
theorem d_X14_work_255 : decode b_X14_work 255 = .ok (.goto 8, 3) := by decide +kernel
theorem d_X14_work_258 : decode b_X14_work 258 = .ok (.iload_n 2, 1) := by decide +kernel
theorem d_X14_work_259 : decode b_X14_work 259 = .ok (.ldc_w 475, 3) := by decide +kernel
theorem d_X14_work_262 : decode b_X14_work 262 = .ok (.iadd, 1) := by decide +kernel
theorem d_X14_work_263 : decode b_X14_work 263 = .ok (.invokestatic 476, 3) := by decide +kernel
theorem d_X14_work_266 : decode b_X14_work 266 = .ok (.ifCond .eq 7, 3) := by decide +kernel
theorem d_X14_work_269 : decode b_X14_work 269 = .ok (.iconst 1, 1) := by decide +kernel
theorem d_X14_work_270 : decode b_X14_work 270 = .ok (.goto 4, 3) := by decide +kernel
theorem d_X14_work_273 : decode b_X14_work 273 = .ok (.iconst 0, 1) := by decide +kernel
theorem d_X14_work_274 : decode b_X14_work 274 = .ok (.ireturn, 1) := by decide +kernel
theorem d_X14_compared_0 : decode b_X14_compared 0 = .ok (.iload_n 0, 1) := by decide +kernel
theorem d_X14_compared_1 : decode b_X14_compared 1 = .ok (.bipush 34, 2) := by decide +kernel
theorem d_X14_compared_3 : decode b_X14_compared 3 = .ok (.if_icmp .ne 16, 3) := by decide +kernel
theorem d_X14_compared_6 : decode b_X14_compared 6 = .ok (.iload_n 1, 1) := by decide +kernel
theorem d_X14_compared_7 : decode b_X14_compared 7 = .ok (.iload_n 2, 1) := by decide +kernel
theorem d_X14_compared_8 : decode b_X14_compared 8 = .ok (.if_icmp .ge 7, 3) := by decide +kernel
theorem d_X14_compared_11 : decode b_X14_compared 11 = .ok (.iconst 1, 1) := by decide +kernel
theorem d_X14_compared_12 : decode b_X14_compared 12 = .ok (.goto 55, 3) := by decide +kernel
theorem d_X14_compared_15 : decode b_X14_compared 15 = .ok (.iconst 0, 1) := by decide +kernel
theorem d_X14_compared_16 : decode b_X14_compared 16 = .ok (.goto 51, 3) := by decide +kernel
theorem d_X14_compared_19 : decode b_X14_compared 19 = .ok (.iload_n 0, 1) := by decide +kernel
theorem d_X14_compared_20 : decode b_X14_compared 20 = .ok (.bipush 35, 2) := by decide +kernel
theorem d_X14_compared_22 : decode b_X14_compared 22 = .ok (.if_icmp .ne 16, 3) := by decide +kernel
theorem d_X14_compared_25 : decode b_X14_compared 25 = .ok (.iload_n 1, 1) := by decide +kernel
theorem d_X14_compared_26 : decode b_X14_compared 26 = .ok (.iload_n 2, 1) := by decide +kernel
theorem d_X14_compared_27 : decode b_X14_compared 27 = .ok (.if_icmp .le 7, 3) := by decide +kernel
theorem d_X14_compared_30 : decode b_X14_compared 30 = .ok (.iconst 1, 1) := by decide +kernel
theorem d_X14_compared_31 : decode b_X14_compared 31 = .ok (.goto 36, 3) := by decide +kernel
theorem d_X14_compared_34 : decode b_X14_compared 34 = .ok (.iconst 0, 1) := by decide +kernel
theorem d_X14_compared_35 : decode b_X14_compared 35 = .ok (.goto 32, 3) := by decide +kernel
theorem d_X14_compared_38 : decode b_X14_compared 38 = .ok (.iload_n 0, 1) := by decide +kernel
theorem d_X14_compared_39 : decode b_X14_compared 39 = .ok (.bipush 14, 2) := by decide +kernel
theorem d_X14_compared_41 : decode b_X14_compared 41 = .ok (.if_icmp .ne 16, 3) := by decide +kernel
theorem d_X14_compared_44 : decode b_X14_compared 44 = .ok (.iload_n 1, 1) := by decide +kernel
theorem d_X14_compared_45 : decode b_X14_compared 45 = .ok (.iload_n 2, 1) := by decide +kernel
theorem d_X14_compared_46 : decode b_X14_compared 46 = .ok (.if_icmp .gt 7, 3) := by decide +kernel
theorem d_X14_compared_49 : decode b_X14_compared 49 = .ok (.iconst 1, 1) := by decide +kernel
theorem d_X14_compared_50 : decode b_X14_compared 50 = .ok (.goto 17, 3) := by decide +kernel
theorem d_X14_compared_53 : decode b_X14_compared 53 = .ok (.iconst 0, 1) := by decide +kernel
theorem d_X14_compared_54 : decode b_X14_compared 54 = .ok (.goto 13, 3) := by decide +kernel
theorem d_X14_compared_57 : decode b_X14_compared 57 = .ok (.iload_n 1, 1) := by decide +kernel
theorem d_X14_compared_58 : decode b_X14_compared 58 = .ok (.iload_n 2, 1) := by decide +kernel
theorem d_X14_compared_59 : decode b_X14_compared 59 = .ok (.if_icmp .lt 7, 3) := by decide +kernel
theorem d_X14_compared_62 : decode b_X14_compared 62 = .ok (.iconst 1, 1) := by decide +kernel
theorem d_X14_compared_63 : decode b_X14_compared 63 = .ok (.goto 4, 3) := by decide +kernel
theorem d_X14_compared_66 : decode b_X14_compared 66 = .ok (.iconst 0, 1) := by decide +kernel
theorem d_X14_compared_67 : decode b_X14_compared 67 = .ok (.ireturn, 1) := by decide +kernel
theorem d_X14_isAssignment_0 : decode b_X14_isAssignment 0 = .ok (.iload_n 0, 1) := by decide +kernel
theorem d_X14_isAssignment_1 : decode b_X14_isAssignment 1 = .ok (.ifCond .lt 9, 3) := by decide +kernel
theorem d_X14_isAssignment_4 : decode b_X14_isAssignment 4 = .ok (.iload_n 0, 1) := by decide +kernel
theorem d_X14_isAssignment_5 : decode b_X14_isAssignment 5 = .ok (.bipush 9, 2) := by decide +kernel
theorem d_X14_isAssignment_7 : decode b_X14_isAssignment 7 = .ok (.if_icmp .le 9, 3) := by decide +kernel
theorem d_X14_isAssignment_10 : decode b_X14_isAssignment 10 = .ok (.iload_n 0, 1) := by decide +kernel
theorem d_X14_isAssignment_11 : decode b_X14_isAssignment 11 = .ok (.bipush 30, 2) := by decide +kernel
theorem d_X14_isAssignment_13 : decode b_X14_isAssignment 13 = .ok (.if_icmp .ne 7, 3) := by decide +kernel
theorem d_X14_isAssignment_16 : decode b_X14_isAssignment 16 = .ok (.iconst 1, 1) := by decide +kernel
theorem d_X14_isAssignment_17 : decode b_X14_isAssignment 17 = .ok (.goto 4, 3) := by decide +kernel
theorem d_X14_isAssignment_20 : decode b_X14_isAssignment 20 = .ok (.iconst 0, 1) := by decide +kernel
theorem d_X14_isAssignment_21 : decode b_X14_isAssignment 21 = .ok (.ireturn, 1) := by decide +kernel
theorem d_X14_worked_0 : decode b_X14_worked 0 = .ok (.iload_n 0, 1) := by decide +kernel
theorem d_X14_worked_1 : decode b_X14_worked 1 = .ok (.tableswitch 85 0 9 #[55, 58, 61, 64, 67, 70, 73, 76, 79, 82], 55) := by decide +kernel
theorem d_X14_worked_56 : decode b_X14_worked 56 = .ok (.bipush 16, 2) := by decide +kernel
theorem d_X14_worked_58 : decode b_X14_worked 58 = .ok (.ireturn, 1) := by decide +kernel
theorem d_X14_worked_59 : decode b_X14_worked 59 = .ok (.bipush 17, 2) := by decide +kernel
theorem d_X14_worked_61 : decode b_X14_worked 61 = .ok (.ireturn, 1) := by decide +kernel
theorem d_X14_worked_62 : decode b_X14_worked 62 = .ok (.bipush 36, 2) := by decide +kernel
theorem d_X14_worked_64 : decode b_X14_worked 64 = .ok (.ireturn, 1) := by decide +kernel
theorem d_X14_worked_65 : decode b_X14_worked 65 = .ok (.bipush 37, 2) := by decide +kernel
theorem d_X14_worked_67 : decode b_X14_worked 67 = .ok (.ireturn, 1) := by decide +kernel
theorem d_X14_worked_68 : decode b_X14_worked 68 = .ok (.bipush 38, 2) := by decide +kernel
theorem d_X14_worked_70 : decode b_X14_worked 70 = .ok (.ireturn, 1) := by decide +kernel
theorem d_X14_worked_71 : decode b_X14_worked 71 = .ok (.bipush 39, 2) := by decide +kernel
theorem d_X14_worked_73 : decode b_X14_worked 73 = .ok (.ireturn, 1) := by decide +kernel
theorem d_X14_worked_74 : decode b_X14_worked 74 = .ok (.bipush 40, 2) := by decide +kernel
theorem d_X14_worked_76 : decode b_X14_worked 76 = .ok (.ireturn, 1) := by decide +kernel
theorem d_X14_worked_77 : decode b_X14_worked 77 = .ok (.bipush 33, 2) := by decide +kernel
theorem d_X14_worked_79 : decode b_X14_worked 79 = .ok (.ireturn, 1) := by decide +kernel
theorem d_X14_worked_80 : decode b_X14_worked 80 = .ok (.bipush 31, 2) := by decide +kernel
theorem d_X14_worked_82 : decode b_X14_worked 82 = .ok (.ireturn, 1) := by decide +kernel
theorem d_X14_worked_83 : decode b_X14_worked 83 = .ok (.bipush 32, 2) := by decide +kernel
theorem d_X14_worked_85 : decode b_X14_worked 85 = .ok (.ireturn, 1) := by decide +kernel
theorem d_X14_worked_86 : decode b_X14_worked 86 = .ok (.bipush 30, 2) := by decide +kernel
theorem d_X14_worked_88 : decode b_X14_worked 88 = .ok (.ireturn, 1) := by decide +kernel
theorem d_X14_told_0 : decode b_X14_told 0 = .ok (.aload_n 0, 1) := by decide +kernel
theorem d_X14_told_1 : decode b_X14_told 1 = .ok (.getfield 288, 3) := by decide +kernel
theorem d_X14_told_4 : decode b_X14_told 4 = .ok (.iconst 1, 1) := by decide +kernel
theorem d_X14_told_5 : decode b_X14_told 5 = .ok (.iadd, 1) := by decide +kernel
theorem d_X14_told_6 : decode b_X14_told 6 = .ok (.istore_n 1, 1) := by decide +kernel
theorem d_X14_told_7 : decode b_X14_told 7 = .ok (.aload_n 0, 1) := by decide +kernel
theorem d_X14_told_8 : decode b_X14_told 8 = .ok (.getfield 13, 3) := by decide +kernel
theorem d_X14_told_11 : decode b_X14_told 11 = .ok (.iload_n 1, 1) := by decide +kernel
theorem d_X14_told_12 : decode b_X14_told 12 = .ok (.iconst 1, 1) := by decide +kernel
theorem d_X14_told_13 : decode b_X14_told 13 = .ok (.iadd, 1) := by decide +kernel
theorem d_X14_told_14 : decode b_X14_told 14 = .ok (.iaload, 1) := by decide +kernel
theorem d_X14_told_15 : decode b_X14_told 15 = .ok (.bipush 58, 2) := by decide +kernel
theorem d_X14_told_17 : decode b_X14_told 17 = .ok (.if_icmp .eq 16, 3) := by decide +kernel
theorem d_X14_told_20 : decode b_X14_told 20 = .ok (.aload_n 0, 1) := by decide +kernel
theorem d_X14_told_21 : decode b_X14_told 21 = .ok (.getfield 13, 3) := by decide +kernel
theorem d_X14_told_24 : decode b_X14_told 24 = .ok (.iload_n 1, 1) := by decide +kernel
theorem d_X14_told_25 : decode b_X14_told 25 = .ok (.iconst 1, 1) := by decide +kernel
theorem d_X14_told_26 : decode b_X14_told 26 = .ok (.iadd, 1) := by decide +kernel
theorem d_X14_told_27 : decode b_X14_told 27 = .ok (.iaload, 1) := by decide +kernel
theorem d_X14_told_28 : decode b_X14_told 28 = .ok (.bipush 59, 2) := by decide +kernel
theorem d_X14_told_30 : decode b_X14_told 30 = .ok (.if_icmp .ne 7, 3) := by decide +kernel
theorem d_X14_told_33 : decode b_X14_told 33 = .ok (.iconst 1, 1) := by decide +kernel
theorem d_X14_told_34 : decode b_X14_told 34 = .ok (.goto 4, 3) := by decide +kernel
theorem d_X14_told_37 : decode b_X14_told 37 = .ok (.iconst 0, 1) := by decide +kernel
theorem d_X14_told_38 : decode b_X14_told 38 = .ok (.istore_n 2, 1) := by decide +kernel
theorem d_X14_told_39 : decode b_X14_told 39 = .ok (.aload_n 0, 1) := by decide +kernel
theorem d_X14_told_40 : decode b_X14_told 40 = .ok (.getfield 13, 3) := by decide +kernel
theorem d_X14_told_43 : decode b_X14_told 43 = .ok (.iload_n 1, 1) := by decide +kernel
theorem d_X14_told_44 : decode b_X14_told 44 = .ok (.iaload, 1) := by decide +kernel
theorem d_X14_told_45 : decode b_X14_told 45 = .ok (.iconst 4, 1) := by decide +kernel
theorem d_X14_told_46 : decode b_X14_told 46 = .ok (.if_icmp .ne 20, 3) := by decide +kernel
theorem d_X14_told_49 : decode b_X14_told 49 = .ok (.iload_n 2, 1) := by decide +kernel
theorem d_X14_told_50 : decode b_X14_told 50 = .ok (.ifCond .eq 14, 3) := by decide +kernel
theorem d_X14_told_53 : decode b_X14_told 53 = .ok (.aload_n 0, 1) := by decide +kernel
theorem d_X14_told_54 : decode b_X14_told 54 = .ok (.getfield 26, 3) := by decide +kernel
theorem d_X14_told_57 : decode b_X14_told 57 = .ok (.iload_n 1, 1) := by decide +kernel
theorem d_X14_told_58 : decode b_X14_told 58 = .ok (.iaload, 1) := by decide +kernel
theorem d_X14_told_59 : decode b_X14_told 59 = .ok (.iconst 1, 1) := by decide +kernel
theorem d_X14_told_60 : decode b_X14_told 60 = .ok (.iadd, 1) := by decide +kernel
theorem d_X14_told_61 : decode b_X14_told 61 = .ok (.goto 4, 3) := by decide +kernel
theorem d_X14_told_64 : decode b_X14_told 64 = .ok (.iconst (-1), 1) := by decide +kernel
theorem d_X14_told_65 : decode b_X14_told 65 = .ok (.ireturn, 1) := by decide +kernel
theorem d_X14_told_66 : decode b_X14_told 66 = .ok (.aload_n 0, 1) := by decide +kernel
theorem d_X14_told_67 : decode b_X14_told 67 = .ok (.getfield 13, 3) := by decide +kernel
theorem d_X14_told_70 : decode b_X14_told 70 = .ok (.iload_n 1, 1) := by decide +kernel
theorem d_X14_told_71 : decode b_X14_told 71 = .ok (.iaload, 1) := by decide +kernel
theorem d_X14_told_72 : decode b_X14_told 72 = .ok (.bipush 54, 2) := by decide +kernel
theorem d_X14_told_74 : decode b_X14_told 74 = .ok (.if_icmp .eq 5, 3) := by decide +kernel
theorem d_X14_told_77 : decode b_X14_told 77 = .ok (.iconst (-1), 1) := by decide +kernel
theorem d_X14_told_78 : decode b_X14_told 78 = .ok (.ireturn, 1) := by decide +kernel
theorem d_X14_told_79 : decode b_X14_told 79 = .ok (.iconst 1, 1) := by decide +kernel
theorem d_X14_told_80 : decode b_X14_told 80 = .ok (.istore_n 3, 1) := by decide +kernel
theorem d_X14_told_81 : decode b_X14_told 81 = .ok (.iconst 0, 1) := by decide +kernel
theorem d_X14_told_82 : decode b_X14_told 82 = .ok (.istore 4, 2) := by decide +kernel
theorem d_X14_told_84 : decode b_X14_told 84 = .ok (.aload_n 0, 1) := by decide +kernel
theorem d_X14_told_85 : decode b_X14_told 85 = .ok (.getfield 13, 3) := by decide +kernel
theorem d_X14_told_88 : decode b_X14_told 88 = .ok (.iload_n 1, 1) := by decide +kernel
theorem d_X14_told_89 : decode b_X14_told 89 = .ok (.iaload, 1) := by decide +kernel
theorem d_X14_told_90 : decode b_X14_told 90 = .ok (.ifCond .eq 101, 3) := by decide +kernel
theorem d_X14_told_93 : decode b_X14_told 93 = .ok (.aload_n 0, 1) := by decide +kernel
theorem d_X14_told_94 : decode b_X14_told 94 = .ok (.getfield 13, 3) := by decide +kernel
theorem d_X14_told_97 : decode b_X14_told 97 = .ok (.iload_n 1, 1) := by decide +kernel
theorem d_X14_told_98 : decode b_X14_told 98 = .ok (.iaload, 1) := by decide +kernel
theorem d_X14_told_99 : decode b_X14_told 99 = .ok (.iconst 1, 1) := by decide +kernel
theorem d_X14_told_100 : decode b_X14_told 100 = .ok (.if_icmp .eq 91, 3) := by decide +kernel
theorem d_X14_told_103 : decode b_X14_told 103 = .ok (.aload_n 0, 1) := by decide +kernel
theorem d_X14_told_104 : decode b_X14_told 104 = .ok (.getfield 13, 3) := by decide +kernel
theorem d_X14_told_107 : decode b_X14_told 107 = .ok (.iload_n 1, 1) := by decide +kernel
theorem d_X14_told_108 : decode b_X14_told 108 = .ok (.iaload, 1) := by decide +kernel
theorem d_X14_told_109 : decode b_X14_told 109 = .ok (.bipush 32, 2) := by decide +kernel
theorem d_X14_told_111 : decode b_X14_told 111 = .ok (.isub, 1) := by decide +kernel
theorem d_X14_told_112 : decode b_X14_told 112 = .ok (.istore 5, 2) := by decide +kernel
theorem d_X14_told_114 : decode b_X14_told 114 = .ok (.iload 5, 2) := by decide +kernel
theorem d_X14_told_116 : decode b_X14_told 116 = .ok (.bipush 20, 2) := by decide +kernel
theorem d_X14_told_118 : decode b_X14_told 118 = .ok (.if_icmp .eq 17, 3) := by decide +kernel
theorem d_X14_told_121 : decode b_X14_told 121 = .ok (.iload 5, 2) := by decide +kernel
theorem d_X14_told_123 : decode b_X14_told 123 = .ok (.bipush 22, 2) := by decide +kernel
theorem d_X14_told_125 : decode b_X14_told 125 = .ok (.if_icmp .eq 10, 3) := by decide +kernel
theorem d_X14_told_128 : decode b_X14_told 128 = .ok (.iload 5, 2) := by decide +kernel
theorem d_X14_told_130 : decode b_X14_told 130 = .ok (.bipush 24, 2) := by decide +kernel
theorem d_X14_told_132 : decode b_X14_told 132 = .ok (.if_icmp .ne 6, 3) := by decide +kernel
theorem d_X14_told_135 : decode b_X14_told 135 = .ok (.iinc 4 1, 3) := by decide +kernel
theorem d_X14_told_138 : decode b_X14_told 138 = .ok (.iload 5, 2) := by decide +kernel
theorem d_X14_told_140 : decode b_X14_told 140 = .ok (.bipush 21, 2) := by decide +kernel
theorem d_X14_told_142 : decode b_X14_told 142 = .ok (.if_icmp .eq 17, 3) := by decide +kernel
theorem d_X14_told_145 : decode b_X14_told 145 = .ok (.iload 5, 2) := by decide +kernel
theorem d_X14_told_147 : decode b_X14_told 147 = .ok (.bipush 23, 2) := by decide +kernel
theorem d_X14_told_149 : decode b_X14_told 149 = .ok (.if_icmp .eq 10, 3) := by decide +kernel
theorem d_X14_told_152 : decode b_X14_told 152 = .ok (.iload 5, 2) := by decide +kernel
theorem d_X14_told_154 : decode b_X14_told 154 = .ok (.bipush 25, 2) := by decide +kernel
theorem d_X14_told_156 : decode b_X14_told 156 = .ok (.if_icmp .ne 6, 3) := by decide +kernel
theorem d_X14_told_159 : decode b_X14_told 159 = .ok (.iinc 4 (-1), 3) := by decide +kernel
theorem d_X14_told_162 : decode b_X14_told 162 = .ok (.iload 4, 2) := by decide +kernel
theorem d_X14_told_164 : decode b_X14_told 164 = .ok (.ifCond .ne 5, 3) := by decide +kernel
theorem d_X14_told_167 : decode b_X14_told 167 = .ok (.iload_n 3, 1) := by decide +kernel
theorem d_X14_told_168 : decode b_X14_told 168 = .ok (.ireturn, 1) := by decide +kernel
theorem d_X14_told_169 : decode b_X14_told 169 = .ok (.iload 5, 2) := by decide +kernel
theorem d_X14_told_171 : decode b_X14_told 171 = .ok (.bipush 26, 2) := by decide +kernel
theorem d_X14_told_173 : decode b_X14_told 173 = .ok (.if_icmp .ne 12, 3) := by decide +kernel
theorem d_X14_told_176 : decode b_X14_told 176 = .ok (.iload 4, 2) := by decide +kernel
theorem d_X14_told_178 : decode b_X14_told 178 = .ok (.iconst 1, 1) := by decide +kernel
theorem d_X14_told_179 : decode b_X14_told 179 = .ok (.if_icmp .ne 6, 3) := by decide +kernel
theorem d_X14_told_182 : decode b_X14_told 182 = .ok (.iinc 3 1, 3) := by decide +kernel
theorem d_X14_told_185 : decode b_X14_told 185 = .ok (.iinc 1 1, 3) := by decide +kernel
theorem d_X14_told_188 : decode b_X14_told 188 = .ok (.goto (-104), 3) := by decide +kernel
theorem d_X14_told_191 : decode b_X14_told 191 = .ok (.iload_n 3, 1) := by decide +kernel
theorem d_X14_told_192 : decode b_X14_told 192 = .ok (.ireturn, 1) := by decide +kernel
theorem d_X14_localName_0 : decode b_X14_localName 0 = .ok (.aload_n 0, 1) := by decide +kernel
theorem d_X14_localName_1 : decode b_X14_localName 1 = .ok (.aload_n 0, 1) := by decide +kernel
theorem d_X14_localName_2 : decode b_X14_localName 2 = .ok (.iload_n 1, 1) := by decide +kernel
theorem d_X14_localName_3 : decode b_X14_localName 3 = .ok (.invokevirtual 625, 3) := by decide +kernel
theorem d_X14_localName_6 : decode b_X14_localName 6 = .ok (.ifCond .ne 7, 3) := by decide +kernel
theorem d_X14_localName_9 : decode b_X14_localName 9 = .ok (.iconst 1, 1) := by decide +kernel
theorem d_X14_localName_10 : decode b_X14_localName 10 = .ok (.goto 4, 3) := by decide +kernel
theorem d_X14_localName_13 : decode b_X14_localName 13 = .ok (.iconst 0, 1) := by decide +kernel
theorem d_X14_localName_14 : decode b_X14_localName 14 = .ok (.iload_n 1, 1) := by decide +kernel
theorem d_X14_localName_15 : decode b_X14_localName 15 = .ok (.invokevirtual 410, 3) := by decide +kernel
theorem d_X14_localName_18 : decode b_X14_localName 18 = .ok (.aload_n 0, 1) := by decide +kernel
theorem d_X14_localName_19 : decode b_X14_localName 19 = .ok (.iload_n 1, 1) := by decide +kernel
theorem d_X14_localName_20 : decode b_X14_localName 20 = .ok (.iload_n 2, 1) := by decide +kernel
theorem d_X14_localName_21 : decode b_X14_localName 21 = .ok (.invokevirtual 628, 3) := by decide +kernel
theorem d_X14_localName_24 : decode b_X14_localName 24 = .ok (.istore 4, 2) := by decide +kernel
theorem d_X14_localName_26 : decode b_X14_localName 26 = .ok (.iload 4, 2) := by decide +kernel
theorem d_X14_localName_28 : decode b_X14_localName 28 = .ok (.ifCond .lt 23, 3) := by decide +kernel
theorem d_X14_localName_31 : decode b_X14_localName 31 = .ok (.aload_n 0, 1) := by decide +kernel
theorem d_X14_localName_32 : decode b_X14_localName 32 = .ok (.getfield 117, 3) := by decide +kernel
theorem d_X14_localName_35 : decode b_X14_localName 35 = .ok (.iload 4, 2) := by decide +kernel
theorem d_X14_localName_37 : decode b_X14_localName 37 = .ok (.iload_n 3, 1) := by decide +kernel
theorem d_X14_localName_38 : decode b_X14_localName 38 = .ok (.ifCond .ge 7, 3) := by decide +kernel
theorem d_X14_localName_41 : decode b_X14_localName 41 = .ok (.iconst (-1), 1) := by decide +kernel
theorem d_X14_localName_42 : decode b_X14_localName 42 = .ok (.goto 8, 3) := by decide +kernel
theorem d_X14_localName_45 : decode b_X14_localName 45 = .ok (.iload_n 3, 1) := by decide +kernel
theorem d_X14_localName_46 : decode b_X14_localName 46 = .ok (.iconst 1, 1) := by decide +kernel
theorem d_X14_localName_47 : decode b_X14_localName 47 = .ok (.invokestatic 374, 3) := by decide +kernel
theorem d_X14_localName_50 : decode b_X14_localName 50 = .ok (.iastore, 1) := by decide +kernel
theorem d_X14_localName_51 : decode b_X14_localName 51 = .ok (.iload 4, 2) := by decide +kernel
theorem d_X14_localName_53 : decode b_X14_localName 53 = .ok (.ireturn, 1) := by decide +kernel
theorem d_X14_globalName_0 : decode b_X14_globalName 0 = .ok (.aload_n 0, 1) := by decide +kernel
theorem d_X14_globalName_1 : decode b_X14_globalName 1 = .ok (.iload_n 1, 1) := by decide +kernel
theorem d_X14_globalName_2 : decode b_X14_globalName 2 = .ok (.invokevirtual 527, 3) := by decide +kernel
theorem d_X14_globalName_5 : decode b_X14_globalName 5 = .ok (.istore 6, 2) := by decide +kernel
theorem d_X14_globalName_7 : decode b_X14_globalName 7 = .ok (.iload 6, 2) := by decide +kernel
theorem d_X14_globalName_9 : decode b_X14_globalName 9 = .ok (.ifCond .ge 46, 3) := by decide +kernel
theorem d_X14_globalName_12 : decode b_X14_globalName 12 = .ok (.aload_n 0, 1) := by decide +kernel
theorem d_X14_globalName_13 : decode b_X14_globalName 13 = .ok (.iload_n 1, 1) := by decide +kernel
theorem d_X14_globalName_14 : decode b_X14_globalName 14 = .ok (.iconst 1, 1) := by decide +kernel
theorem d_X14_globalName_15 : decode b_X14_globalName 15 = .ok (.invokevirtual 631, 3) := by decide +kernel
theorem d_X14_globalName_18 : decode b_X14_globalName 18 = .ok (.istore 6, 2) := by decide +kernel
theorem d_X14_globalName_20 : decode b_X14_globalName 20 = .ok (.iload 6, 2) := by decide +kernel
theorem d_X14_globalName_22 : decode b_X14_globalName 22 = .ok (.ifCond .ge 5, 3) := by decide +kernel
theorem d_X14_globalName_25 : decode b_X14_globalName 25 = .ok (.iconst (-1), 1) := by decide +kernel
theorem d_X14_globalName_26 : decode b_X14_globalName 26 = .ok (.ireturn, 1) := by decide +kernel
theorem d_X14_globalName_27 : decode b_X14_globalName 27 = .ok (.aload_n 0, 1) := by decide +kernel
theorem d_X14_globalName_28 : decode b_X14_globalName 28 = .ok (.getfield 47, 3) := by decide +kernel
theorem d_X14_globalName_31 : decode b_X14_globalName 31 = .ok (.iload 6, 2) := by decide +kernel
theorem d_X14_globalName_33 : decode b_X14_globalName 33 = .ok (.iload_n 2, 1) := by decide +kernel
theorem d_X14_globalName_34 : decode b_X14_globalName 34 = .ok (.iastore, 1) := by decide +kernel
theorem d_X14_globalName_35 : decode b_X14_globalName 35 = .ok (.aload_n 0, 1) := by decide +kernel
theorem d_X14_globalName_36 : decode b_X14_globalName 36 = .ok (.getfield 50, 3) := by decide +kernel
theorem d_X14_globalName_39 : decode b_X14_globalName 39 = .ok (.iload 6, 2) := by decide +kernel
theorem d_X14_globalName_41 : decode b_X14_globalName 41 = .ok (.iload_n 3, 1) := by decide +kernel
theorem d_X14_globalName_42 : decode b_X14_globalName 42 = .ok (.iastore, 1) := by decide +kernel
theorem d_X14_globalName_43 : decode b_X14_globalName 43 = .ok (.aload_n 0, 1) := by decide +kernel
theorem d_X14_globalName_44 : decode b_X14_globalName 44 = .ok (.getfield 53, 3) := by decide +kernel
theorem d_X14_globalName_47 : decode b_X14_globalName 47 = .ok (.iload 6, 2) := by decide +kernel
theorem d_X14_globalName_49 : decode b_X14_globalName 49 = .ok (.iload 4, 2) := by decide +kernel
theorem d_X14_globalName_51 : decode b_X14_globalName 51 = .ok (.bastore, 1) := by decide +kernel
theorem d_X14_globalName_52 : decode b_X14_globalName 52 = .ok (.iload 6, 2) := by decide +kernel
theorem d_X14_globalName_54 : decode b_X14_globalName 54 = .ok (.ireturn, 1) := by decide +kernel
theorem d_X14_globalName_55 : decode b_X14_globalName 55 = .ok (.aload_n 0, 1) := by decide +kernel
theorem d_X14_globalName_56 : decode b_X14_globalName 56 = .ok (.getfield 44, 3) := by decide +kernel
theorem d_X14_globalName_59 : decode b_X14_globalName 59 = .ok (.iload 6, 2) := by decide +kernel
theorem d_X14_globalName_61 : decode b_X14_globalName 61 = .ok (.iaload, 1) := by decide +kernel
theorem d_X14_globalName_62 : decode b_X14_globalName 62 = .ok (.iconst 1, 1) := by decide +kernel
theorem d_X14_globalName_63 : decode b_X14_globalName 63 = .ok (.if_icmp .ne 70, 3) := by decide +kernel
theorem d_X14_globalName_66 : decode b_X14_globalName 66 = .ok (.aload_n 0, 1) := by decide +kernel
theorem d_X14_globalName_67 : decode b_X14_globalName 67 = .ok (.getfield 47, 3) := by decide +kernel
theorem d_X14_globalName_70 : decode b_X14_globalName 70 = .ok (.iload 6, 2) := by decide +kernel
theorem d_X14_globalName_72 : decode b_X14_globalName 72 = .ok (.iaload, 1) := by decide +kernel
theorem d_X14_globalName_73 : decode b_X14_globalName 73 = .ok (.iload_n 2, 1) := by decide +kernel
theorem d_X14_globalName_74 : decode b_X14_globalName 74 = .ok (.if_icmp .ne 59, 3) := by decide +kernel
theorem d_X14_globalName_77 : decode b_X14_globalName 77 = .ok (.aload_n 0, 1) := by decide +kernel
theorem d_X14_globalName_78 : decode b_X14_globalName 78 = .ok (.getfield 50, 3) := by decide +kernel
theorem d_X14_globalName_81 : decode b_X14_globalName 81 = .ok (.iload 6, 2) := by decide +kernel
theorem d_X14_globalName_83 : decode b_X14_globalName 83 = .ok (.iaload, 1) := by decide +kernel
theorem d_X14_globalName_84 : decode b_X14_globalName 84 = .ok (.ifCond .ge 7, 3) := by decide +kernel
theorem d_X14_globalName_87 : decode b_X14_globalName 87 = .ok (.iconst 1, 1) := by decide +kernel
theorem d_X14_globalName_88 : decode b_X14_globalName 88 = .ok (.goto 4, 3) := by decide +kernel
theorem d_X14_globalName_91 : decode b_X14_globalName 91 = .ok (.iconst 0, 1) := by decide +kernel
theorem d_X14_globalName_92 : decode b_X14_globalName 92 = .ok (.iload_n 3, 1) := by decide +kernel
theorem d_X14_globalName_93 : decode b_X14_globalName 93 = .ok (.ifCond .ge 7, 3) := by decide +kernel
theorem d_X14_globalName_96 : decode b_X14_globalName 96 = .ok (.iconst 1, 1) := by decide +kernel
theorem d_X14_globalName_97 : decode b_X14_globalName 97 = .ok (.goto 4, 3) := by decide +kernel
theorem d_X14_globalName_100 : decode b_X14_globalName 100 = .ok (.iconst 0, 1) := by decide +kernel
theorem d_X14_globalName_101 : decode b_X14_globalName 101 = .ok (.if_icmp .ne 32, 3) := by decide +kernel
theorem d_X14_globalName_104 : decode b_X14_globalName 104 = .ok (.iload_n 3, 1) := by decide +kernel
theorem d_X14_globalName_105 : decode b_X14_globalName 105 = .ok (.ifCond .le 24, 3) := by decide +kernel
theorem d_X14_globalName_108 : decode b_X14_globalName 108 = .ok (.aload_n 0, 1) := by decide +kernel
theorem d_X14_globalName_109 : decode b_X14_globalName 109 = .ok (.getfield 50, 3) := by decide +kernel
theorem d_X14_globalName_112 : decode b_X14_globalName 112 = .ok (.iload 6, 2) := by decide +kernel
theorem d_X14_globalName_114 : decode b_X14_globalName 114 = .ok (.iaload, 1) := by decide +kernel
theorem d_X14_globalName_115 : decode b_X14_globalName 115 = .ok (.ifCond .eq 14, 3) := by decide +kernel
theorem d_X14_globalName_118 : decode b_X14_globalName 118 = .ok (.aload_n 0, 1) := by decide +kernel
theorem d_X14_globalName_119 : decode b_X14_globalName 119 = .ok (.getfield 50, 3) := by decide +kernel
theorem d_X14_globalName_122 : decode b_X14_globalName 122 = .ok (.iload 6, 2) := by decide +kernel
theorem d_X14_globalName_124 : decode b_X14_globalName 124 = .ok (.iaload, 1) := by decide +kernel
theorem d_X14_globalName_125 : decode b_X14_globalName 125 = .ok (.iload_n 3, 1) := by decide +kernel
theorem d_X14_globalName_126 : decode b_X14_globalName 126 = .ok (.if_icmp .ne 7, 3) := by decide +kernel
theorem d_X14_globalName_129 : decode b_X14_globalName 129 = .ok (.iconst 1, 1) := by decide +kernel
theorem d_X14_globalName_130 : decode b_X14_globalName 130 = .ok (.goto 4, 3) := by decide +kernel
theorem d_X14_globalName_133 : decode b_X14_globalName 133 = .ok (.iconst 0, 1) := by decide +kernel
theorem d_X14_globalName_134 : decode b_X14_globalName 134 = .ok (.istore 7, 2) := by decide +kernel
theorem d_X14_globalName_136 : decode b_X14_globalName 136 = .ok (.aload_n 0, 1) := by decide +kernel
theorem d_X14_globalName_137 : decode b_X14_globalName 137 = .ok (.iload 7, 2) := by decide +kernel
theorem d_X14_globalName_139 : decode b_X14_globalName 139 = .ok (.ifCond .eq 37, 3) := by decide +kernel
theorem d_X14_globalName_142 : decode b_X14_globalName 142 = .ok (.aload_n 0, 1) := by decide +kernel
theorem d_X14_globalName_143 : decode b_X14_globalName 143 = .ok (.getfield 53, 3) := by decide +kernel
theorem d_X14_globalName_146 : decode b_X14_globalName 146 = .ok (.iload 6, 2) := by decide +kernel
theorem d_X14_globalName_148 : decode b_X14_globalName 148 = .ok (.baload, 1) := by decide +kernel
theorem d_X14_globalName_149 : decode b_X14_globalName 149 = .ok (.ifCond .ne 27, 3) := by decide +kernel
theorem d_X14_globalName_152 : decode b_X14_globalName 152 = .ok (.iload 4, 2) := by decide +kernel
theorem d_X14_globalName_154 : decode b_X14_globalName 154 = .ok (.ifCond .ne 22, 3) := by decide +kernel
theorem d_X14_globalName_157 : decode b_X14_globalName 157 = .ok (.iload 5, 2) := by decide +kernel
theorem d_X14_globalName_159 : decode b_X14_globalName 159 = .ok (.ifCond .ne 13, 3) := by decide +kernel
theorem d_X14_globalName_162 : decode b_X14_globalName 162 = .ok (.aload_n 0, 1) := by decide +kernel
theorem d_X14_globalName_163 : decode b_X14_globalName 163 = .ok (.getfield 57, 3) := by decide +kernel
theorem d_X14_globalName_166 : decode b_X14_globalName 166 = .ok (.iload 6, 2) := by decide +kernel
theorem d_X14_globalName_168 : decode b_X14_globalName 168 = .ok (.baload, 1) := by decide +kernel
theorem d_X14_globalName_169 : decode b_X14_globalName 169 = .ok (.ifCond .ne 7, 3) := by decide +kernel
theorem d_X14_globalName_172 : decode b_X14_globalName 172 = .ok (.iconst 1, 1) := by decide +kernel
theorem d_X14_globalName_173 : decode b_X14_globalName 173 = .ok (.goto 4, 3) := by decide +kernel
theorem d_X14_globalName_176 : decode b_X14_globalName 176 = .ok (.iconst 0, 1) := by decide +kernel
theorem d_X14_globalName_177 : decode b_X14_globalName 177 = .ok (.iload_n 1, 1) := by decide +kernel
theorem d_X14_globalName_178 : decode b_X14_globalName 178 = .ok (.invokevirtual 410, 3) := by decide +kernel
theorem d_X14_globalName_181 : decode b_X14_globalName 181 = .ok (.iload 7, 2) := by decide +kernel
theorem d_X14_globalName_183 : decode b_X14_globalName 183 = .ok (.ifCond .eq 15, 3) := by decide +kernel
theorem d_X14_globalName_186 : decode b_X14_globalName 186 = .ok (.iload_n 3, 1) := by decide +kernel
theorem d_X14_globalName_187 : decode b_X14_globalName 187 = .ok (.ifCond .le 11, 3) := by decide +kernel
theorem d_X14_globalName_190 : decode b_X14_globalName 190 = .ok (.aload_n 0, 1) := by decide +kernel
theorem d_X14_globalName_191 : decode b_X14_globalName 191 = .ok (.getfield 50, 3) := by decide +kernel
theorem d_X14_globalName_194 : decode b_X14_globalName 194 = .ok (.iload 6, 2) := by decide +kernel
theorem d_X14_globalName_196 : decode b_X14_globalName 196 = .ok (.iload_n 3, 1) := by decide +kernel
theorem d_X14_globalName_197 : decode b_X14_globalName 197 = .ok (.iastore, 1) := by decide +kernel
theorem d_X14_globalName_198 : decode b_X14_globalName 198 = .ok (.aload_n 0, 1) := by decide +kernel
theorem d_X14_globalName_199 : decode b_X14_globalName 199 = .ok (.getfield 44, 3) := by decide +kernel
theorem d_X14_globalName_202 : decode b_X14_globalName 202 = .ok (.iload 6, 2) := by decide +kernel
theorem d_X14_globalName_204 : decode b_X14_globalName 204 = .ok (.iaload, 1) := by decide +kernel
theorem d_X14_globalName_205 : decode b_X14_globalName 205 = .ok (.iconst 1, 1) := by decide +kernel
theorem d_X14_globalName_206 : decode b_X14_globalName 206 = .ok (.if_icmp .ne 8, 3) := by decide +kernel
theorem d_X14_globalName_209 : decode b_X14_globalName 209 = .ok (.iload 6, 2) := by decide +kernel
theorem d_X14_globalName_211 : decode b_X14_globalName 211 = .ok (.goto 4, 3) := by decide +kernel
theorem d_X14_globalName_214 : decode b_X14_globalName 214 = .ok (.iconst (-1), 1) := by decide +kernel
theorem d_X14_globalName_215 : decode b_X14_globalName 215 = .ok (.ireturn, 1) := by decide +kernel
theorem d_X14_lay_0 : decode b_X14_lay 0 = .ok (.aload_n 0, 1) := by decide +kernel
theorem d_X14_lay_1 : decode b_X14_lay 1 = .ok (.getfield 57, 3) := by decide +kernel
theorem d_X14_lay_4 : decode b_X14_lay 4 = .ok (.iload_n 1, 1) := by decide +kernel
theorem d_X14_lay_5 : decode b_X14_lay 5 = .ok (.iconst 1, 1) := by decide +kernel
theorem d_X14_lay_6 : decode b_X14_lay 6 = .ok (.bastore, 1) := by decide +kernel
theorem d_X14_lay_7 : decode b_X14_lay 7 = .ok (.aload_n 0, 1) := by decide +kernel
theorem d_X14_lay_8 : decode b_X14_lay 8 = .ok (.getfield 70, 3) := by decide +kernel
theorem d_X14_lay_11 : decode b_X14_lay 11 = .ok (.iload_n 1, 1) := by decide +kernel
theorem d_X14_lay_12 : decode b_X14_lay 12 = .ok (.aload_n 0, 1) := by decide +kernel
theorem d_X14_lay_13 : decode b_X14_lay 13 = .ok (.getfield 515, 3) := by decide +kernel
theorem d_X14_lay_16 : decode b_X14_lay 16 = .ok (.iastore, 1) := by decide +kernel
theorem d_X14_lay_17 : decode b_X14_lay 17 = .ok (.aload_n 0, 1) := by decide +kernel
theorem d_X14_lay_18 : decode b_X14_lay 18 = .ok (.getfield 515, 3) := by decide +kernel
theorem d_X14_lay_21 : decode b_X14_lay 21 = .ok (.iload_n 3, 1) := by decide +kernel
theorem d_X14_lay_22 : decode b_X14_lay 22 = .ok (.iadd, 1) := by decide +kernel
theorem d_X14_lay_23 : decode b_X14_lay 23 = .ok (.sipush 16000, 3) := by decide +kernel
theorem d_X14_lay_26 : decode b_X14_lay 26 = .ok (.if_icmp .le 12, 3) := by decide +kernel
theorem d_X14_lay_29 : decode b_X14_lay 29 = .ok (.aload_n 0, 1) := by decide +kernel
theorem d_X14_lay_30 : decode b_X14_lay 30 = .ok (.iconst 4, 1) := by decide +kernel
theorem d_X14_lay_31 : decode b_X14_lay 31 = .ok (.iload_n 2, 1) := by decide +kernel
theorem d_X14_lay_32 : decode b_X14_lay 32 = .ok (.invokevirtual 304, 3) := by decide +kernel
theorem d_X14_lay_35 : decode b_X14_lay 35 = .ok (.goto 13, 3) := by decide +kernel
theorem d_X14_lay_38 : decode b_X14_lay 38 = .ok (.aload_n 0, 1) := by decide +kernel
theorem d_X14_lay_39 : decode b_X14_lay 39 = .ok (.dup, 1) := by decide +kernel
theorem d_X14_lay_40 : decode b_X14_lay 40 = .ok (.getfield 515, 3) := by decide +kernel
theorem d_X14_lay_43 : decode b_X14_lay 43 = .ok (.iload_n 3, 1) := by decide +kernel
theorem d_X14_lay_44 : decode b_X14_lay 44 = .ok (.iadd, 1) := by decide +kernel
theorem d_X14_lay_45 : decode b_X14_lay 45 = .ok (.putfield 515, 3) := by decide +kernel
theorem d_X14_lay_48 : decode b_X14_lay 48 = .ok (.return_, 1) := by decide +kernel
theorem d_X14_rowInitial_0 : decode b_X14_rowInitial 0 = .ok (.aload_n 0, 1) := by decide +kernel
theorem d_X14_rowInitial_1 : decode b_X14_rowInitial 1 = .ok (.getfield 13, 3) := by decide +kernel
theorem d_X14_rowInitial_4 : decode b_X14_rowInitial 4 = .ok (.aload_n 0, 1) := by decide +kernel
theorem d_X14_rowInitial_5 : decode b_X14_rowInitial 5 = .ok (.getfield 288, 3) := by decide +kernel
theorem d_X14_rowInitial_8 : decode b_X14_rowInitial 8 = .ok (.iaload, 1) := by decide +kernel
theorem d_X14_rowInitial_9 : decode b_X14_rowInitial 9 = .ok (.iconst 4, 1) := by decide +kernel
theorem d_X14_rowInitial_10 : decode b_X14_rowInitial 10 = .ok (.if_icmp .ne 82, 3) := by decide +kernel
theorem d_X14_rowInitial_13 : decode b_X14_rowInitial 13 = .ok (.aload_n 0, 1) := by decide +kernel
theorem d_X14_rowInitial_14 : decode b_X14_rowInitial 14 = .ok (.getfield 13, 3) := by decide +kernel
theorem d_X14_rowInitial_17 : decode b_X14_rowInitial 17 = .ok (.aload_n 0, 1) := by decide +kernel
theorem d_X14_rowInitial_18 : decode b_X14_rowInitial 18 = .ok (.getfield 288, 3) := by decide +kernel
theorem d_X14_rowInitial_21 : decode b_X14_rowInitial 21 = .ok (.iconst 1, 1) := by decide +kernel
theorem d_X14_rowInitial_22 : decode b_X14_rowInitial 22 = .ok (.iadd, 1) := by decide +kernel
theorem d_X14_rowInitial_23 : decode b_X14_rowInitial 23 = .ok (.iaload, 1) := by decide +kernel
theorem d_X14_rowInitial_24 : decode b_X14_rowInitial 24 = .ok (.bipush 58, 2) := by decide +kernel
theorem d_X14_rowInitial_26 : decode b_X14_rowInitial 26 = .ok (.if_icmp .eq 19, 3) := by decide +kernel
theorem d_X14_rowInitial_29 : decode b_X14_rowInitial 29 = .ok (.aload_n 0, 1) := by decide +kernel
theorem d_X14_rowInitial_30 : decode b_X14_rowInitial 30 = .ok (.getfield 13, 3) := by decide +kernel
theorem d_X14_rowInitial_33 : decode b_X14_rowInitial 33 = .ok (.aload_n 0, 1) := by decide +kernel
theorem d_X14_rowInitial_34 : decode b_X14_rowInitial 34 = .ok (.getfield 288, 3) := by decide +kernel
theorem d_X14_rowInitial_37 : decode b_X14_rowInitial 37 = .ok (.iconst 1, 1) := by decide +kernel
theorem d_X14_rowInitial_38 : decode b_X14_rowInitial 38 = .ok (.iadd, 1) := by decide +kernel
theorem d_X14_rowInitial_39 : decode b_X14_rowInitial 39 = .ok (.iaload, 1) := by decide +kernel
theorem d_X14_rowInitial_40 : decode b_X14_rowInitial 40 = .ok (.bipush 59, 2) := by decide +kernel
theorem d_X14_rowInitial_42 : decode b_X14_rowInitial 42 = .ok (.if_icmp .ne 50, 3) := by decide +kernel
theorem d_X14_rowInitial_45 : decode b_X14_rowInitial 45 = .ok (.aload_n 0, 1) := by decide +kernel
theorem d_X14_rowInitial_46 : decode b_X14_rowInitial 46 = .ok (.getfield 288, 3) := by decide +kernel
theorem d_X14_rowInitial_49 : decode b_X14_rowInitial 49 = .ok (.istore 5, 2) := by decide +kernel
theorem d_X14_rowInitial_51 : decode b_X14_rowInitial 51 = .ok (.aload_n 0, 1) := by decide +kernel
theorem d_X14_rowInitial_52 : decode b_X14_rowInitial 52 = .ok (.dup, 1) := by decide +kernel
theorem d_X14_rowInitial_53 : decode b_X14_rowInitial 53 = .ok (.getfield 288, 3) := by decide +kernel
theorem d_X14_rowInitial_56 : decode b_X14_rowInitial 56 = .ok (.iconst 1, 1) := by decide +kernel
theorem d_X14_rowInitial_57 : decode b_X14_rowInitial 57 = .ok (.iadd, 1) := by decide +kernel
theorem d_X14_rowInitial_58 : decode b_X14_rowInitial 58 = .ok (.putfield 288, 3) := by decide +kernel
theorem d_X14_rowInitial_61 : decode b_X14_rowInitial 61 = .ok (.aload_n 0, 1) := by decide +kernel
theorem d_X14_rowInitial_62 : decode b_X14_rowInitial 62 = .ok (.iload 5, 2) := by decide +kernel
theorem d_X14_rowInitial_64 : decode b_X14_rowInitial 64 = .ok (.iload_n 2, 1) := by decide +kernel
theorem d_X14_rowInitial_65 : decode b_X14_rowInitial 65 = .ok (.iload_n 3, 1) := by decide +kernel
theorem d_X14_rowInitial_66 : decode b_X14_rowInitial 66 = .ok (.iload 4, 2) := by decide +kernel
theorem d_X14_rowInitial_68 : decode b_X14_rowInitial 68 = .ok (.invokevirtual 643, 3) := by decide +kernel
theorem d_X14_rowInitial_71 : decode b_X14_rowInitial 71 = .ok (.iload_n 1, 1) := by decide +kernel
theorem d_X14_rowInitial_72 : decode b_X14_rowInitial 72 = .ok (.ifCond .ne 18, 3) := by decide +kernel
theorem d_X14_rowInitial_75 : decode b_X14_rowInitial 75 = .ok (.aload_n 0, 1) := by decide +kernel
theorem d_X14_rowInitial_76 : decode b_X14_rowInitial 76 = .ok (.getfield 26, 3) := by decide +kernel
theorem d_X14_rowInitial_79 : decode b_X14_rowInitial 79 = .ok (.iload 5, 2) := by decide +kernel
theorem d_X14_rowInitial_81 : decode b_X14_rowInitial 81 = .ok (.iaload, 1) := by decide +kernel
theorem d_X14_rowInitial_82 : decode b_X14_rowInitial 82 = .ok (.iload_n 2, 1) := by decide +kernel
theorem d_X14_rowInitial_83 : decode b_X14_rowInitial 83 = .ok (.if_icmp .gt 7, 3) := by decide +kernel
theorem d_X14_rowInitial_86 : decode b_X14_rowInitial 86 = .ok (.iconst 1, 1) := by decide +kernel
theorem d_X14_rowInitial_87 : decode b_X14_rowInitial 87 = .ok (.goto 4, 3) := by decide +kernel
theorem d_X14_rowInitial_90 : decode b_X14_rowInitial 90 = .ok (.iconst 0, 1) := by decide +kernel
theorem d_X14_rowInitial_91 : decode b_X14_rowInitial 91 = .ok (.ireturn, 1) := by decide +kernel
theorem d_X14_rowInitial_92 : decode b_X14_rowInitial 92 = .ok (.aload_n 0, 1) := by decide +kernel
theorem d_X14_rowInitial_93 : decode b_X14_rowInitial 93 = .ok (.bipush 22, 2) := by decide +kernel
theorem d_X14_rowInitial_95 : decode b_X14_rowInitial 95 = .ok (.invokevirtual 308, 3) := by decide +kernel
theorem d_X14_rowInitial_98 : decode b_X14_rowInitial 98 = .ok (.ifCond .eq 14, 3) := by decide +kernel
theorem d_X14_rowInitial_101 : decode b_X14_rowInitial 101 = .ok (.aload_n 0, 1) := by decide +kernel
theorem d_X14_rowInitial_102 : decode b_X14_rowInitial 102 = .ok (.iload_n 2, 1) := by decide +kernel
theorem d_X14_rowInitial_103 : decode b_X14_rowInitial 103 = .ok (.iload_n 1, 1) := by decide +kernel
theorem d_X14_rowInitial_104 : decode b_X14_rowInitial 104 = .ok (.iconst 0, 1) := by decide +kernel
theorem d_X14_rowInitial_105 : decode b_X14_rowInitial 105 = .ok (.iload_n 3, 1) := by decide +kernel
theorem d_X14_rowInitial_106 : decode b_X14_rowInitial 106 = .ok (.iload 4, 2) := by decide +kernel
theorem d_X14_rowInitial_108 : decode b_X14_rowInitial 108 = .ok (.invokevirtual 634, 3) := by decide +kernel
theorem d_X14_rowInitial_111 : decode b_X14_rowInitial 111 = .ok (.ireturn, 1) := by decide +kernel
theorem d_X14_rowInitial_112 : decode b_X14_rowInitial 112 = .ok (.aload_n 0, 1) := by decide +kernel
theorem d_X14_rowInitial_113 : decode b_X14_rowInitial 113 = .ok (.iconst 1, 1) := by decide +kernel
theorem d_X14_rowInitial_114 : decode b_X14_rowInitial 114 = .ok (.invokevirtual 395, 3) := by decide +kernel
theorem d_X14_rowInitial_117 : decode b_X14_rowInitial 117 = .ok (.astore 5, 2) := by decide +kernel
theorem d_X14_rowInitial_119 : decode b_X14_rowInitial 119 = .ok (.aload_n 0, 1) := by decide +kernel
theorem d_X14_rowInitial_120 : decode b_X14_rowInitial 120 = .ok (.aload 5, 2) := by decide +kernel
theorem d_X14_rowInitial_122 : decode b_X14_rowInitial 122 = .ok (.invokevirtual 398, 3) := by decide +kernel
theorem d_X14_rowInitial_125 : decode b_X14_rowInitial 125 = .ok (.iconst 0, 1) := by decide +kernel
theorem d_X14_rowInitial_126 : decode b_X14_rowInitial 126 = .ok (.ireturn, 1) := by decide +kernel
theorem d_X14_fill_0 : decode b_X14_fill 0 = .ok (.iload_n 3, 1) := by decide +kernel
theorem d_X14_fill_1 : decode b_X14_fill 1 = .ok (.ifCond .ge 4, 3) := by decide +kernel
theorem d_X14_fill_4 : decode b_X14_fill 4 = .ok (.return_, 1) := by decide +kernel
theorem d_X14_fill_5 : decode b_X14_fill 5 = .ok (.iload 4, 2) := by decide +kernel
theorem d_X14_fill_7 : decode b_X14_fill 7 = .ok (.ifCond .ne 25, 3) := by decide +kernel
theorem d_X14_fill_10 : decode b_X14_fill 10 = .ok (.aload_n 0, 1) := by decide +kernel
theorem d_X14_fill_11 : decode b_X14_fill 11 = .ok (.getfield 26, 3) := by decide +kernel
theorem d_X14_fill_14 : decode b_X14_fill 14 = .ok (.iload_n 1, 1) := by decide +kernel
theorem d_X14_fill_15 : decode b_X14_fill 15 = .ok (.iaload, 1) := by decide +kernel
theorem d_X14_fill_16 : decode b_X14_fill 16 = .ok (.iload_n 2, 1) := by decide +kernel
theorem d_X14_fill_17 : decode b_X14_fill 17 = .ok (.if_icmp .gt 14, 3) := by decide +kernel
theorem d_X14_fill_20 : decode b_X14_fill 20 = .ok (.aload_n 0, 1) := by decide +kernel
theorem d_X14_fill_21 : decode b_X14_fill 21 = .ok (.iload_n 1, 1) := by decide +kernel
theorem d_X14_fill_22 : decode b_X14_fill 22 = .ok (.aload_n 0, 1) := by decide +kernel
theorem d_X14_fill_23 : decode b_X14_fill 23 = .ok (.getfield 70, 3) := by decide +kernel
theorem d_X14_fill_26 : decode b_X14_fill 26 = .ok (.iload_n 3, 1) := by decide +kernel
theorem d_X14_fill_27 : decode b_X14_fill 27 = .ok (.iaload, 1) := by decide +kernel
theorem d_X14_fill_28 : decode b_X14_fill 28 = .ok (.invokevirtual 518, 3) := by decide +kernel
theorem d_X14_fill_31 : decode b_X14_fill 31 = .ok (.return_, 1) := by decide +kernel
theorem d_X14_fill_32 : decode b_X14_fill 32 = .ok (.aload_n 0, 1) := by decide +kernel
theorem d_X14_fill_33 : decode b_X14_fill 33 = .ok (.getfield 17, 3) := by decide +kernel
theorem d_X14_fill_36 : decode b_X14_fill 36 = .ok (.iload_n 1, 1) := by decide +kernel
theorem d_X14_fill_37 : decode b_X14_fill 37 = .ok (.iaload, 1) := by decide +kernel
theorem d_X14_fill_38 : decode b_X14_fill 38 = .ok (.iconst 1, 1) := by decide +kernel
theorem d_X14_fill_39 : decode b_X14_fill 39 = .ok (.iadd, 1) := by decide +kernel
theorem d_X14_fill_40 : decode b_X14_fill 40 = .ok (.istore 5, 2) := by decide +kernel
theorem d_X14_fill_42 : decode b_X14_fill 42 = .ok (.iconst 0, 1) := by decide +kernel
theorem d_X14_fill_43 : decode b_X14_fill 43 = .ok (.istore 6, 2) := by decide +kernel
theorem d_X14_fill_45 : decode b_X14_fill 45 = .ok (.iload 6, 2) := by decide +kernel
theorem d_X14_fill_47 : decode b_X14_fill 47 = .ok (.aload_n 0, 1) := by decide +kernel
theorem d_X14_fill_48 : decode b_X14_fill 48 = .ok (.getfield 26, 3) := by decide +kernel
theorem d_X14_fill_51 : decode b_X14_fill 51 = .ok (.iload_n 1, 1) := by decide +kernel
theorem d_X14_fill_52 : decode b_X14_fill 52 = .ok (.iaload, 1) := by decide +kernel
theorem d_X14_fill_53 : decode b_X14_fill 53 = .ok (.if_icmp .ge 78, 3) := by decide +kernel
theorem d_X14_fill_56 : decode b_X14_fill 56 = .ok (.aload_n 0, 1) := by decide +kernel
theorem d_X14_fill_57 : decode b_X14_fill 57 = .ok (.iconst 4, 1) := by decide +kernel
theorem d_X14_fill_58 : decode b_X14_fill 58 = .ok (.iload_n 3, 1) := by decide +kernel
theorem d_X14_fill_59 : decode b_X14_fill 59 = .ok (.invokevirtual 322, 3) := by decide +kernel
theorem d_X14_fill_62 : decode b_X14_fill 62 = .ok (.aload_n 0, 1) := by decide +kernel
theorem d_X14_fill_63 : decode b_X14_fill 63 = .ok (.iconst 0, 1) := by decide +kernel
theorem d_X14_fill_64 : decode b_X14_fill 64 = .ok (.iload 6, 2) := by decide +kernel
theorem d_X14_fill_66 : decode b_X14_fill 66 = .ok (.invokevirtual 322, 3) := by decide +kernel
theorem d_X14_fill_69 : decode b_X14_fill 69 = .ok (.aload_n 0, 1) := by decide +kernel
theorem d_X14_fill_70 : decode b_X14_fill 70 = .ok (.bipush 11, 2) := by decide +kernel
theorem d_X14_fill_72 : decode b_X14_fill 72 = .ok (.bipush 36, 2) := by decide +kernel
theorem d_X14_fill_74 : decode b_X14_fill 74 = .ok (.iconst 0, 1) := by decide +kernel
theorem d_X14_fill_75 : decode b_X14_fill 75 = .ok (.invokevirtual 418, 3) := by decide +kernel
theorem d_X14_fill_78 : decode b_X14_fill 78 = .ok (.aload_n 0, 1) := by decide +kernel
theorem d_X14_fill_79 : decode b_X14_fill 79 = .ok (.iconst 0, 1) := by decide +kernel
theorem d_X14_fill_80 : decode b_X14_fill 80 = .ok (.aload_n 0, 1) := by decide +kernel
theorem d_X14_fill_81 : decode b_X14_fill 81 = .ok (.iload 5, 2) := by decide +kernel
theorem d_X14_fill_83 : decode b_X14_fill 83 = .ok (.bipush 34, 2) := by decide +kernel
theorem d_X14_fill_85 : decode b_X14_fill 85 = .ok (.invokevirtual 283, 3) := by decide +kernel
theorem d_X14_fill_88 : decode b_X14_fill 88 = .ok (.invokevirtual 322, 3) := by decide +kernel
theorem d_X14_fill_91 : decode b_X14_fill 91 = .ok (.aload_n 0, 1) := by decide +kernel
theorem d_X14_fill_92 : decode b_X14_fill 92 = .ok (.bipush 6, 2) := by decide +kernel
theorem d_X14_fill_94 : decode b_X14_fill 94 = .ok (.iconst 0, 1) := by decide +kernel
theorem d_X14_fill_95 : decode b_X14_fill 95 = .ok (.invokevirtual 322, 3) := by decide +kernel
theorem d_X14_fill_98 : decode b_X14_fill 98 = .ok (.aload_n 0, 1) := by decide +kernel
theorem d_X14_fill_99 : decode b_X14_fill 99 = .ok (.bipush 10, 2) := by decide +kernel
theorem d_X14_fill_101 : decode b_X14_fill 101 = .ok (.invokevirtual 318, 3) := by decide +kernel
theorem d_X14_fill_104 : decode b_X14_fill 104 = .ok (.iload 5, 2) := by decide +kernel
theorem d_X14_fill_106 : decode b_X14_fill 106 = .ok (.aload_n 0, 1) := by decide +kernel
theorem d_X14_fill_107 : decode b_X14_fill 107 = .ok (.iload 5, 2) := by decide +kernel
theorem d_X14_fill_109 : decode b_X14_fill 109 = .ok (.invokevirtual 209, 3) := by decide +kernel
theorem d_X14_fill_112 : decode b_X14_fill 112 = .ok (.bipush 92, 2) := by decide +kernel
theorem d_X14_fill_114 : decode b_X14_fill 114 = .ok (.if_icmp .ne 7, 3) := by decide +kernel
theorem d_X14_fill_117 : decode b_X14_fill 117 = .ok (.iconst 2, 1) := by decide +kernel
theorem d_X14_fill_118 : decode b_X14_fill 118 = .ok (.goto 4, 3) := by decide +kernel
theorem d_X14_fill_121 : decode b_X14_fill 121 = .ok (.iconst 1, 1) := by decide +kernel
theorem d_X14_fill_122 : decode b_X14_fill 122 = .ok (.iadd, 1) := by decide +kernel
theorem d_X14_fill_123 : decode b_X14_fill 123 = .ok (.istore 5, 2) := by decide +kernel
theorem d_X14_fill_125 : decode b_X14_fill 125 = .ok (.iinc 6 1, 3) := by decide +kernel
theorem d_X14_fill_128 : decode b_X14_fill 128 = .ok (.goto (-83), 3) := by decide +kernel
theorem d_X14_fill_131 : decode b_X14_fill 131 = .ok (.return_, 1) := by decide +kernel
theorem d_X14_braces_0 : decode b_X14_braces 0 = .ok (.aload_n 0, 1) := by decide +kernel
theorem d_X14_braces_1 : decode b_X14_braces 1 = .ok (.bipush 22, 2) := by decide +kernel
theorem d_X14_braces_3 : decode b_X14_braces 3 = .ok (.invokevirtual 497, 3) := by decide +kernel
theorem d_X14_braces_6 : decode b_X14_braces 6 = .ok (.iconst 1, 1) := by decide +kernel
theorem d_X14_braces_7 : decode b_X14_braces 7 = .ok (.istore 6, 2) := by decide +kernel
theorem d_X14_braces_9 : decode b_X14_braces 9 = .ok (.iload_n 3, 1) := by decide +kernel
theorem d_X14_braces_10 : decode b_X14_braces 10 = .ok (.istore 7, 2) := by decide +kernel
theorem d_X14_braces_12 : decode b_X14_braces 12 = .ok (.iload 5, 2) := by decide +kernel
theorem d_X14_braces_14 : decode b_X14_braces 14 = .ok (.ifCond .eq 79, 3) := by decide +kernel
theorem d_X14_braces_17 : decode b_X14_braces 17 = .ok (.iload 4, 2) := by decide +kernel
theorem d_X14_braces_19 : decode b_X14_braces 19 = .ok (.ifCond .lt 26, 3) := by decide +kernel
theorem d_X14_braces_22 : decode b_X14_braces 22 = .ok (.aload_n 0, 1) := by decide +kernel
theorem d_X14_braces_23 : decode b_X14_braces 23 = .ok (.iconst 4, 1) := by decide +kernel
theorem d_X14_braces_24 : decode b_X14_braces 24 = .ok (.iload 4, 2) := by decide +kernel
theorem d_X14_braces_26 : decode b_X14_braces 26 = .ok (.invokevirtual 322, 3) := by decide +kernel
theorem d_X14_braces_29 : decode b_X14_braces 29 = .ok (.aload_n 0, 1) := by decide +kernel
theorem d_X14_braces_30 : decode b_X14_braces 30 = .ok (.iconst 0, 1) := by decide +kernel
theorem d_X14_braces_31 : decode b_X14_braces 31 = .ok (.iload 7, 2) := by decide +kernel
theorem d_X14_braces_33 : decode b_X14_braces 33 = .ok (.invokevirtual 322, 3) := by decide +kernel
theorem d_X14_braces_36 : decode b_X14_braces 36 = .ok (.aload_n 0, 1) := by decide +kernel
theorem d_X14_braces_37 : decode b_X14_braces 37 = .ok (.bipush 11, 2) := by decide +kernel
theorem d_X14_braces_39 : decode b_X14_braces 39 = .ok (.bipush 36, 2) := by decide +kernel
theorem d_X14_braces_41 : decode b_X14_braces 41 = .ok (.iconst 0, 1) := by decide +kernel
theorem d_X14_braces_42 : decode b_X14_braces 42 = .ok (.invokevirtual 418, 3) := by decide +kernel
theorem d_X14_braces_45 : decode b_X14_braces 45 = .ok (.aload_n 0, 1) := by decide +kernel
theorem d_X14_braces_46 : decode b_X14_braces 46 = .ok (.iload_n 2, 1) := by decide +kernel
theorem d_X14_braces_47 : decode b_X14_braces 47 = .ok (.iconst (-1), 1) := by decide +kernel
theorem d_X14_braces_48 : decode b_X14_braces 48 = .ok (.iconst (-1), 1) := by decide +kernel
theorem d_X14_braces_49 : decode b_X14_braces 49 = .ok (.iconst 1, 1) := by decide +kernel
theorem d_X14_braces_50 : decode b_X14_braces 50 = .ok (.invokevirtual 638, 3) := by decide +kernel
theorem d_X14_braces_53 : decode b_X14_braces 53 = .ok (.istore 8, 2) := by decide +kernel
theorem d_X14_braces_55 : decode b_X14_braces 55 = .ok (.iload 6, 2) := by decide +kernel
theorem d_X14_braces_57 : decode b_X14_braces 57 = .ok (.ifCond .eq 12, 3) := by decide +kernel
theorem d_X14_braces_60 : decode b_X14_braces 60 = .ok (.iload 8, 2) := by decide +kernel
theorem d_X14_braces_62 : decode b_X14_braces 62 = .ok (.ifCond .eq 7, 3) := by decide +kernel
theorem d_X14_braces_65 : decode b_X14_braces 65 = .ok (.iconst 1, 1) := by decide +kernel
theorem d_X14_braces_66 : decode b_X14_braces 66 = .ok (.goto 4, 3) := by decide +kernel
theorem d_X14_braces_69 : decode b_X14_braces 69 = .ok (.iconst 0, 1) := by decide +kernel
theorem d_X14_braces_70 : decode b_X14_braces 70 = .ok (.istore 6, 2) := by decide +kernel
theorem d_X14_braces_72 : decode b_X14_braces 72 = .ok (.iload 4, 2) := by decide +kernel
theorem d_X14_braces_74 : decode b_X14_braces 74 = .ok (.ifCond .lt 16, 3) := by decide +kernel
theorem d_X14_braces_77 : decode b_X14_braces 77 = .ok (.aload_n 0, 1) := by decide +kernel
theorem d_X14_braces_78 : decode b_X14_braces 78 = .ok (.bipush 6, 2) := by decide +kernel
theorem d_X14_braces_80 : decode b_X14_braces 80 = .ok (.iconst 0, 1) := by decide +kernel
theorem d_X14_braces_81 : decode b_X14_braces 81 = .ok (.invokevirtual 322, 3) := by decide +kernel
theorem d_X14_braces_84 : decode b_X14_braces 84 = .ok (.aload_n 0, 1) := by decide +kernel
theorem d_X14_braces_85 : decode b_X14_braces 85 = .ok (.bipush 10, 2) := by decide +kernel
theorem d_X14_braces_87 : decode b_X14_braces 87 = .ok (.invokevirtual 318, 3) := by decide +kernel
theorem d_X14_braces_90 : decode b_X14_braces 90 = .ok (.goto 49, 3) := by decide +kernel
theorem d_X14_braces_93 : decode b_X14_braces 93 = .ok (.aload_n 0, 1) := by decide +kernel
theorem d_X14_braces_94 : decode b_X14_braces 94 = .ok (.iload_n 2, 1) := by decide +kernel
theorem d_X14_braces_95 : decode b_X14_braces 95 = .ok (.iload 4, 2) := by decide +kernel
theorem d_X14_braces_97 : decode b_X14_braces 97 = .ok (.ifCond .ge 7, 3) := by decide +kernel
theorem d_X14_braces_100 : decode b_X14_braces 100 = .ok (.iconst 0, 1) := by decide +kernel
theorem d_X14_braces_101 : decode b_X14_braces 101 = .ok (.goto 13, 3) := by decide +kernel
theorem d_X14_braces_104 : decode b_X14_braces 104 = .ok (.aload_n 0, 1) := by decide +kernel
theorem d_X14_braces_105 : decode b_X14_braces 105 = .ok (.getfield 70, 3) := by decide +kernel
theorem d_X14_braces_108 : decode b_X14_braces 108 = .ok (.iload 4, 2) := by decide +kernel
theorem d_X14_braces_110 : decode b_X14_braces 110 = .ok (.iaload, 1) := by decide +kernel
theorem d_X14_braces_111 : decode b_X14_braces 111 = .ok (.iload 7, 2) := by decide +kernel
theorem d_X14_braces_113 : decode b_X14_braces 113 = .ok (.iadd, 1) := by decide +kernel
theorem d_X14_braces_114 : decode b_X14_braces 114 = .ok (.iload 4, 2) := by decide +kernel
theorem d_X14_braces_116 : decode b_X14_braces 116 = .ok (.iconst 0, 1) := by decide +kernel
theorem d_X14_braces_117 : decode b_X14_braces 117 = .ok (.invokevirtual 638, 3) := by decide +kernel
theorem d_X14_braces_120 : decode b_X14_braces 120 = .ok (.istore 8, 2) := by decide +kernel
theorem d_X14_braces_122 : decode b_X14_braces 122 = .ok (.iload 6, 2) := by decide +kernel
theorem d_X14_braces_124 : decode b_X14_braces 124 = .ok (.ifCond .eq 12, 3) := by decide +kernel
theorem d_X14_braces_127 : decode b_X14_braces 127 = .ok (.iload 8, 2) := by decide +kernel
theorem d_X14_braces_129 : decode b_X14_braces 129 = .ok (.ifCond .eq 7, 3) := by decide +kernel
theorem d_X14_braces_132 : decode b_X14_braces 132 = .ok (.iconst 1, 1) := by decide +kernel
theorem d_X14_braces_133 : decode b_X14_braces 133 = .ok (.goto 4, 3) := by decide +kernel
theorem d_X14_braces_136 : decode b_X14_braces 136 = .ok (.iconst 0, 1) := by decide +kernel
theorem d_X14_braces_137 : decode b_X14_braces 137 = .ok (.istore 6, 2) := by decide +kernel
theorem d_X14_braces_139 : decode b_X14_braces 139 = .ok (.iinc 7 1, 3) := by decide +kernel
theorem d_X14_braces_142 : decode b_X14_braces 142 = .ok (.aload_n 0, 1) := by decide +kernel
theorem d_X14_braces_143 : decode b_X14_braces 143 = .ok (.bipush 26, 2) := by decide +kernel
theorem d_X14_braces_145 : decode b_X14_braces 145 = .ok (.invokevirtual 530, 3) := by decide +kernel
theorem d_X14_braces_148 : decode b_X14_braces 148 = .ok (.ifCond .ne (-136), 3) := by decide +kernel
theorem d_X14_braces_151 : decode b_X14_braces 151 = .ok (.aload_n 0, 1) := by decide +kernel
theorem d_X14_braces_152 : decode b_X14_braces 152 = .ok (.bipush 23, 2) := by decide +kernel
theorem d_X14_braces_154 : decode b_X14_braces 154 = .ok (.invokevirtual 497, 3) := by decide +kernel
theorem d_X14_braces_157 : decode b_X14_braces 157 = .ok (.iload 6, 2) := by decide +kernel
theorem d_X14_braces_159 : decode b_X14_braces 159 = .ok (.ifCond .eq 13, 3) := by decide +kernel
theorem d_X14_braces_162 : decode b_X14_braces 162 = .ok (.iload 7, 2) := by decide +kernel
theorem d_X14_braces_164 : decode b_X14_braces 164 = .ok (.iload_n 1, 1) := by decide +kernel
theorem d_X14_braces_165 : decode b_X14_braces 165 = .ok (.if_icmp .gt 7, 3) := by decide +kernel
theorem d_X14_braces_168 : decode b_X14_braces 168 = .ok (.iconst 1, 1) := by decide +kernel
theorem d_X14_braces_169 : decode b_X14_braces 169 = .ok (.goto 4, 3) := by decide +kernel
theorem d_X14_braces_172 : decode b_X14_braces 172 = .ok (.iconst 0, 1) := by decide +kernel
theorem d_X14_braces_173 : decode b_X14_braces 173 = .ok (.ireturn, 1) := by decide +kernel
theorem d_X14_one_1_0 : decode b_X14_one_1 0 = .ok (.aload_n 0, 1) := by decide +kernel
theorem d_X14_one_1_1 : decode b_X14_one_1 1 = .ok (.getfield 315, 3) := by decide +kernel
theorem d_X14_one_1_4 : decode b_X14_one_1 4 = .ok (.istore 5, 2) := by decide +kernel
theorem d_X14_one_1_6 : decode b_X14_one_1 6 = .ok (.aload_n 0, 1) := by decide +kernel
theorem d_X14_one_1_7 : decode b_X14_one_1 7 = .ok (.iconst 1, 1) := by decide +kernel
theorem d_X14_one_1_8 : decode b_X14_one_1 8 = .ok (.invokevirtual 395, 3) := by decide +kernel
theorem d_X14_one_1_11 : decode b_X14_one_1 11 = .ok (.astore 6, 2) := by decide +kernel
theorem d_X14_one_1_13 : decode b_X14_one_1 13 = .ok (.aload_n 0, 1) := by decide +kernel
theorem d_X14_one_1_14 : decode b_X14_one_1 14 = .ok (.aload 6, 2) := by decide +kernel
theorem d_X14_one_1_16 : decode b_X14_one_1 16 = .ok (.invokevirtual 398, 3) := by decide +kernel
theorem d_X14_one_1_19 : decode b_X14_one_1 19 = .ok (.iload 4, 2) := by decide +kernel
theorem d_X14_one_1_21 : decode b_X14_one_1 21 = .ok (.ifCond .ne 67, 3) := by decide +kernel
theorem d_X14_one_1_24 : decode b_X14_one_1 24 = .ok (.aload_n 0, 1) := by decide +kernel
theorem d_X14_one_1_25 : decode b_X14_one_1 25 = .ok (.iload 5, 2) := by decide +kernel
theorem d_X14_one_1_27 : decode b_X14_one_1 27 = .ok (.putfield 315, 3) := by decide +kernel
theorem d_X14_one_1_30 : decode b_X14_one_1 30 = .ok (.aload_n 0, 1) := by decide +kernel
theorem d_X14_one_1_31 : decode b_X14_one_1 31 = .ok (.aload 6, 2) := by decide +kernel
theorem d_X14_one_1_33 : decode b_X14_one_1 33 = .ok (.iload_n 1, 1) := by decide +kernel
theorem d_X14_one_1_34 : decode b_X14_one_1 34 = .ok (.invokevirtual 640, 3) := by decide +kernel
theorem d_X14_one_1_37 : decode b_X14_one_1 37 = .ok (.ifCond .eq 43, 3) := by decide +kernel
theorem d_X14_one_1_40 : decode b_X14_one_1 40 = .ok (.aload_n 0, 1) := by decide +kernel
theorem d_X14_one_1_41 : decode b_X14_one_1 41 = .ok (.iload_n 2, 1) := by decide +kernel
theorem d_X14_one_1_42 : decode b_X14_one_1 42 = .ok (.aload 6, 2) := by decide +kernel
theorem d_X14_one_1_44 : decode b_X14_one_1 44 = .ok (.getfield 357, 3) := by decide +kernel
theorem d_X14_one_1_47 : decode b_X14_one_1 47 = .ok (.ifCond .eq 7, 3) := by decide +kernel
theorem d_X14_one_1_50 : decode b_X14_one_1 50 = .ok (.iconst 0, 1) := by decide +kernel
theorem d_X14_one_1_51 : decode b_X14_one_1 51 = .ok (.goto 8, 3) := by decide +kernel
theorem d_X14_one_1_54 : decode b_X14_one_1 54 = .ok (.aload 6, 2) := by decide +kernel
theorem d_X14_one_1_56 : decode b_X14_one_1 56 = .ok (.getfield 457, 3) := by decide +kernel
theorem d_X14_one_1_59 : decode b_X14_one_1 59 = .ok (.aload 6, 2) := by decide +kernel
theorem d_X14_one_1_61 : decode b_X14_one_1 61 = .ok (.getfield 454, 3) := by decide +kernel
theorem d_X14_one_1_64 : decode b_X14_one_1 64 = .ok (.iconst 2, 1) := by decide +kernel
theorem d_X14_one_1_65 : decode b_X14_one_1 65 = .ok (.if_icmp .ne 11, 3) := by decide +kernel
theorem d_X14_one_1_68 : decode b_X14_one_1 68 = .ok (.aload 6, 2) := by decide +kernel
theorem d_X14_one_1_70 : decode b_X14_one_1 70 = .ok (.getfield 467, 3) := by decide +kernel
theorem d_X14_one_1_73 : decode b_X14_one_1 73 = .ok (.goto 4, 3) := by decide +kernel
theorem d_X14_one_1_76 : decode b_X14_one_1 76 = .ok (.iconst 0, 1) := by decide +kernel
theorem d_X14_one_1_77 : decode b_X14_one_1 77 = .ok (.invokevirtual 521, 3) := by decide +kernel
theorem d_X14_one_1_80 : decode b_X14_one_1 80 = .ok (.aload_n 0, 1) := by decide +kernel
theorem d_X14_one_1_81 : decode b_X14_one_1 81 = .ok (.aload 6, 2) := by decide +kernel
theorem d_X14_one_1_83 : decode b_X14_one_1 83 = .ok (.iload_n 1, 1) := by decide +kernel
theorem d_X14_one_1_84 : decode b_X14_one_1 84 = .ok (.invokevirtual 640, 3) := by decide +kernel
theorem d_X14_one_1_87 : decode b_X14_one_1 87 = .ok (.ireturn, 1) := by decide +kernel
theorem d_X14_one_1_88 : decode b_X14_one_1 88 = .ok (.iload_n 3, 1) := by decide +kernel
theorem d_X14_one_1_89 : decode b_X14_one_1 89 = .ok (.ifCond .lt 19, 3) := by decide +kernel
theorem d_X14_one_1_92 : decode b_X14_one_1 92 = .ok (.aload_n 0, 1) := by decide +kernel
theorem d_X14_one_1_93 : decode b_X14_one_1 93 = .ok (.getfield 117, 3) := by decide +kernel
theorem d_X14_one_1_96 : decode b_X14_one_1 96 = .ok (.iload_n 3, 1) := by decide +kernel
theorem d_X14_one_1_97 : decode b_X14_one_1 97 = .ok (.iaload, 1) := by decide +kernel
theorem d_X14_one_1_98 : decode b_X14_one_1 98 = .ok (.ifCond .ge 10, 3) := by decide +kernel
theorem d_X14_one_1_101 : decode b_X14_one_1 101 = .ok (.aload_n 0, 1) := by decide +kernel
theorem d_X14_one_1_102 : decode b_X14_one_1 102 = .ok (.bipush 7, 2) := by decide +kernel
theorem d_X14_one_1_104 : decode b_X14_one_1 104 = .ok (.iload_n 3, 1) := by decide +kernel
theorem d_X14_one_1_105 : decode b_X14_one_1 105 = .ok (.invokevirtual 322, 3) := by decide +kernel
theorem d_X14_one_1_108 : decode b_X14_one_1 108 = .ok (.iload_n 3, 1) := by decide +kernel
theorem d_X14_one_1_109 : decode b_X14_one_1 109 = .ok (.ifCond .lt 18, 3) := by decide +kernel
theorem d_X14_one_1_112 : decode b_X14_one_1 112 = .ok (.aload_n 0, 1) := by decide +kernel
theorem d_X14_one_1_113 : decode b_X14_one_1 113 = .ok (.getfield 117, 3) := by decide +kernel
theorem d_X14_one_1_116 : decode b_X14_one_1 116 = .ok (.iload_n 3, 1) := by decide +kernel
theorem d_X14_one_1_117 : decode b_X14_one_1 117 = .ok (.iaload, 1) := by decide +kernel
theorem d_X14_one_1_118 : decode b_X14_one_1 118 = .ok (.ifCond .ge 9, 3) := by decide +kernel
theorem d_X14_one_1_121 : decode b_X14_one_1 121 = .ok (.aload_n 0, 1) := by decide +kernel
theorem d_X14_one_1_122 : decode b_X14_one_1 122 = .ok (.bipush 10, 2) := by decide +kernel
theorem d_X14_one_1_124 : decode b_X14_one_1 124 = .ok (.invokevirtual 318, 3) := by decide +kernel
theorem d_X14_one_1_127 : decode b_X14_one_1 127 = .ok (.aload 6, 2) := by decide +kernel
theorem d_X14_one_1_129 : decode b_X14_one_1 129 = .ok (.iload_n 1, 1) := by decide +kernel
theorem d_X14_one_1_130 : decode b_X14_one_1 130 = .ok (.invokestatic 402, 3) := by decide +kernel
theorem d_X14_one_1_133 : decode b_X14_one_1 133 = .ok (.ireturn, 1) := by decide +kernel
theorem d_X14_isInitial_0 : decode b_X14_isInitial 0 = .ok (.iload_n 2, 1) := by decide +kernel
theorem d_X14_isInitial_1 : decode b_X14_isInitial 1 = .ok (.ifCond .ne 26, 3) := by decide +kernel
theorem d_X14_isInitial_4 : decode b_X14_isInitial 4 = .ok (.aload_n 1, 1) := by decide +kernel
theorem d_X14_isInitial_5 : decode b_X14_isInitial 5 = .ok (.getfield 454, 3) := by decide +kernel
theorem d_X14_isInitial_8 : decode b_X14_isInitial 8 = .ok (.iconst 1, 1) := by decide +kernel
theorem d_X14_isInitial_9 : decode b_X14_isInitial 9 = .ok (.if_icmp .ne 14, 3) := by decide +kernel
theorem d_X14_isInitial_12 : decode b_X14_isInitial 12 = .ok (.aload_n 1, 1) := by decide +kernel
theorem d_X14_isInitial_13 : decode b_X14_isInitial 13 = .ok (.invokestatic 406, 3) := by decide +kernel
theorem d_X14_isInitial_16 : decode b_X14_isInitial 16 = .ok (.ifCond .eq 7, 3) := by decide +kernel
theorem d_X14_isInitial_19 : decode b_X14_isInitial 19 = .ok (.iconst 1, 1) := by decide +kernel
theorem d_X14_isInitial_20 : decode b_X14_isInitial 20 = .ok (.goto 35, 3) := by decide +kernel
theorem d_X14_isInitial_23 : decode b_X14_isInitial 23 = .ok (.iconst 0, 1) := by decide +kernel
theorem d_X14_isInitial_24 : decode b_X14_isInitial 24 = .ok (.goto 31, 3) := by decide +kernel
theorem d_X14_isInitial_27 : decode b_X14_isInitial 27 = .ok (.aload_n 1, 1) := by decide +kernel
theorem d_X14_isInitial_28 : decode b_X14_isInitial 28 = .ok (.getfield 357, 3) := by decide +kernel
theorem d_X14_isInitial_31 : decode b_X14_isInitial 31 = .ok (.ifCond .ne 19, 3) := by decide +kernel
theorem d_X14_isInitial_34 : decode b_X14_isInitial 34 = .ok (.aload_n 1, 1) := by decide +kernel
theorem d_X14_isInitial_35 : decode b_X14_isInitial 35 = .ok (.getfield 454, 3) := by decide +kernel
theorem d_X14_isInitial_38 : decode b_X14_isInitial 38 = .ok (.iconst 2, 1) := by decide +kernel
theorem d_X14_isInitial_39 : decode b_X14_isInitial 39 = .ok (.if_icmp .ne 15, 3) := by decide +kernel
theorem d_X14_isInitial_42 : decode b_X14_isInitial 42 = .ok (.aload_n 1, 1) := by decide +kernel
theorem d_X14_isInitial_43 : decode b_X14_isInitial 43 = .ok (.getfield 352, 3) := by decide +kernel
theorem d_X14_isInitial_46 : decode b_X14_isInitial 46 = .ok (.iload_n 2, 1) := by decide +kernel
theorem d_X14_isInitial_47 : decode b_X14_isInitial 47 = .ok (.if_icmp .ne 7, 3) := by decide +kernel
theorem d_X14_isInitial_50 : decode b_X14_isInitial 50 = .ok (.iconst 1, 1) := by decide +kernel
theorem d_X14_isInitial_51 : decode b_X14_isInitial 51 = .ok (.goto 4, 3) := by decide +kernel
theorem d_X14_isInitial_54 : decode b_X14_isInitial 54 = .ok (.iconst 0, 1) := by decide +kernel
theorem d_X14_isInitial_55 : decode b_X14_isInitial 55 = .ok (.ireturn, 1) := by decide +kernel
theorem d_X14_oneInitial_0 : decode b_X14_oneInitial 0 = .ok (.aload_n 0, 1) := by decide +kernel
theorem d_X14_oneInitial_1 : decode b_X14_oneInitial 1 = .ok (.bipush 22, 2) := by decide +kernel
theorem d_X14_oneInitial_3 : decode b_X14_oneInitial 3 = .ok (.invokevirtual 308, 3) := by decide +kernel
theorem d_X14_oneInitial_6 : decode b_X14_oneInitial 6 = .ok (.ifCond .eq 15, 3) := by decide +kernel
theorem d_X14_oneInitial_9 : decode b_X14_oneInitial 9 = .ok (.aload_n 0, 1) := by decide +kernel
theorem d_X14_oneInitial_10 : decode b_X14_oneInitial 10 = .ok (.iconst (-1), 1) := by decide +kernel
theorem d_X14_oneInitial_11 : decode b_X14_oneInitial 11 = .ok (.iload_n 1, 1) := by decide +kernel
theorem d_X14_oneInitial_12 : decode b_X14_oneInitial 12 = .ok (.iconst 0, 1) := by decide +kernel
theorem d_X14_oneInitial_13 : decode b_X14_oneInitial 13 = .ok (.iload_n 2, 1) := by decide +kernel
theorem d_X14_oneInitial_14 : decode b_X14_oneInitial 14 = .ok (.iload_n 3, 1) := by decide +kernel
theorem d_X14_oneInitial_15 : decode b_X14_oneInitial 15 = .ok (.invokevirtual 634, 3) := by decide +kernel
theorem d_X14_oneInitial_18 : decode b_X14_oneInitial 18 = .ok (.pop, 1) := by decide +kernel
theorem d_X14_oneInitial_19 : decode b_X14_oneInitial 19 = .ok (.iconst 0, 1) := by decide +kernel
theorem d_X14_oneInitial_20 : decode b_X14_oneInitial 20 = .ok (.ireturn, 1) := by decide +kernel
theorem d_X14_oneInitial_21 : decode b_X14_oneInitial 21 = .ok (.aload_n 0, 1) := by decide +kernel
theorem d_X14_oneInitial_22 : decode b_X14_oneInitial 22 = .ok (.iload_n 1, 1) := by decide +kernel
theorem d_X14_oneInitial_23 : decode b_X14_oneInitial 23 = .ok (.iload_n 3, 1) := by decide +kernel
theorem d_X14_oneInitial_24 : decode b_X14_oneInitial 24 = .ok (.ifCond .ne 7, 3) := by decide +kernel
theorem d_X14_oneInitial_27 : decode b_X14_oneInitial 27 = .ok (.iload_n 2, 1) := by decide +kernel
theorem d_X14_oneInitial_28 : decode b_X14_oneInitial 28 = .ok (.ifCond .ge 7, 3) := by decide +kernel
theorem d_X14_oneInitial_31 : decode b_X14_oneInitial 31 = .ok (.iconst (-1), 1) := by decide +kernel
theorem d_X14_oneInitial_32 : decode b_X14_oneInitial 32 = .ok (.goto 9, 3) := by decide +kernel
theorem d_X14_oneInitial_35 : decode b_X14_oneInitial 35 = .ok (.aload_n 0, 1) := by decide +kernel
theorem d_X14_oneInitial_36 : decode b_X14_oneInitial 36 = .ok (.getfield 70, 3) := by decide +kernel
theorem d_X14_oneInitial_39 : decode b_X14_oneInitial 39 = .ok (.iload_n 2, 1) := by decide +kernel
theorem d_X14_oneInitial_40 : decode b_X14_oneInitial 40 = .ok (.iaload, 1) := by decide +kernel
theorem d_X14_oneInitial_41 : decode b_X14_oneInitial 41 = .ok (.iload_n 2, 1) := by decide +kernel
theorem d_X14_oneInitial_42 : decode b_X14_oneInitial 42 = .ok (.iload_n 3, 1) := by decide +kernel
theorem d_X14_oneInitial_43 : decode b_X14_oneInitial 43 = .ok (.invokevirtual 638, 3) := by decide +kernel
theorem d_X14_oneInitial_46 : decode b_X14_oneInitial 46 = .ok (.ireturn, 1) := by decide +kernel
theorem d_X14_condition_0 : decode b_X14_condition 0 = .ok (.aload_n 0, 1) := by decide +kernel
theorem d_X14_condition_1 : decode b_X14_condition 1 = .ok (.bipush 20, 2) := by decide +kernel
theorem d_X14_condition_3 : decode b_X14_condition 3 = .ok (.invokevirtual 497, 3) := by decide +kernel
theorem d_X14_condition_6 : decode b_X14_condition 6 = .ok (.aload_n 0, 1) := by decide +kernel
theorem d_X14_condition_7 : decode b_X14_condition 7 = .ok (.iconst 1, 1) := by decide +kernel
theorem d_X14_condition_8 : decode b_X14_condition 8 = .ok (.invokevirtual 395, 3) := by decide +kernel
theorem d_X14_condition_11 : decode b_X14_condition 11 = .ok (.astore_n 2, 1) := by decide +kernel
theorem d_X14_condition_12 : decode b_X14_condition 12 = .ok (.aload_n 0, 1) := by decide +kernel
theorem d_X14_condition_13 : decode b_X14_condition 13 = .ok (.aload_n 2, 1) := by decide +kernel
theorem d_X14_condition_14 : decode b_X14_condition 14 = .ok (.invokevirtual 398, 3) := by decide +kernel
theorem d_X14_condition_17 : decode b_X14_condition 17 = .ok (.aload_n 0, 1) := by decide +kernel
theorem d_X14_condition_18 : decode b_X14_condition 18 = .ok (.bipush 21, 2) := by decide +kernel
theorem d_X14_condition_20 : decode b_X14_condition 20 = .ok (.invokevirtual 497, 3) := by decide +kernel
theorem d_X14_condition_23 : decode b_X14_condition 23 = .ok (.aload_n 0, 1) := by decide +kernel
theorem d_X14_condition_24 : decode b_X14_condition 24 = .ok (.aload_n 2, 1) := by decide +kernel
theorem d_X14_condition_25 : decode b_X14_condition 25 = .ok (.invokestatic 431, 3) := by decide +kernel
theorem d_X14_condition_28 : decode b_X14_condition 28 = .ok (.iload_n 1, 1) := by decide +kernel
theorem d_X14_condition_29 : decode b_X14_condition 29 = .ok (.invokevirtual 410, 3) := by decide +kernel
theorem d_X14_condition_32 : decode b_X14_condition 32 = .ok (.return_, 1) := by decide +kernel
theorem d_X14_inner_0 : decode b_X14_inner 0 = .ok (.aload_n 0, 1) := by decide +kernel
theorem d_X14_inner_1 : decode b_X14_inner 1 = .ok (.dup, 1) := by decide +kernel
theorem d_X14_inner_2 : decode b_X14_inner 2 = .ok (.getfield 346, 3) := by decide +kernel
theorem d_X14_inner_5 : decode b_X14_inner 5 = .ok (.iconst 1, 1) := by decide +kernel
theorem d_X14_inner_6 : decode b_X14_inner 6 = .ok (.iadd, 1) := by decide +kernel
theorem d_X14_inner_7 : decode b_X14_inner 7 = .ok (.putfield 346, 3) := by decide +kernel
theorem d_X14_inner_10 : decode b_X14_inner 10 = .ok (.aload_n 0, 1) := by decide +kernel
theorem d_X14_inner_11 : decode b_X14_inner 11 = .ok (.iload_n 1, 1) := by decide +kernel
theorem d_X14_inner_12 : decode b_X14_inner 12 = .ok (.iconst 1, 1) := by decide +kernel
theorem d_X14_inner_13 : decode b_X14_inner 13 = .ok (.iadd, 1) := by decide +kernel
theorem d_X14_inner_14 : decode b_X14_inner 14 = .ok (.invokevirtual 536, 3) := by decide +kernel
theorem d_X14_inner_17 : decode b_X14_inner 17 = .ok (.aload_n 0, 1) := by decide +kernel
theorem d_X14_inner_18 : decode b_X14_inner 18 = .ok (.invokevirtual 539, 3) := by decide +kernel
theorem d_X14_inner_21 : decode b_X14_inner 21 = .ok (.return_, 1) := by decide +kernel
theorem d_X14_close_0 : decode b_X14_close 0 = .ok (.aload_n 0, 1) := by decide +kernel
theorem d_X14_close_1 : decode b_X14_close 1 = .ok (.getfield 340, 3) := by decide +kernel
theorem d_X14_close_4 : decode b_X14_close 4 = .ok (.ifCond .le 34, 3) := by decide +kernel
theorem d_X14_close_7 : decode b_X14_close 7 = .ok (.aload_n 0, 1) := by decide +kernel
theorem d_X14_close_8 : decode b_X14_close 8 = .ok (.getfield 129, 3) := by decide +kernel
theorem d_X14_close_11 : decode b_X14_close 11 = .ok (.aload_n 0, 1) := by decide +kernel
theorem d_X14_close_12 : decode b_X14_close 12 = .ok (.getfield 340, 3) := by decide +kernel
theorem d_X14_close_15 : decode b_X14_close 15 = .ok (.iconst 1, 1) := by decide +kernel
theorem d_X14_close_16 : decode b_X14_close 16 = .ok (.isub, 1) := by decide +kernel
theorem d_X14_close_17 : decode b_X14_close 17 = .ok (.iaload, 1) := by decide +kernel
theorem d_X14_close_18 : decode b_X14_close 18 = .ok (.aload_n 0, 1) := by decide +kernel
theorem d_X14_close_19 : decode b_X14_close 19 = .ok (.getfield 346, 3) := by decide +kernel
theorem d_X14_close_22 : decode b_X14_close 22 = .ok (.if_icmp .ne 16, 3) := by decide +kernel
theorem d_X14_close_25 : decode b_X14_close 25 = .ok (.aload_n 0, 1) := by decide +kernel
theorem d_X14_close_26 : decode b_X14_close 26 = .ok (.dup, 1) := by decide +kernel
theorem d_X14_close_27 : decode b_X14_close 27 = .ok (.getfield 340, 3) := by decide +kernel
theorem d_X14_close_30 : decode b_X14_close 30 = .ok (.iconst 1, 1) := by decide +kernel
theorem d_X14_close_31 : decode b_X14_close 31 = .ok (.isub, 1) := by decide +kernel
theorem d_X14_close_32 : decode b_X14_close 32 = .ok (.putfield 340, 3) := by decide +kernel
theorem d_X14_close_35 : decode b_X14_close 35 = .ok (.goto (-35), 3) := by decide +kernel
theorem d_X14_close_38 : decode b_X14_close 38 = .ok (.aload_n 0, 1) := by decide +kernel
theorem d_X14_close_39 : decode b_X14_close 39 = .ok (.dup, 1) := by decide +kernel
theorem d_X14_close_40 : decode b_X14_close 40 = .ok (.getfield 346, 3) := by decide +kernel
theorem d_X14_close_43 : decode b_X14_close 43 = .ok (.iconst 1, 1) := by decide +kernel
theorem d_X14_close_44 : decode b_X14_close 44 = .ok (.isub, 1) := by decide +kernel
theorem d_X14_close_45 : decode b_X14_close 45 = .ok (.putfield 346, 3) := by decide +kernel
theorem d_X14_close_48 : decode b_X14_close 48 = .ok (.return_, 1) := by decide +kernel
theorem d_X14_loop_0 : decode b_X14_loop 0 = .ok (.aload_n 0, 1) := by decide +kernel
theorem d_X14_loop_1 : decode b_X14_loop 1 = .ok (.getfield 558, 3) := by decide +kernel
theorem d_X14_loop_4 : decode b_X14_loop 4 = .ok (.istore 4, 2) := by decide +kernel
theorem d_X14_loop_6 : decode b_X14_loop 6 = .ok (.aload_n 0, 1) := by decide +kernel
theorem d_X14_loop_7 : decode b_X14_loop 7 = .ok (.getfield 576, 3) := by decide +kernel
theorem d_X14_loop_10 : decode b_X14_loop 10 = .ok (.istore 5, 2) := by decide +kernel
theorem d_X14_loop_12 : decode b_X14_loop 12 = .ok (.aload_n 0, 1) := by decide +kernel
theorem d_X14_loop_13 : decode b_X14_loop 13 = .ok (.iconst (-1), 1) := by decide +kernel
theorem d_X14_loop_14 : decode b_X14_loop 14 = .ok (.putfield 558, 3) := by decide +kernel
theorem d_X14_loop_17 : decode b_X14_loop 17 = .ok (.aload_n 0, 1) := by decide +kernel
theorem d_X14_loop_18 : decode b_X14_loop 18 = .ok (.iconst (-1), 1) := by decide +kernel
theorem d_X14_loop_19 : decode b_X14_loop 19 = .ok (.putfield 576, 3) := by decide +kernel
theorem d_X14_loop_22 : decode b_X14_loop 22 = .ok (.aload_n 0, 1) := by decide +kernel
theorem d_X14_loop_23 : decode b_X14_loop 23 = .ok (.dup, 1) := by decide +kernel
theorem d_X14_loop_24 : decode b_X14_loop 24 = .ok (.getfield 573, 3) := by decide +kernel
theorem d_X14_loop_27 : decode b_X14_loop 27 = .ok (.iconst 1, 1) := by decide +kernel
theorem d_X14_loop_28 : decode b_X14_loop 28 = .ok (.iadd, 1) := by decide +kernel
theorem d_X14_loop_29 : decode b_X14_loop 29 = .ok (.putfield 573, 3) := by decide +kernel
theorem d_X14_loop_32 : decode b_X14_loop 32 = .ok (.aload_n 0, 1) := by decide +kernel
theorem d_X14_loop_33 : decode b_X14_loop 33 = .ok (.bipush 18, 2) := by decide +kernel
theorem d_X14_loop_35 : decode b_X14_loop 35 = .ok (.aload_n 0, 1) := by decide +kernel
theorem d_X14_loop_36 : decode b_X14_loop 36 = .ok (.getfield 23, 3) := by decide +kernel
theorem d_X14_loop_39 : decode b_X14_loop 39 = .ok (.iload_n 2, 1) := by decide +kernel
theorem d_X14_loop_40 : decode b_X14_loop 40 = .ok (.iaload, 1) := by decide +kernel
theorem d_X14_loop_41 : decode b_X14_loop 41 = .ok (.invokevirtual 322, 3) := by decide +kernel
theorem d_X14_loop_44 : decode b_X14_loop 44 = .ok (.aload_n 0, 1) := by decide +kernel
theorem d_X14_loop_45 : decode b_X14_loop 45 = .ok (.iload_n 1, 1) := by decide +kernel
theorem d_X14_loop_46 : decode b_X14_loop 46 = .ok (.invokevirtual 549, 3) := by decide +kernel
theorem d_X14_loop_49 : decode b_X14_loop 49 = .ok (.aload_n 0, 1) := by decide +kernel
theorem d_X14_loop_50 : decode b_X14_loop 50 = .ok (.dup, 1) := by decide +kernel
theorem d_X14_loop_51 : decode b_X14_loop 51 = .ok (.getfield 573, 3) := by decide +kernel
theorem d_X14_loop_54 : decode b_X14_loop 54 = .ok (.iconst 1, 1) := by decide +kernel
theorem d_X14_loop_55 : decode b_X14_loop 55 = .ok (.isub, 1) := by decide +kernel
theorem d_X14_loop_56 : decode b_X14_loop 56 = .ok (.putfield 573, 3) := by decide +kernel
theorem d_X14_loop_59 : decode b_X14_loop 59 = .ok (.aload_n 0, 1) := by decide +kernel
theorem d_X14_loop_60 : decode b_X14_loop 60 = .ok (.aload_n 0, 1) := by decide +kernel
theorem d_X14_loop_61 : decode b_X14_loop 61 = .ok (.getfield 576, 3) := by decide +kernel
theorem d_X14_loop_64 : decode b_X14_loop 64 = .ok (.iload_n 3, 1) := by decide +kernel
theorem d_X14_loop_65 : decode b_X14_loop 65 = .ok (.ifCond .lt 7, 3) := by decide +kernel
theorem d_X14_loop_68 : decode b_X14_loop 68 = .ok (.iload_n 3, 1) := by decide +kernel
theorem d_X14_loop_69 : decode b_X14_loop 69 = .ok (.goto 7, 3) := by decide +kernel
theorem d_X14_loop_72 : decode b_X14_loop 72 = .ok (.aload_n 0, 1) := by decide +kernel
theorem d_X14_loop_73 : decode b_X14_loop 73 = .ok (.getfield 315, 3) := by decide +kernel
theorem d_X14_loop_76 : decode b_X14_loop 76 = .ok (.invokevirtual 564, 3) := by decide +kernel
theorem d_X14_loop_79 : decode b_X14_loop 79 = .ok (.aload_n 0, 1) := by decide +kernel
theorem d_X14_loop_80 : decode b_X14_loop 80 = .ok (.iload 5, 2) := by decide +kernel
theorem d_X14_loop_82 : decode b_X14_loop 82 = .ok (.putfield 576, 3) := by decide +kernel
theorem d_X14_loop_85 : decode b_X14_loop 85 = .ok (.aload_n 0, 1) := by decide +kernel
theorem d_X14_loop_86 : decode b_X14_loop 86 = .ok (.iload 4, 2) := by decide +kernel
theorem d_X14_loop_88 : decode b_X14_loop 88 = .ok (.putfield 561, 3) := by decide +kernel
theorem d_X14_loop_91 : decode b_X14_loop 91 = .ok (.return_, 1) := by decide +kernel
theorem d_X14_aimAll_0 : decode b_X14_aimAll 0 = .ok (.iload_n 1, 1) := by decide +kernel
theorem d_X14_aimAll_1 : decode b_X14_aimAll 1 = .ok (.istore_n 3, 1) := by decide +kernel
theorem d_X14_aimAll_2 : decode b_X14_aimAll 2 = .ok (.iload_n 3, 1) := by decide +kernel
theorem d_X14_aimAll_3 : decode b_X14_aimAll 3 = .ok (.ifCond .lt 24, 3) := by decide +kernel
theorem d_X14_aimAll_6 : decode b_X14_aimAll 6 = .ok (.aload_n 0, 1) := by decide +kernel
theorem d_X14_aimAll_7 : decode b_X14_aimAll 7 = .ok (.getfield 41, 3) := by decide +kernel
theorem d_X14_aimAll_10 : decode b_X14_aimAll 10 = .ok (.iload_n 3, 1) := by decide +kernel
theorem d_X14_aimAll_11 : decode b_X14_aimAll 11 = .ok (.iaload, 1) := by decide +kernel
theorem d_X14_aimAll_12 : decode b_X14_aimAll 12 = .ok (.istore 4, 2) := by decide +kernel
theorem d_X14_aimAll_14 : decode b_X14_aimAll 14 = .ok (.aload_n 0, 1) := by decide +kernel
theorem d_X14_aimAll_15 : decode b_X14_aimAll 15 = .ok (.getfield 41, 3) := by decide +kernel
theorem d_X14_aimAll_18 : decode b_X14_aimAll 18 = .ok (.iload_n 3, 1) := by decide +kernel
theorem d_X14_aimAll_19 : decode b_X14_aimAll 19 = .ok (.iload_n 2, 1) := by decide +kernel
theorem d_X14_aimAll_20 : decode b_X14_aimAll 20 = .ok (.iastore, 1) := by decide +kernel
theorem d_X14_aimAll_21 : decode b_X14_aimAll 21 = .ok (.iload 4, 2) := by decide +kernel
theorem d_X14_aimAll_23 : decode b_X14_aimAll 23 = .ok (.istore_n 3, 1) := by decide +kernel
theorem d_X14_aimAll_24 : decode b_X14_aimAll 24 = .ok (.goto (-22), 3) := by decide +kernel
theorem d_X14_aimAll_27 : decode b_X14_aimAll 27 = .ok (.return_, 1) := by decide +kernel
theorem d_X14_doStatement_0 : decode b_X14_doStatement 0 = .ok (.aload_n 0, 1) := by decide +kernel
theorem d_X14_doStatement_1 : decode b_X14_doStatement 1 = .ok (.dup, 1) := by decide +kernel
theorem d_X14_doStatement_2 : decode b_X14_doStatement 2 = .ok (.getfield 288, 3) := by decide +kernel
theorem d_X14_doStatement_5 : decode b_X14_doStatement 5 = .ok (.iconst 1, 1) := by decide +kernel
theorem d_X14_doStatement_6 : decode b_X14_doStatement 6 = .ok (.iadd, 1) := by decide +kernel
theorem d_X14_doStatement_7 : decode b_X14_doStatement 7 = .ok (.putfield 288, 3) := by decide +kernel
theorem d_X14_doStatement_10 : decode b_X14_doStatement 10 = .ok (.aload_n 0, 1) := by decide +kernel
theorem d_X14_doStatement_11 : decode b_X14_doStatement 11 = .ok (.getfield 315, 3) := by decide +kernel
theorem d_X14_doStatement_14 : decode b_X14_doStatement 14 = .ok (.istore_n 3, 1) := by decide +kernel
theorem d_X14_doStatement_15 : decode b_X14_doStatement 15 = .ok (.aload_n 0, 1) := by decide +kernel
theorem d_X14_doStatement_16 : decode b_X14_doStatement 16 = .ok (.iload_n 1, 1) := by decide +kernel
theorem d_X14_doStatement_17 : decode b_X14_doStatement 17 = .ok (.iload_n 2, 1) := by decide +kernel
theorem d_X14_doStatement_18 : decode b_X14_doStatement 18 = .ok (.iconst (-1), 1) := by decide +kernel
theorem d_X14_doStatement_19 : decode b_X14_doStatement 19 = .ok (.invokevirtual 555, 3) := by decide +kernel
theorem d_X14_doStatement_22 : decode b_X14_doStatement 22 = .ok (.aload_n 0, 1) := by decide +kernel
theorem d_X14_doStatement_23 : decode b_X14_doStatement 23 = .ok (.getfield 558, 3) := by decide +kernel
theorem d_X14_doStatement_26 : decode b_X14_doStatement 26 = .ok (.istore 4, 2) := by decide +kernel
theorem d_X14_doStatement_28 : decode b_X14_doStatement 28 = .ok (.aload_n 0, 1) := by decide +kernel
theorem d_X14_doStatement_29 : decode b_X14_doStatement 29 = .ok (.aload_n 0, 1) := by decide +kernel
theorem d_X14_doStatement_30 : decode b_X14_doStatement 30 = .ok (.getfield 561, 3) := by decide +kernel
theorem d_X14_doStatement_33 : decode b_X14_doStatement 33 = .ok (.putfield 558, 3) := by decide +kernel
theorem d_X14_doStatement_36 : decode b_X14_doStatement 36 = .ok (.aload_n 0, 1) := by decide +kernel
theorem d_X14_doStatement_37 : decode b_X14_doStatement 37 = .ok (.bipush 11, 2) := by decide +kernel
theorem d_X14_doStatement_39 : decode b_X14_doStatement 39 = .ok (.invokevirtual 552, 3) := by decide +kernel
theorem d_X14_doStatement_42 : decode b_X14_doStatement 42 = .ok (.ifCond .ne 8, 3) := by decide +kernel
theorem d_X14_doStatement_45 : decode b_X14_doStatement 45 = .ok (.aload_n 0, 1) := by decide +kernel
theorem d_X14_doStatement_46 : decode b_X14_doStatement 46 = .ok (.invokevirtual 311, 3) := by decide +kernel
theorem d_X14_doStatement_49 : decode b_X14_doStatement 49 = .ok (.athrow, 1) := by decide +kernel
theorem d_X14_doStatement_50 : decode b_X14_doStatement 50 = .ok (.aload_n 0, 1) := by decide +kernel
theorem d_X14_doStatement_51 : decode b_X14_doStatement 51 = .ok (.getfield 288, 3) := by decide +kernel
theorem d_X14_doStatement_54 : decode b_X14_doStatement 54 = .ok (.istore 5, 2) := by decide +kernel
theorem d_X14_doStatement_56 : decode b_X14_doStatement 56 = .ok (.aload_n 0, 1) := by decide +kernel
theorem d_X14_doStatement_57 : decode b_X14_doStatement 57 = .ok (.dup, 1) := by decide +kernel
theorem d_X14_doStatement_58 : decode b_X14_doStatement 58 = .ok (.getfield 288, 3) := by decide +kernel
theorem d_X14_doStatement_61 : decode b_X14_doStatement 61 = .ok (.iconst 1, 1) := by decide +kernel
theorem d_X14_doStatement_62 : decode b_X14_doStatement 62 = .ok (.iadd, 1) := by decide +kernel
theorem d_X14_doStatement_63 : decode b_X14_doStatement 63 = .ok (.putfield 288, 3) := by decide +kernel
theorem d_X14_doStatement_66 : decode b_X14_doStatement 66 = .ok (.aload_n 0, 1) := by decide +kernel
theorem d_X14_doStatement_67 : decode b_X14_doStatement 67 = .ok (.iload 5, 2) := by decide +kernel
theorem d_X14_doStatement_69 : decode b_X14_doStatement 69 = .ok (.invokevirtual 546, 3) := by decide +kernel
theorem d_X14_doStatement_72 : decode b_X14_doStatement 72 = .ok (.aload_n 0, 1) := by decide +kernel
theorem d_X14_doStatement_73 : decode b_X14_doStatement 73 = .ok (.bipush 27, 2) := by decide +kernel
theorem d_X14_doStatement_75 : decode b_X14_doStatement 75 = .ok (.invokevirtual 497, 3) := by decide +kernel
theorem d_X14_doStatement_78 : decode b_X14_doStatement 78 = .ok (.aload_n 0, 1) := by decide +kernel
theorem d_X14_doStatement_79 : decode b_X14_doStatement 79 = .ok (.bipush 17, 2) := by decide +kernel
theorem d_X14_doStatement_81 : decode b_X14_doStatement 81 = .ok (.iload_n 3, 1) := by decide +kernel
theorem d_X14_doStatement_82 : decode b_X14_doStatement 82 = .ok (.invokevirtual 322, 3) := by decide +kernel
theorem d_X14_doStatement_85 : decode b_X14_doStatement 85 = .ok (.aload_n 0, 1) := by decide +kernel
theorem d_X14_doStatement_86 : decode b_X14_doStatement 86 = .ok (.iload 4, 2) := by decide +kernel
theorem d_X14_doStatement_88 : decode b_X14_doStatement 88 = .ok (.aload_n 0, 1) := by decide +kernel
theorem d_X14_doStatement_89 : decode b_X14_doStatement 89 = .ok (.getfield 315, 3) := by decide +kernel
theorem d_X14_doStatement_92 : decode b_X14_doStatement 92 = .ok (.invokevirtual 564, 3) := by decide +kernel
theorem d_X14_doStatement_95 : decode b_X14_doStatement 95 = .ok (.return_, 1) := by decide +kernel
theorem d_X14_forStatement_0 : decode b_X14_forStatement 0 = .ok (.aload_n 0, 1) := by decide +kernel
theorem d_X14_forStatement_1 : decode b_X14_forStatement 1 = .ok (.dup, 1) := by decide +kernel
theorem d_X14_forStatement_2 : decode b_X14_forStatement 2 = .ok (.getfield 288, 3) := by decide +kernel
theorem d_X14_forStatement_5 : decode b_X14_forStatement 5 = .ok (.iconst 1, 1) := by decide +kernel
theorem d_X14_forStatement_6 : decode b_X14_forStatement 6 = .ok (.iadd, 1) := by decide +kernel
theorem d_X14_forStatement_7 : decode b_X14_forStatement 7 = .ok (.putfield 288, 3) := by decide +kernel
theorem d_X14_forStatement_10 : decode b_X14_forStatement 10 = .ok (.aload_n 0, 1) := by decide +kernel
theorem d_X14_forStatement_11 : decode b_X14_forStatement 11 = .ok (.bipush 20, 2) := by decide +kernel
theorem d_X14_forStatement_13 : decode b_X14_forStatement 13 = .ok (.invokevirtual 497, 3) := by decide +kernel
theorem d_X14_forStatement_16 : decode b_X14_forStatement 16 = .ok (.aload_n 0, 1) := by decide +kernel
theorem d_X14_forStatement_17 : decode b_X14_forStatement 17 = .ok (.bipush 27, 2) := by decide +kernel
theorem d_X14_forStatement_19 : decode b_X14_forStatement 19 = .ok (.invokevirtual 308, 3) := by decide +kernel
theorem d_X14_forStatement_22 : decode b_X14_forStatement 22 = .ok (.ifCond .ne 7, 3) := by decide +kernel
theorem d_X14_forStatement_25 : decode b_X14_forStatement 25 = .ok (.aload_n 0, 1) := by decide +kernel
theorem d_X14_forStatement_26 : decode b_X14_forStatement 26 = .ok (.invokevirtual 585, 3) := by decide +kernel
theorem d_X14_forStatement_29 : decode b_X14_forStatement 29 = .ok (.aload_n 0, 1) := by decide +kernel
theorem d_X14_forStatement_30 : decode b_X14_forStatement 30 = .ok (.bipush 27, 2) := by decide +kernel
theorem d_X14_forStatement_32 : decode b_X14_forStatement 32 = .ok (.invokevirtual 497, 3) := by decide +kernel
theorem d_X14_forStatement_35 : decode b_X14_forStatement 35 = .ok (.aload_n 0, 1) := by decide +kernel
theorem d_X14_forStatement_36 : decode b_X14_forStatement 36 = .ok (.getfield 315, 3) := by decide +kernel
theorem d_X14_forStatement_39 : decode b_X14_forStatement 39 = .ok (.istore_n 3, 1) := by decide +kernel
theorem d_X14_forStatement_40 : decode b_X14_forStatement 40 = .ok (.iconst (-1), 1) := by decide +kernel
theorem d_X14_forStatement_41 : decode b_X14_forStatement 41 = .ok (.istore 4, 2) := by decide +kernel
theorem d_X14_forStatement_43 : decode b_X14_forStatement 43 = .ok (.aload_n 0, 1) := by decide +kernel
theorem d_X14_forStatement_44 : decode b_X14_forStatement 44 = .ok (.bipush 27, 2) := by decide +kernel
theorem d_X14_forStatement_46 : decode b_X14_forStatement 46 = .ok (.invokevirtual 308, 3) := by decide +kernel
theorem d_X14_forStatement_49 : decode b_X14_forStatement 49 = .ok (.ifCond .ne 34, 3) := by decide +kernel
theorem d_X14_forStatement_52 : decode b_X14_forStatement 52 = .ok (.aload_n 0, 1) := by decide +kernel
theorem d_X14_forStatement_53 : decode b_X14_forStatement 53 = .ok (.iconst 1, 1) := by decide +kernel
theorem d_X14_forStatement_54 : decode b_X14_forStatement 54 = .ok (.invokevirtual 395, 3) := by decide +kernel
theorem d_X14_forStatement_57 : decode b_X14_forStatement 57 = .ok (.astore 5, 2) := by decide +kernel
theorem d_X14_forStatement_59 : decode b_X14_forStatement 59 = .ok (.aload_n 0, 1) := by decide +kernel
theorem d_X14_forStatement_60 : decode b_X14_forStatement 60 = .ok (.aload 5, 2) := by decide +kernel
theorem d_X14_forStatement_62 : decode b_X14_forStatement 62 = .ok (.invokevirtual 398, 3) := by decide +kernel
theorem d_X14_forStatement_65 : decode b_X14_forStatement 65 = .ok (.aload_n 0, 1) := by decide +kernel
theorem d_X14_forStatement_66 : decode b_X14_forStatement 66 = .ok (.aload 5, 2) := by decide +kernel
theorem d_X14_forStatement_68 : decode b_X14_forStatement 68 = .ok (.invokestatic 431, 3) := by decide +kernel
theorem d_X14_forStatement_71 : decode b_X14_forStatement 71 = .ok (.iload_n 2, 1) := by decide +kernel
theorem d_X14_forStatement_72 : decode b_X14_forStatement 72 = .ok (.invokevirtual 410, 3) := by decide +kernel
theorem d_X14_forStatement_75 : decode b_X14_forStatement 75 = .ok (.aload_n 0, 1) := by decide +kernel
theorem d_X14_forStatement_76 : decode b_X14_forStatement 76 = .ok (.bipush 16, 2) := by decide +kernel
theorem d_X14_forStatement_78 : decode b_X14_forStatement 78 = .ok (.invokevirtual 425, 3) := by decide +kernel
theorem d_X14_forStatement_81 : decode b_X14_forStatement 81 = .ok (.istore 4, 2) := by decide +kernel
theorem d_X14_forStatement_83 : decode b_X14_forStatement 83 = .ok (.aload_n 0, 1) := by decide +kernel
theorem d_X14_forStatement_84 : decode b_X14_forStatement 84 = .ok (.bipush 27, 2) := by decide +kernel
theorem d_X14_forStatement_86 : decode b_X14_forStatement 86 = .ok (.invokevirtual 497, 3) := by decide +kernel
theorem d_X14_forStatement_89 : decode b_X14_forStatement 89 = .ok (.aload_n 0, 1) := by decide +kernel
theorem d_X14_forStatement_90 : decode b_X14_forStatement 90 = .ok (.bipush 15, 2) := by decide +kernel
theorem d_X14_forStatement_92 : decode b_X14_forStatement 92 = .ok (.invokevirtual 425, 3) := by decide +kernel
theorem d_X14_forStatement_95 : decode b_X14_forStatement 95 = .ok (.istore 5, 2) := by decide +kernel
theorem d_X14_forStatement_97 : decode b_X14_forStatement 97 = .ok (.aload_n 0, 1) := by decide +kernel
theorem d_X14_forStatement_98 : decode b_X14_forStatement 98 = .ok (.getfield 315, 3) := by decide +kernel
theorem d_X14_forStatement_101 : decode b_X14_forStatement 101 = .ok (.istore 6, 2) := by decide +kernel
theorem d_X14_forStatement_103 : decode b_X14_forStatement 103 = .ok (.aload_n 0, 1) := by decide +kernel
theorem d_X14_forStatement_104 : decode b_X14_forStatement 104 = .ok (.bipush 21, 2) := by decide +kernel
theorem d_X14_forStatement_106 : decode b_X14_forStatement 106 = .ok (.invokevirtual 308, 3) := by decide +kernel
theorem d_X14_forStatement_109 : decode b_X14_forStatement 109 = .ok (.ifCond .ne 7, 3) := by decide +kernel
theorem d_X14_forStatement_112 : decode b_X14_forStatement 112 = .ok (.aload_n 0, 1) := by decide +kernel
theorem d_X14_forStatement_113 : decode b_X14_forStatement 113 = .ok (.invokevirtual 585, 3) := by decide +kernel
theorem d_X14_forStatement_116 : decode b_X14_forStatement 116 = .ok (.aload_n 0, 1) := by decide +kernel
theorem d_X14_forStatement_117 : decode b_X14_forStatement 117 = .ok (.bipush 15, 2) := by decide +kernel
theorem d_X14_forStatement_119 : decode b_X14_forStatement 119 = .ok (.iload_n 3, 1) := by decide +kernel
theorem d_X14_forStatement_120 : decode b_X14_forStatement 120 = .ok (.invokevirtual 322, 3) := by decide +kernel
theorem d_X14_forStatement_123 : decode b_X14_forStatement 123 = .ok (.aload_n 0, 1) := by decide +kernel
theorem d_X14_forStatement_124 : decode b_X14_forStatement 124 = .ok (.bipush 21, 2) := by decide +kernel
theorem d_X14_forStatement_126 : decode b_X14_forStatement 126 = .ok (.invokevirtual 497, 3) := by decide +kernel
theorem d_X14_forStatement_129 : decode b_X14_forStatement 129 = .ok (.aload_n 0, 1) := by decide +kernel
theorem d_X14_forStatement_130 : decode b_X14_forStatement 130 = .ok (.iload 5, 2) := by decide +kernel
theorem d_X14_forStatement_132 : decode b_X14_forStatement 132 = .ok (.invokevirtual 428, 3) := by decide +kernel
theorem d_X14_forStatement_135 : decode b_X14_forStatement 135 = .ok (.aload_n 0, 1) := by decide +kernel
theorem d_X14_forStatement_136 : decode b_X14_forStatement 136 = .ok (.iload_n 1, 1) := by decide +kernel
theorem d_X14_forStatement_137 : decode b_X14_forStatement 137 = .ok (.iload_n 2, 1) := by decide +kernel
theorem d_X14_forStatement_138 : decode b_X14_forStatement 138 = .ok (.iload 6, 2) := by decide +kernel
theorem d_X14_forStatement_140 : decode b_X14_forStatement 140 = .ok (.invokevirtual 555, 3) := by decide +kernel
theorem d_X14_forStatement_143 : decode b_X14_forStatement 143 = .ok (.aload_n 0, 1) := by decide +kernel
theorem d_X14_forStatement_144 : decode b_X14_forStatement 144 = .ok (.getfield 558, 3) := by decide +kernel
theorem d_X14_forStatement_147 : decode b_X14_forStatement 147 = .ok (.istore 7, 2) := by decide +kernel
theorem d_X14_forStatement_149 : decode b_X14_forStatement 149 = .ok (.aload_n 0, 1) := by decide +kernel
theorem d_X14_forStatement_150 : decode b_X14_forStatement 150 = .ok (.aload_n 0, 1) := by decide +kernel
theorem d_X14_forStatement_151 : decode b_X14_forStatement 151 = .ok (.getfield 561, 3) := by decide +kernel
theorem d_X14_forStatement_154 : decode b_X14_forStatement 154 = .ok (.putfield 558, 3) := by decide +kernel
theorem d_X14_forStatement_157 : decode b_X14_forStatement 157 = .ok (.aload_n 0, 1) := by decide +kernel
theorem d_X14_forStatement_158 : decode b_X14_forStatement 158 = .ok (.bipush 15, 2) := by decide +kernel
theorem d_X14_forStatement_160 : decode b_X14_forStatement 160 = .ok (.iload 6, 2) := by decide +kernel
theorem d_X14_forStatement_162 : decode b_X14_forStatement 162 = .ok (.invokevirtual 322, 3) := by decide +kernel
theorem d_X14_forStatement_165 : decode b_X14_forStatement 165 = .ok (.iload 4, 2) := by decide +kernel
theorem d_X14_forStatement_167 : decode b_X14_forStatement 167 = .ok (.ifCond .lt 9, 3) := by decide +kernel
theorem d_X14_forStatement_170 : decode b_X14_forStatement 170 = .ok (.aload_n 0, 1) := by decide +kernel
theorem d_X14_forStatement_171 : decode b_X14_forStatement 171 = .ok (.iload 4, 2) := by decide +kernel
theorem d_X14_forStatement_173 : decode b_X14_forStatement 173 = .ok (.invokevirtual 428, 3) := by decide +kernel
theorem d_X14_forStatement_176 : decode b_X14_forStatement 176 = .ok (.aload_n 0, 1) := by decide +kernel
theorem d_X14_forStatement_177 : decode b_X14_forStatement 177 = .ok (.iload 7, 2) := by decide +kernel
theorem d_X14_forStatement_179 : decode b_X14_forStatement 179 = .ok (.aload_n 0, 1) := by decide +kernel
theorem d_X14_forStatement_180 : decode b_X14_forStatement 180 = .ok (.getfield 315, 3) := by decide +kernel
theorem d_X14_forStatement_183 : decode b_X14_forStatement 183 = .ok (.invokevirtual 564, 3) := by decide +kernel
theorem d_X14_forStatement_186 : decode b_X14_forStatement 186 = .ok (.return_, 1) := by decide +kernel
theorem d_X14_plain_0 : decode b_X14_plain 0 = .ok (.aload_n 0, 1) := by decide +kernel
theorem d_X14_plain_1 : decode b_X14_plain 1 = .ok (.iconst 1, 1) := by decide +kernel
theorem d_X14_plain_2 : decode b_X14_plain 2 = .ok (.invokevirtual 395, 3) := by decide +kernel
theorem d_X14_plain_5 : decode b_X14_plain 5 = .ok (.astore_n 1, 1) := by decide +kernel
theorem d_X14_plain_6 : decode b_X14_plain 6 = .ok (.aload_n 0, 1) := by decide +kernel
theorem d_X14_plain_7 : decode b_X14_plain 7 = .ok (.aload_n 1, 1) := by decide +kernel
theorem d_X14_plain_8 : decode b_X14_plain 8 = .ok (.iconst 0, 1) := by decide +kernel
theorem d_X14_plain_9 : decode b_X14_plain 9 = .ok (.invokevirtual 533, 3) := by decide +kernel
theorem d_X14_plain_12 : decode b_X14_plain 12 = .ok (.return_, 1) := by decide +kernel
theorem d_X14_read_2_0 : decode b_X14_read_2 0 = .ok (.aload_n 1, 1) := by decide +kernel
theorem d_X14_read_2_1 : decode b_X14_read_2 1 = .ok (.getfield 352, 3) := by decide +kernel
theorem d_X14_read_2_4 : decode b_X14_read_2 4 = .ok (.iconst (-1), 1) := by decide +kernel
theorem d_X14_read_2_5 : decode b_X14_read_2 5 = .ok (.if_icmp .ne 4, 3) := by decide +kernel
theorem d_X14_read_2_8 : decode b_X14_read_2 8 = .ok (.return_, 1) := by decide +kernel
theorem d_X14_read_2_9 : decode b_X14_read_2 9 = .ok (.aload_n 0, 1) := by decide +kernel
theorem d_X14_read_2_10 : decode b_X14_read_2 10 = .ok (.aload_n 1, 1) := by decide +kernel
theorem d_X14_read_2_11 : decode b_X14_read_2 11 = .ok (.invokevirtual 398, 3) := by decide +kernel
theorem d_X14_read_2_14 : decode b_X14_read_2 14 = .ok (.iload_n 2, 1) := by decide +kernel
theorem d_X14_read_2_15 : decode b_X14_read_2 15 = .ok (.ifCond .ne 9, 3) := by decide +kernel
theorem d_X14_read_2_18 : decode b_X14_read_2 18 = .ok (.aload_n 0, 1) := by decide +kernel
theorem d_X14_read_2_19 : decode b_X14_read_2 19 = .ok (.bipush 10, 2) := by decide +kernel
theorem d_X14_read_2_21 : decode b_X14_read_2 21 = .ok (.invokevirtual 318, 3) := by decide +kernel
theorem d_X14_read_2_24 : decode b_X14_read_2 24 = .ok (.return_, 1) := by decide +kernel
theorem d_X14_returnStatement_0 : decode b_X14_returnStatement 0 = .ok (.aload_n 0, 1) := by decide +kernel
theorem d_X14_returnStatement_1 : decode b_X14_returnStatement 1 = .ok (.dup, 1) := by decide +kernel
theorem d_X14_returnStatement_2 : decode b_X14_returnStatement 2 = .ok (.getfield 288, 3) := by decide +kernel
theorem d_X14_returnStatement_5 : decode b_X14_returnStatement 5 = .ok (.iconst 1, 1) := by decide +kernel
theorem d_X14_returnStatement_6 : decode b_X14_returnStatement 6 = .ok (.iadd, 1) := by decide +kernel
theorem d_X14_returnStatement_7 : decode b_X14_returnStatement 7 = .ok (.putfield 288, 3) := by decide +kernel
theorem d_X14_returnStatement_10 : decode b_X14_returnStatement 10 = .ok (.aload_n 0, 1) := by decide +kernel
theorem d_X14_returnStatement_11 : decode b_X14_returnStatement 11 = .ok (.bipush 27, 2) := by decide +kernel
theorem d_X14_returnStatement_13 : decode b_X14_returnStatement 13 = .ok (.invokevirtual 308, 3) := by decide +kernel
theorem d_X14_returnStatement_16 : decode b_X14_returnStatement 16 = .ok (.ifCond .eq 21, 3) := by decide +kernel
theorem d_X14_returnStatement_19 : decode b_X14_returnStatement 19 = .ok (.aload_n 0, 1) := by decide +kernel
theorem d_X14_returnStatement_20 : decode b_X14_returnStatement 20 = .ok (.aload_n 0, 1) := by decide +kernel
theorem d_X14_returnStatement_21 : decode b_X14_returnStatement 21 = .ok (.getfield 588, 3) := by decide +kernel
theorem d_X14_returnStatement_24 : decode b_X14_returnStatement 24 = .ok (.iload_n 1, 1) := by decide +kernel
theorem d_X14_returnStatement_25 : decode b_X14_returnStatement 25 = .ok (.invokevirtual 410, 3) := by decide +kernel
theorem d_X14_returnStatement_28 : decode b_X14_returnStatement 28 = .ok (.aload_n 0, 1) := by decide +kernel
theorem d_X14_returnStatement_29 : decode b_X14_returnStatement 29 = .ok (.bipush 20, 2) := by decide +kernel
theorem d_X14_returnStatement_31 : decode b_X14_returnStatement 31 = .ok (.invokevirtual 318, 3) := by decide +kernel
theorem d_X14_returnStatement_34 : decode b_X14_returnStatement 34 = .ok (.goto 48, 3) := by decide +kernel
theorem d_X14_returnStatement_37 : decode b_X14_returnStatement 37 = .ok (.aload_n 0, 1) := by decide +kernel
theorem d_X14_returnStatement_38 : decode b_X14_returnStatement 38 = .ok (.iconst 1, 1) := by decide +kernel
theorem d_X14_returnStatement_39 : decode b_X14_returnStatement 39 = .ok (.invokevirtual 395, 3) := by decide +kernel
theorem d_X14_returnStatement_42 : decode b_X14_returnStatement 42 = .ok (.astore_n 2, 1) := by decide +kernel
theorem d_X14_returnStatement_43 : decode b_X14_returnStatement 43 = .ok (.aload_n 0, 1) := by decide +kernel
theorem d_X14_returnStatement_44 : decode b_X14_returnStatement 44 = .ok (.aload_n 2, 1) := by decide +kernel
theorem d_X14_returnStatement_45 : decode b_X14_returnStatement 45 = .ok (.invokevirtual 398, 3) := by decide +kernel
theorem d_X14_returnStatement_48 : decode b_X14_returnStatement 48 = .ok (.aload_n 0, 1) := by decide +kernel
theorem d_X14_returnStatement_49 : decode b_X14_returnStatement 49 = .ok (.aload_n 0, 1) := by decide +kernel
theorem d_X14_returnStatement_50 : decode b_X14_returnStatement 50 = .ok (.getfield 588, 3) := by decide +kernel
theorem d_X14_returnStatement_53 : decode b_X14_returnStatement 53 = .ok (.ifCond .ne 18, 3) := by decide +kernel
theorem d_X14_returnStatement_56 : decode b_X14_returnStatement 56 = .ok (.aload_n 2, 1) := by decide +kernel
theorem d_X14_returnStatement_57 : decode b_X14_returnStatement 57 = .ok (.aload_n 0, 1) := by decide +kernel
theorem d_X14_returnStatement_58 : decode b_X14_returnStatement 58 = .ok (.getfield 591, 3) := by decide +kernel
theorem d_X14_returnStatement_61 : decode b_X14_returnStatement 61 = .ok (.invokestatic 402, 3) := by decide +kernel
theorem d_X14_returnStatement_64 : decode b_X14_returnStatement 64 = .ok (.ifCond .eq 7, 3) := by decide +kernel
theorem d_X14_returnStatement_67 : decode b_X14_returnStatement 67 = .ok (.iconst 1, 1) := by decide +kernel
theorem d_X14_returnStatement_68 : decode b_X14_returnStatement 68 = .ok (.goto 4, 3) := by decide +kernel
theorem d_X14_returnStatement_71 : decode b_X14_returnStatement 71 = .ok (.iconst 0, 1) := by decide +kernel
theorem d_X14_returnStatement_72 : decode b_X14_returnStatement 72 = .ok (.iload_n 1, 1) := by decide +kernel
theorem d_X14_returnStatement_73 : decode b_X14_returnStatement 73 = .ok (.invokevirtual 410, 3) := by decide +kernel
theorem d_X14_returnStatement_76 : decode b_X14_returnStatement 76 = .ok (.aload_n 0, 1) := by decide +kernel
theorem d_X14_returnStatement_77 : decode b_X14_returnStatement 77 = .ok (.bipush 21, 2) := by decide +kernel
theorem d_X14_returnStatement_79 : decode b_X14_returnStatement 79 = .ok (.invokevirtual 318, 3) := by decide +kernel
theorem d_X14_returnStatement_82 : decode b_X14_returnStatement 82 = .ok (.aload_n 0, 1) := by decide +kernel
theorem d_X14_returnStatement_83 : decode b_X14_returnStatement 83 = .ok (.bipush 27, 2) := by decide +kernel
theorem d_X14_returnStatement_85 : decode b_X14_returnStatement 85 = .ok (.invokevirtual 497, 3) := by decide +kernel
theorem d_X14_returnStatement_88 : decode b_X14_returnStatement 88 = .ok (.return_, 1) := by decide +kernel
theorem d_X14_block_0 : decode b_X14_block 0 = .ok (.aload_n 0, 1) := by decide +kernel
theorem d_X14_block_1 : decode b_X14_block 1 = .ok (.bipush 22, 2) := by decide +kernel
theorem d_X14_block_3 : decode b_X14_block 3 = .ok (.invokevirtual 497, 3) := by decide +kernel
theorem d_X14_block_6 : decode b_X14_block 6 = .ok (.aload_n 0, 1) := by decide +kernel
theorem d_X14_block_7 : decode b_X14_block 7 = .ok (.dup, 1) := by decide +kernel
theorem d_X14_block_8 : decode b_X14_block 8 = .ok (.getfield 346, 3) := by decide +kernel
theorem d_X14_block_11 : decode b_X14_block 11 = .ok (.iconst 1, 1) := by decide +kernel
theorem d_X14_block_12 : decode b_X14_block 12 = .ok (.iadd, 1) := by decide +kernel
theorem d_X14_block_13 : decode b_X14_block 13 = .ok (.putfield 346, 3) := by decide +kernel
theorem d_X14_block_16 : decode b_X14_block 16 = .ok (.aload_n 0, 1) := by decide +kernel
theorem d_X14_block_17 : decode b_X14_block 17 = .ok (.bipush 23, 2) := by decide +kernel
theorem d_X14_block_19 : decode b_X14_block 19 = .ok (.invokevirtual 308, 3) := by decide +kernel
theorem d_X14_block_22 : decode b_X14_block 22 = .ok (.ifCond .ne 13, 3) := by decide +kernel
theorem d_X14_block_25 : decode b_X14_block 25 = .ok (.aload_n 0, 1) := by decide +kernel
theorem d_X14_block_26 : decode b_X14_block 26 = .ok (.iload_n 1, 1) := by decide +kernel
theorem d_X14_block_27 : decode b_X14_block 27 = .ok (.iconst 1, 1) := by decide +kernel
theorem d_X14_block_28 : decode b_X14_block 28 = .ok (.iadd, 1) := by decide +kernel
theorem d_X14_block_29 : decode b_X14_block 29 = .ok (.invokevirtual 536, 3) := by decide +kernel
theorem d_X14_block_32 : decode b_X14_block 32 = .ok (.goto (-16), 3) := by decide +kernel
theorem d_X14_block_35 : decode b_X14_block 35 = .ok (.aload_n 0, 1) := by decide +kernel
theorem d_X14_block_36 : decode b_X14_block 36 = .ok (.dup, 1) := by decide +kernel
theorem d_X14_block_37 : decode b_X14_block 37 = .ok (.getfield 288, 3) := by decide +kernel
theorem d_X14_block_40 : decode b_X14_block 40 = .ok (.iconst 1, 1) := by decide +kernel
theorem d_X14_block_41 : decode b_X14_block 41 = .ok (.iadd, 1) := by decide +kernel
theorem d_X14_block_42 : decode b_X14_block 42 = .ok (.putfield 288, 3) := by decide +kernel
theorem d_X14_block_45 : decode b_X14_block 45 = .ok (.aload_n 0, 1) := by decide +kernel
theorem d_X14_block_46 : decode b_X14_block 46 = .ok (.invokevirtual 539, 3) := by decide +kernel
theorem d_X14_block_49 : decode b_X14_block 49 = .ok (.return_, 1) := by decide +kernel
theorem d_X14_bodiless_0 : decode b_X14_bodiless 0 = .ok (.iconst (-1), 1) := by decide +kernel
theorem d_X14_bodiless_1 : decode b_X14_bodiless 1 = .ok (.istore_n 1, 1) := by decide +kernel
theorem d_X14_bodiless_2 : decode b_X14_bodiless 2 = .ok (.aload_n 0, 1) := by decide +kernel
theorem d_X14_bodiless_3 : decode b_X14_bodiless 3 = .ok (.getfield 86, 3) := by decide +kernel
theorem d_X14_bodiless_6 : decode b_X14_bodiless 6 = .ok (.aload_n 0, 1) := by decide +kernel
theorem d_X14_bodiless_7 : decode b_X14_bodiless 7 = .ok (.getfield 327, 3) := by decide +kernel
theorem d_X14_bodiless_10 : decode b_X14_bodiless 10 = .ok (.iaload, 1) := by decide +kernel
theorem d_X14_bodiless_11 : decode b_X14_bodiless 11 = .ok (.istore_n 2, 1) := by decide +kernel
theorem d_X14_bodiless_12 : decode b_X14_bodiless 12 = .ok (.iload_n 2, 1) := by decide +kernel
theorem d_X14_bodiless_13 : decode b_X14_bodiless 13 = .ok (.aload_n 0, 1) := by decide +kernel
theorem d_X14_bodiless_14 : decode b_X14_bodiless 14 = .ok (.getfield 330, 3) := by decide +kernel
theorem d_X14_bodiless_17 : decode b_X14_bodiless 17 = .ok (.if_icmp .ge 69, 3) := by decide +kernel
theorem d_X14_bodiless_20 : decode b_X14_bodiless 20 = .ok (.aload_n 0, 1) := by decide +kernel
theorem d_X14_bodiless_21 : decode b_X14_bodiless 21 = .ok (.getfield 83, 3) := by decide +kernel
theorem d_X14_bodiless_24 : decode b_X14_bodiless 24 = .ok (.iload_n 2, 1) := by decide +kernel
theorem d_X14_bodiless_25 : decode b_X14_bodiless 25 = .ok (.aload_n 0, 1) := by decide +kernel
theorem d_X14_bodiless_26 : decode b_X14_bodiless 26 = .ok (.getfield 86, 3) := by decide +kernel
theorem d_X14_bodiless_29 : decode b_X14_bodiless 29 = .ok (.aload_n 0, 1) := by decide +kernel
theorem d_X14_bodiless_30 : decode b_X14_bodiless 30 = .ok (.getfield 327, 3) := by decide +kernel
theorem d_X14_bodiless_33 : decode b_X14_bodiless 33 = .ok (.iaload, 1) := by decide +kernel
theorem d_X14_bodiless_34 : decode b_X14_bodiless 34 = .ok (.isub, 1) := by decide +kernel
theorem d_X14_bodiless_35 : decode b_X14_bodiless 35 = .ok (.iaload, 1) := by decide +kernel
theorem d_X14_bodiless_36 : decode b_X14_bodiless 36 = .ok (.istore_n 3, 1) := by decide +kernel
theorem d_X14_bodiless_37 : decode b_X14_bodiless 37 = .ok (.aload_n 0, 1) := by decide +kernel
theorem d_X14_bodiless_38 : decode b_X14_bodiless 38 = .ok (.getfield 44, 3) := by decide +kernel
theorem d_X14_bodiless_41 : decode b_X14_bodiless 41 = .ok (.iload_n 2, 1) := by decide +kernel
theorem d_X14_bodiless_42 : decode b_X14_bodiless 42 = .ok (.iaload, 1) := by decide +kernel
theorem d_X14_bodiless_43 : decode b_X14_bodiless 43 = .ok (.iconst 2, 1) := by decide +kernel
theorem d_X14_bodiless_44 : decode b_X14_bodiless 44 = .ok (.if_icmp .ne 36, 3) := by decide +kernel
theorem d_X14_bodiless_47 : decode b_X14_bodiless 47 = .ok (.aload_n 0, 1) := by decide +kernel
theorem d_X14_bodiless_48 : decode b_X14_bodiless 48 = .ok (.getfield 53, 3) := by decide +kernel
theorem d_X14_bodiless_51 : decode b_X14_bodiless 51 = .ok (.iload_n 2, 1) := by decide +kernel
theorem d_X14_bodiless_52 : decode b_X14_bodiless 52 = .ok (.baload, 1) := by decide +kernel
theorem d_X14_bodiless_53 : decode b_X14_bodiless 53 = .ok (.ifCond .eq 27, 3) := by decide +kernel
theorem d_X14_bodiless_56 : decode b_X14_bodiless 56 = .ok (.aload_n 0, 1) := by decide +kernel
theorem d_X14_bodiless_57 : decode b_X14_bodiless 57 = .ok (.getfield 57, 3) := by decide +kernel
theorem d_X14_bodiless_60 : decode b_X14_bodiless 60 = .ok (.iload_n 2, 1) := by decide +kernel
theorem d_X14_bodiless_61 : decode b_X14_bodiless 61 = .ok (.baload, 1) := by decide +kernel
theorem d_X14_bodiless_62 : decode b_X14_bodiless 62 = .ok (.ifCond .ne 18, 3) := by decide +kernel
theorem d_X14_bodiless_65 : decode b_X14_bodiless 65 = .ok (.iload_n 3, 1) := by decide +kernel
theorem d_X14_bodiless_66 : decode b_X14_bodiless 66 = .ok (.ifCond .lt 14, 3) := by decide +kernel
theorem d_X14_bodiless_69 : decode b_X14_bodiless 69 = .ok (.iload_n 1, 1) := by decide +kernel
theorem d_X14_bodiless_70 : decode b_X14_bodiless 70 = .ok (.ifCond .lt 8, 3) := by decide +kernel
theorem d_X14_bodiless_73 : decode b_X14_bodiless 73 = .ok (.iload_n 3, 1) := by decide +kernel
theorem d_X14_bodiless_74 : decode b_X14_bodiless 74 = .ok (.iload_n 1, 1) := by decide +kernel
theorem d_X14_bodiless_75 : decode b_X14_bodiless 75 = .ok (.if_icmp .ge 5, 3) := by decide +kernel
theorem d_X14_bodiless_78 : decode b_X14_bodiless 78 = .ok (.iload_n 3, 1) := by decide +kernel
theorem d_X14_bodiless_79 : decode b_X14_bodiless 79 = .ok (.istore_n 1, 1) := by decide +kernel
theorem d_X14_bodiless_80 : decode b_X14_bodiless 80 = .ok (.iinc 2 1, 3) := by decide +kernel
theorem d_X14_bodiless_83 : decode b_X14_bodiless 83 = .ok (.goto (-71), 3) := by decide +kernel
theorem d_X14_bodiless_86 : decode b_X14_bodiless 86 = .ok (.iload_n 1, 1) := by decide +kernel
theorem d_X14_bodiless_87 : decode b_X14_bodiless 87 = .ok (.ifCond .lt 9, 3) := by decide +kernel
theorem d_X14_bodiless_90 : decode b_X14_bodiless 90 = .ok (.aload_n 0, 1) := by decide +kernel
theorem d_X14_bodiless_91 : decode b_X14_bodiless 91 = .ok (.iconst 2, 1) := by decide +kernel
theorem d_X14_bodiless_92 : decode b_X14_bodiless 92 = .ok (.iload_n 1, 1) := by decide +kernel
theorem d_X14_bodiless_93 : decode b_X14_bodiless 93 = .ok (.invokevirtual 304, 3) := by decide +kernel
theorem d_X14_bodiless_96 : decode b_X14_bodiless 96 = .ok (.return_, 1) := by decide +kernel
theorem d_X14_place_0 : decode b_X14_place 0 = .ok (.aload_n 0, 1) := by decide +kernel
theorem d_X14_place_1 : decode b_X14_place 1 = .ok (.getfield 36, 3) := by decide +kernel
theorem d_X14_place_4 : decode b_X14_place 4 = .ok (.ireturn, 1) := by decide +kernel
theorem d_X14_objects_0 : decode b_X14_objects 0 = .ok (.aload_n 0, 1) := by decide +kernel
theorem d_X14_objects_1 : decode b_X14_objects 1 = .ok (.getfield 327, 3) := by decide +kernel
theorem d_X14_objects_4 : decode b_X14_objects 4 = .ok (.ireturn, 1) := by decide +kernel
theorem d_X14_count_0 : decode b_X14_count 0 = .ok (.aload_n 0, 1) := by decide +kernel
theorem d_X14_count_1 : decode b_X14_count 1 = .ok (.iload_n 1, 1) := by decide +kernel
theorem d_X14_count_2 : decode b_X14_count 2 = .ok (.invokevirtual 680, 3) := by decide +kernel
theorem d_X14_count_5 : decode b_X14_count 5 = .ok (.ifCond .ne 7, 3) := by decide +kernel
theorem d_X14_count_8 : decode b_X14_count 8 = .ok (.iconst (-1), 1) := by decide +kernel
theorem d_X14_count_9 : decode b_X14_count 9 = .ok (.goto 32, 3) := by decide +kernel
theorem d_X14_count_12 : decode b_X14_count 12 = .ok (.iload_n 2, 1) := by decide +kernel
theorem d_X14_count_13 : decode b_X14_count 13 = .ok (.ifCond .ne 11, 3) := by decide +kernel
theorem d_X14_count_16 : decode b_X14_count 16 = .ok (.aload_n 0, 1) := by decide +kernel
theorem d_X14_count_17 : decode b_X14_count 17 = .ok (.iload_n 1, 1) := by decide +kernel
theorem d_X14_count_18 : decode b_X14_count 18 = .ok (.invokevirtual 683, 3) := by decide +kernel
theorem d_X14_count_21 : decode b_X14_count 21 = .ok (.goto 20, 3) := by decide +kernel
theorem d_X14_count_24 : decode b_X14_count 24 = .ok (.iload_n 2, 1) := by decide +kernel
theorem d_X14_count_25 : decode b_X14_count 25 = .ok (.iconst 1, 1) := by decide +kernel
theorem d_X14_count_26 : decode b_X14_count 26 = .ok (.if_icmp .ne 14, 3) := by decide +kernel
theorem d_X14_count_29 : decode b_X14_count 29 = .ok (.aload_n 0, 1) := by decide +kernel
theorem d_X14_count_30 : decode b_X14_count 30 = .ok (.getfield 89, 3) := by decide +kernel
theorem d_X14_count_33 : decode b_X14_count 33 = .ok (.iload_n 1, 1) := by decide +kernel
theorem d_X14_count_34 : decode b_X14_count 34 = .ok (.iconst 1, 1) := by decide +kernel
theorem d_X14_count_35 : decode b_X14_count 35 = .ok (.isub, 1) := by decide +kernel
theorem d_X14_count_36 : decode b_X14_count 36 = .ok (.iaload, 1) := by decide +kernel
theorem d_X14_count_37 : decode b_X14_count 37 = .ok (.goto 4, 3) := by decide +kernel
theorem d_X14_count_40 : decode b_X14_count 40 = .ok (.iconst (-1), 1) := by decide +kernel
theorem d_X14_count_41 : decode b_X14_count 41 = .ok (.ireturn, 1) := by decide +kernel
theorem d_X14_isObject_0 : decode b_X14_isObject 0 = .ok (.iload_n 1, 1) := by decide +kernel
theorem d_X14_isObject_1 : decode b_X14_isObject 1 = .ok (.iconst 1, 1) := by decide +kernel
theorem d_X14_isObject_2 : decode b_X14_isObject 2 = .ok (.if_icmp .lt 15, 3) := by decide +kernel
theorem d_X14_isObject_5 : decode b_X14_isObject 5 = .ok (.iload_n 1, 1) := by decide +kernel
theorem d_X14_isObject_6 : decode b_X14_isObject 6 = .ok (.aload_n 0, 1) := by decide +kernel
theorem d_X14_isObject_7 : decode b_X14_isObject 7 = .ok (.getfield 327, 3) := by decide +kernel
theorem d_X14_isObject_10 : decode b_X14_isObject 10 = .ok (.if_icmp .gt 7, 3) := by decide +kernel
theorem d_X14_isObject_13 : decode b_X14_isObject 13 = .ok (.iconst 1, 1) := by decide +kernel
theorem d_X14_isObject_14 : decode b_X14_isObject 14 = .ok (.goto 4, 3) := by decide +kernel
theorem d_X14_isObject_17 : decode b_X14_isObject 17 = .ok (.iconst 0, 1) := by decide +kernel
theorem d_X14_isObject_18 : decode b_X14_isObject 18 = .ok (.ireturn, 1) := by decide +kernel
theorem d_X14_symbols_0 : decode b_X14_symbols 0 = .ok (.iconst 0, 1) := by decide +kernel
theorem d_X14_symbols_1 : decode b_X14_symbols 1 = .ok (.istore_n 2, 1) := by decide +kernel
theorem d_X14_symbols_2 : decode b_X14_symbols 2 = .ok (.aload_n 0, 1) := by decide +kernel
theorem d_X14_symbols_3 : decode b_X14_symbols 3 = .ok (.getfield 86, 3) := by decide +kernel
theorem d_X14_symbols_6 : decode b_X14_symbols 6 = .ok (.iload_n 1, 1) := by decide +kernel
theorem d_X14_symbols_7 : decode b_X14_symbols 7 = .ok (.iconst 1, 1) := by decide +kernel
theorem d_X14_symbols_8 : decode b_X14_symbols 8 = .ok (.isub, 1) := by decide +kernel
theorem d_X14_symbols_9 : decode b_X14_symbols 9 = .ok (.iaload, 1) := by decide +kernel
theorem d_X14_symbols_10 : decode b_X14_symbols 10 = .ok (.istore_n 3, 1) := by decide +kernel
theorem d_X14_symbols_11 : decode b_X14_symbols 11 = .ok (.iload_n 3, 1) := by decide +kernel
theorem d_X14_symbols_12 : decode b_X14_symbols 12 = .ok (.aload_n 0, 1) := by decide +kernel
theorem d_X14_symbols_13 : decode b_X14_symbols 13 = .ok (.getfield 86, 3) := by decide +kernel
theorem d_X14_symbols_16 : decode b_X14_symbols 16 = .ok (.iload_n 1, 1) := by decide +kernel
theorem d_X14_symbols_17 : decode b_X14_symbols 17 = .ok (.iaload, 1) := by decide +kernel
theorem d_X14_symbols_18 : decode b_X14_symbols 18 = .ok (.if_icmp .ge 21, 3) := by decide +kernel
theorem d_X14_symbols_21 : decode b_X14_symbols 21 = .ok (.aload_n 0, 1) := by decide +kernel
theorem d_X14_symbols_22 : decode b_X14_symbols 22 = .ok (.getfield 53, 3) := by decide +kernel
theorem d_X14_symbols_25 : decode b_X14_symbols 25 = .ok (.iload_n 3, 1) := by decide +kernel
theorem d_X14_symbols_26 : decode b_X14_symbols 26 = .ok (.baload, 1) := by decide +kernel
theorem d_X14_symbols_27 : decode b_X14_symbols 27 = .ok (.ifCond .ne 6, 3) := by decide +kernel
theorem d_X14_symbols_30 : decode b_X14_symbols 30 = .ok (.iinc 2 1, 3) := by decide +kernel
theorem d_X14_symbols_33 : decode b_X14_symbols 33 = .ok (.iinc 3 1, 3) := by decide +kernel
theorem d_X14_symbols_36 : decode b_X14_symbols 36 = .ok (.goto (-25), 3) := by decide +kernel
theorem d_X14_symbols_39 : decode b_X14_symbols 39 = .ok (.iload_n 2, 1) := by decide +kernel
theorem d_X14_symbols_40 : decode b_X14_symbols 40 = .ok (.ireturn, 1) := by decide +kernel
theorem d_X14_name_0 : decode b_X14_name 0 = .ok (.aload_n 0, 1) := by decide +kernel
theorem d_X14_name_1 : decode b_X14_name 1 = .ok (.iload_n 1, 1) := by decide +kernel
theorem d_X14_name_2 : decode b_X14_name 2 = .ok (.iload_n 2, 1) := by decide +kernel
theorem d_X14_name_3 : decode b_X14_name 3 = .ok (.invokevirtual 686, 3) := by decide +kernel
theorem d_X14_name_6 : decode b_X14_name 6 = .ok (.istore 4, 2) := by decide +kernel
theorem d_X14_name_8 : decode b_X14_name 8 = .ok (.iload 4, 2) := by decide +kernel
theorem d_X14_name_10 : decode b_X14_name 10 = .ok (.ifCond .lt 35, 3) := by decide +kernel
theorem d_X14_name_13 : decode b_X14_name 13 = .ok (.iload_n 3, 1) := by decide +kernel
theorem d_X14_name_14 : decode b_X14_name 14 = .ok (.ifCond .lt 31, 3) := by decide +kernel
theorem d_X14_name_17 : decode b_X14_name 17 = .ok (.iload_n 3, 1) := by decide +kernel
theorem d_X14_name_18 : decode b_X14_name 18 = .ok (.aload_n 0, 1) := by decide +kernel
theorem d_X14_name_19 : decode b_X14_name 19 = .ok (.getfield 76, 3) := by decide +kernel
theorem d_X14_name_22 : decode b_X14_name 22 = .ok (.iload 4, 2) := by decide +kernel
theorem d_X14_name_24 : decode b_X14_name 24 = .ok (.iaload, 1) := by decide +kernel
theorem d_X14_name_25 : decode b_X14_name 25 = .ok (.if_icmp .ge 20, 3) := by decide +kernel
theorem d_X14_name_28 : decode b_X14_name 28 = .ok (.aload_n 0, 1) := by decide +kernel
theorem d_X14_name_29 : decode b_X14_name 29 = .ok (.getfield 80, 3) := by decide +kernel
theorem d_X14_name_32 : decode b_X14_name 32 = .ok (.aload_n 0, 1) := by decide +kernel
theorem d_X14_name_33 : decode b_X14_name 33 = .ok (.getfield 73, 3) := by decide +kernel
theorem d_X14_name_36 : decode b_X14_name 36 = .ok (.iload 4, 2) := by decide +kernel
theorem d_X14_name_38 : decode b_X14_name 38 = .ok (.iaload, 1) := by decide +kernel
theorem d_X14_name_39 : decode b_X14_name 39 = .ok (.iload_n 3, 1) := by decide +kernel
theorem d_X14_name_40 : decode b_X14_name 40 = .ok (.iadd, 1) := by decide +kernel
theorem d_X14_name_41 : decode b_X14_name 41 = .ok (.baload, 1) := by decide +kernel
theorem d_X14_name_42 : decode b_X14_name 42 = .ok (.goto 4, 3) := by decide +kernel
theorem d_X14_name_45 : decode b_X14_name 45 = .ok (.iconst (-1), 1) := by decide +kernel
theorem d_X14_name_46 : decode b_X14_name 46 = .ok (.ireturn, 1) := by decide +kernel
theorem d_X14_symbolAt_0 : decode b_X14_symbolAt 0 = .ok (.aload_n 0, 1) := by decide +kernel
theorem d_X14_symbolAt_1 : decode b_X14_symbolAt 1 = .ok (.iload_n 1, 1) := by decide +kernel
theorem d_X14_symbolAt_2 : decode b_X14_symbolAt 2 = .ok (.invokevirtual 680, 3) := by decide +kernel
theorem d_X14_symbolAt_5 : decode b_X14_symbolAt 5 = .ok (.ifCond .eq 7, 3) := by decide +kernel
theorem d_X14_symbolAt_8 : decode b_X14_symbolAt 8 = .ok (.iload_n 2, 1) := by decide +kernel
theorem d_X14_symbolAt_9 : decode b_X14_symbolAt 9 = .ok (.ifCond .ge 5, 3) := by decide +kernel
theorem d_X14_symbolAt_12 : decode b_X14_symbolAt 12 = .ok (.iconst (-1), 1) := by decide +kernel
theorem d_X14_symbolAt_13 : decode b_X14_symbolAt 13 = .ok (.ireturn, 1) := by decide +kernel
theorem d_X14_symbolAt_14 : decode b_X14_symbolAt 14 = .ok (.iload_n 2, 1) := by decide +kernel
theorem d_X14_symbolAt_15 : decode b_X14_symbolAt 15 = .ok (.istore_n 3, 1) := by decide +kernel
theorem d_X14_symbolAt_16 : decode b_X14_symbolAt 16 = .ok (.aload_n 0, 1) := by decide +kernel
theorem d_X14_symbolAt_17 : decode b_X14_symbolAt 17 = .ok (.getfield 86, 3) := by decide +kernel
theorem d_X14_symbolAt_20 : decode b_X14_symbolAt 20 = .ok (.iload_n 1, 1) := by decide +kernel
theorem d_X14_symbolAt_21 : decode b_X14_symbolAt 21 = .ok (.iconst 1, 1) := by decide +kernel
theorem d_X14_symbolAt_22 : decode b_X14_symbolAt 22 = .ok (.isub, 1) := by decide +kernel
theorem d_X14_symbolAt_23 : decode b_X14_symbolAt 23 = .ok (.iaload, 1) := by decide +kernel
theorem d_X14_symbolAt_24 : decode b_X14_symbolAt 24 = .ok (.istore 4, 2) := by decide +kernel
theorem d_X14_symbolAt_26 : decode b_X14_symbolAt 26 = .ok (.iload 4, 2) := by decide +kernel
theorem d_X14_symbolAt_28 : decode b_X14_symbolAt 28 = .ok (.aload_n 0, 1) := by decide +kernel
theorem d_X14_symbolAt_29 : decode b_X14_symbolAt 29 = .ok (.getfield 86, 3) := by decide +kernel
theorem d_X14_symbolAt_32 : decode b_X14_symbolAt 32 = .ok (.iload_n 1, 1) := by decide +kernel
theorem d_X14_symbolAt_33 : decode b_X14_symbolAt 33 = .ok (.iaload, 1) := by decide +kernel
theorem d_X14_symbolAt_34 : decode b_X14_symbolAt 34 = .ok (.if_icmp .ge 32, 3) := by decide +kernel
theorem d_X14_symbolAt_37 : decode b_X14_symbolAt 37 = .ok (.aload_n 0, 1) := by decide +kernel
theorem d_X14_symbolAt_38 : decode b_X14_symbolAt 38 = .ok (.getfield 53, 3) := by decide +kernel
theorem d_X14_symbolAt_41 : decode b_X14_symbolAt 41 = .ok (.iload 4, 2) := by decide +kernel
theorem d_X14_symbolAt_43 : decode b_X14_symbolAt 43 = .ok (.baload, 1) := by decide +kernel
theorem d_X14_symbolAt_44 : decode b_X14_symbolAt 44 = .ok (.ifCond .eq 6, 3) := by decide +kernel
theorem d_X14_symbolAt_47 : decode b_X14_symbolAt 47 = .ok (.goto 13, 3) := by decide +kernel
theorem d_X14_symbolAt_50 : decode b_X14_symbolAt 50 = .ok (.iload_n 3, 1) := by decide +kernel
theorem d_X14_symbolAt_51 : decode b_X14_symbolAt 51 = .ok (.ifCond .ne 6, 3) := by decide +kernel
theorem d_X14_symbolAt_54 : decode b_X14_symbolAt 54 = .ok (.iload 4, 2) := by decide +kernel
theorem d_X14_symbolAt_56 : decode b_X14_symbolAt 56 = .ok (.ireturn, 1) := by decide +kernel
theorem d_X14_symbolAt_57 : decode b_X14_symbolAt 57 = .ok (.iinc 3 (-1), 3) := by decide +kernel
theorem d_X14_symbolAt_60 : decode b_X14_symbolAt 60 = .ok (.iinc 4 1, 3) := by decide +kernel
theorem d_X14_symbolAt_63 : decode b_X14_symbolAt 63 = .ok (.goto (-37), 3) := by decide +kernel
theorem d_X14_symbolAt_66 : decode b_X14_symbolAt 66 = .ok (.iconst (-1), 1) := by decide +kernel
theorem d_X14_symbolAt_67 : decode b_X14_symbolAt 67 = .ok (.ireturn, 1) := by decide +kernel
theorem d_X14_symbol_0 : decode b_X14_symbol 0 = .ok (.aload_n 0, 1) := by decide +kernel
theorem d_X14_symbol_1 : decode b_X14_symbol 1 = .ok (.iload_n 1, 1) := by decide +kernel
theorem d_X14_symbol_2 : decode b_X14_symbol 2 = .ok (.iload_n 2, 1) := by decide +kernel
theorem d_X14_symbol_3 : decode b_X14_symbol 3 = .ok (.invokevirtual 686, 3) := by decide +kernel
theorem d_X14_symbol_6 : decode b_X14_symbol 6 = .ok (.istore_n 3, 1) := by decide +kernel
theorem d_X14_symbol_7 : decode b_X14_symbol 7 = .ok (.iload_n 3, 1) := by decide +kernel
theorem d_X14_symbol_8 : decode b_X14_symbol 8 = .ok (.ifCond .ge 5, 3) := by decide +kernel
theorem d_X14_symbol_11 : decode b_X14_symbol 11 = .ok (.iconst (-1), 1) := by decide +kernel
theorem d_X14_symbol_12 : decode b_X14_symbol 12 = .ok (.ireturn, 1) := by decide +kernel
theorem d_X14_symbol_13 : decode b_X14_symbol 13 = .ok (.aload_n 0, 1) := by decide +kernel
theorem d_X14_symbol_14 : decode b_X14_symbol 14 = .ok (.getfield 44, 3) := by decide +kernel
theorem d_X14_symbol_17 : decode b_X14_symbol 17 = .ok (.iload_n 3, 1) := by decide +kernel
theorem d_X14_symbol_18 : decode b_X14_symbol 18 = .ok (.iaload, 1) := by decide +kernel
theorem d_X14_symbol_19 : decode b_X14_symbol 19 = .ok (.aload_n 0, 1) := by decide +kernel
