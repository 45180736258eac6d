theorem d_X12_init_0 : decode b_X12_init 0 = .ok (.aload_n 0, 1) := by decide +kernel
theorem d_X12_init_1 : decode b_X12_init 1 = .ok (.invokespecial 1, 3) := by decide +kernel
theorem d_X12_init_4 : decode b_X12_init 4 = .ok (.aload_n 0, 1) := by decide +kernel
theorem d_X12_init_5 : decode b_X12_init 5 = .ok (.sipush 16000, 3) := by decide +kernel
theorem d_X12_init_8 : decode b_X12_init 8 = .ok (.newarray .byte, 2) := by decide +kernel
theorem d_X12_init_10 : decode b_X12_init 10 = .ok (.putfield 9, 3) := by decide +kernel
theorem d_X12_init_13 : decode b_X12_init 13 = .ok (.aload_n 0, 1) := by decide +kernel
theorem d_X12_init_14 : decode b_X12_init 14 = .ok (.iconst 0, 1) := by decide +kernel
theorem d_X12_init_15 : decode b_X12_init 15 = .ok (.putfield 13, 3) := by decide +kernel
theorem d_X12_init_18 : decode b_X12_init 18 = .ok (.aload_n 0, 1) := by decide +kernel
theorem d_X12_init_19 : decode b_X12_init 19 = .ok (.iconst 0, 1) := by decide +kernel
theorem d_X12_init_20 : decode b_X12_init 20 = .ok (.putfield 17, 3) := by decide +kernel
theorem d_X12_init_23 : decode b_X12_init 23 = .ok (.aload_n 0, 1) := by decide +kernel
theorem d_X12_init_24 : decode b_X12_init 24 = .ok (.iconst (-1), 1) := by decide +kernel
theorem d_X12_init_25 : decode b_X12_init 25 = .ok (.putfield 20, 3) := by decide +kernel
theorem d_X12_init_28 : decode b_X12_init 28 = .ok (.aload_n 0, 1) := by decide +kernel
theorem d_X12_init_29 : decode b_X12_init 29 = .ok (.new 23, 3) := by decide +kernel
theorem d_X12_init_32 : decode b_X12_init 32 = .ok (.dup, 1) := by decide +kernel
theorem d_X12_init_33 : decode b_X12_init 33 = .ok (.aload_n 0, 1) := by decide +kernel
theorem d_X12_init_34 : decode b_X12_init 34 = .ok (.getfield 9, 3) := by decide +kernel
theorem d_X12_init_37 : decode b_X12_init 37 = .ok (.invokespecial 25, 3) := by decide +kernel
theorem d_X12_init_40 : decode b_X12_init 40 = .ok (.putfield 28, 3) := by decide +kernel
theorem d_X12_init_43 : decode b_X12_init 43 = .ok (.aload_n 0, 1) := by decide +kernel
theorem d_X12_init_44 : decode b_X12_init 44 = .ok (.new 32, 3) := by decide +kernel
theorem d_X12_init_47 : decode b_X12_init 47 = .ok (.dup, 1) := by decide +kernel
theorem d_X12_init_48 : decode b_X12_init 48 = .ok (.aload_n 0, 1) := by decide +kernel
theorem d_X12_init_49 : decode b_X12_init 49 = .ok (.getfield 28, 3) := by decide +kernel
theorem d_X12_init_52 : decode b_X12_init 52 = .ok (.invokespecial 34, 3) := by decide +kernel
theorem d_X12_init_55 : decode b_X12_init 55 = .ok (.putfield 37, 3) := by decide +kernel
theorem d_X12_init_58 : decode b_X12_init 58 = .ok (.aload_n 0, 1) := by decide +kernel
theorem d_X12_init_59 : decode b_X12_init 59 = .ok (.new 41, 3) := by decide +kernel
theorem d_X12_init_62 : decode b_X12_init 62 = .ok (.dup, 1) := by decide +kernel
theorem d_X12_init_63 : decode b_X12_init 63 = .ok (.invokespecial 43, 3) := by decide +kernel
theorem d_X12_init_66 : decode b_X12_init 66 = .ok (.putfield 44, 3) := by decide +kernel
theorem d_X12_init_69 : decode b_X12_init 69 = .ok (.aload_n 0, 1) := by decide +kernel
theorem d_X12_init_70 : decode b_X12_init 70 = .ok (.new 48, 3) := by decide +kernel
theorem d_X12_init_73 : decode b_X12_init 73 = .ok (.dup, 1) := by decide +kernel
theorem d_X12_init_74 : decode b_X12_init 74 = .ok (.aload_n 0, 1) := by decide +kernel
theorem d_X12_init_75 : decode b_X12_init 75 = .ok (.getfield 44, 3) := by decide +kernel
theorem d_X12_init_78 : decode b_X12_init 78 = .ok (.invokespecial 50, 3) := by decide +kernel
theorem d_X12_init_81 : decode b_X12_init 81 = .ok (.putfield 53, 3) := by decide +kernel
theorem d_X12_init_84 : decode b_X12_init 84 = .ok (.aload_n 0, 1) := by decide +kernel
theorem d_X12_init_85 : decode b_X12_init 85 = .ok (.new 57, 3) := by decide +kernel
theorem d_X12_init_88 : decode b_X12_init 88 = .ok (.dup, 1) := by decide +kernel
theorem d_X12_init_89 : decode b_X12_init 89 = .ok (.aload_n 0, 1) := by decide +kernel
theorem d_X12_init_90 : decode b_X12_init 90 = .ok (.getfield 28, 3) := by decide +kernel
theorem d_X12_init_93 : decode b_X12_init 93 = .ok (.aload_n 0, 1) := by decide +kernel
theorem d_X12_init_94 : decode b_X12_init 94 = .ok (.getfield 53, 3) := by decide +kernel
theorem d_X12_init_97 : decode b_X12_init 97 = .ok (.invokespecial 59, 3) := by decide +kernel
theorem d_X12_init_100 : decode b_X12_init 100 = .ok (.putfield 62, 3) := by decide +kernel
theorem d_X12_init_103 : decode b_X12_init 103 = .ok (.aload_n 0, 1) := by decide +kernel
theorem d_X12_init_104 : decode b_X12_init 104 = .ok (.new 66, 3) := by decide +kernel
theorem d_X12_init_107 : decode b_X12_init 107 = .ok (.dup, 1) := by decide +kernel
theorem d_X12_init_108 : decode b_X12_init 108 = .ok (.aload_n 0, 1) := by decide +kernel
theorem d_X12_init_109 : decode b_X12_init 109 = .ok (.getfield 37, 3) := by decide +kernel
theorem d_X12_init_112 : decode b_X12_init 112 = .ok (.aload_n 0, 1) := by decide +kernel
theorem d_X12_init_113 : decode b_X12_init 113 = .ok (.getfield 62, 3) := by decide +kernel
theorem d_X12_init_116 : decode b_X12_init 116 = .ok (.aload_n 0, 1) := by decide +kernel
theorem d_X12_init_117 : decode b_X12_init 117 = .ok (.getfield 44, 3) := by decide +kernel
theorem d_X12_init_120 : decode b_X12_init 120 = .ok (.invokespecial 68, 3) := by decide +kernel
theorem d_X12_init_123 : decode b_X12_init 123 = .ok (.putfield 71, 3) := by decide +kernel
theorem d_X12_init_126 : decode b_X12_init 126 = .ok (.aload_n 0, 1) := by decide +kernel
theorem d_X12_init_127 : decode b_X12_init 127 = .ok (.new 75, 3) := by decide +kernel
theorem d_X12_init_130 : decode b_X12_init 130 = .ok (.dup, 1) := by decide +kernel
theorem d_X12_init_131 : decode b_X12_init 131 = .ok (.aload_n 0, 1) := by decide +kernel
theorem d_X12_init_132 : decode b_X12_init 132 = .ok (.getfield 37, 3) := by decide +kernel
theorem d_X12_init_135 : decode b_X12_init 135 = .ok (.aload_n 0, 1) := by decide +kernel
theorem d_X12_init_136 : decode b_X12_init 136 = .ok (.getfield 62, 3) := by decide +kernel
theorem d_X12_init_139 : decode b_X12_init 139 = .ok (.aload_n 0, 1) := by decide +kernel
theorem d_X12_init_140 : decode b_X12_init 140 = .ok (.getfield 71, 3) := by decide +kernel
theorem d_X12_init_143 : decode b_X12_init 143 = .ok (.invokespecial 77, 3) := by decide +kernel
theorem d_X12_init_146 : decode b_X12_init 146 = .ok (.putfield 80, 3) := by decide +kernel
theorem d_X12_init_149 : decode b_X12_init 149 = .ok (.aload_n 0, 1) := by decide +kernel
theorem d_X12_init_150 : decode b_X12_init 150 = .ok (.new 84, 3) := by decide +kernel
theorem d_X12_init_153 : decode b_X12_init 153 = .ok (.dup, 1) := by decide +kernel
theorem d_X12_init_154 : decode b_X12_init 154 = .ok (.aload_n 0, 1) := by decide +kernel
theorem d_X12_init_155 : decode b_X12_init 155 = .ok (.getfield 37, 3) := by decide +kernel
theorem d_X12_init_158 : decode b_X12_init 158 = .ok (.aload_n 0, 1) := by decide +kernel
theorem d_X12_init_159 : decode b_X12_init 159 = .ok (.getfield 62, 3) := by decide +kernel
theorem d_X12_init_162 : decode b_X12_init 162 = .ok (.aload_n 0, 1) := by decide +kernel
theorem d_X12_init_163 : decode b_X12_init 163 = .ok (.getfield 80, 3) := by decide +kernel
theorem d_X12_init_166 : decode b_X12_init 166 = .ok (.invokespecial 86, 3) := by decide +kernel
theorem d_X12_init_169 : decode b_X12_init 169 = .ok (.putfield 89, 3) := by decide +kernel
theorem d_X12_init_172 : decode b_X12_init 172 = .ok (.aload_n 0, 1) := by decide +kernel
theorem d_X12_init_173 : decode b_X12_init 173 = .ok (.new 93, 3) := by decide +kernel
theorem d_X12_init_176 : decode b_X12_init 176 = .ok (.dup, 1) := by decide +kernel
theorem d_X12_init_177 : decode b_X12_init 177 = .ok (.aload_n 0, 1) := by decide +kernel
theorem d_X12_init_178 : decode b_X12_init 178 = .ok (.getfield 53, 3) := by decide +kernel
theorem d_X12_init_181 : decode b_X12_init 181 = .ok (.invokespecial 95, 3) := by decide +kernel
theorem d_X12_init_184 : decode b_X12_init 184 = .ok (.putfield 98, 3) := by decide +kernel
theorem d_X12_init_187 : decode b_X12_init 187 = .ok (.aload_n 0, 1) := by decide +kernel
theorem d_X12_init_188 : decode b_X12_init 188 = .ok (.new 102, 3) := by decide +kernel
theorem d_X12_init_191 : decode b_X12_init 191 = .ok (.dup, 1) := by decide +kernel
theorem d_X12_init_192 : decode b_X12_init 192 = .ok (.invokespecial 104, 3) := by decide +kernel
theorem d_X12_init_195 : decode b_X12_init 195 = .ok (.putfield 105, 3) := by decide +kernel
theorem d_X12_init_198 : decode b_X12_init 198 = .ok (.aload_n 0, 1) := by decide +kernel
theorem d_X12_init_199 : decode b_X12_init 199 = .ok (.new 109, 3) := by decide +kernel
theorem d_X12_init_202 : decode b_X12_init 202 = .ok (.dup, 1) := by decide +kernel
theorem d_X12_init_203 : decode b_X12_init 203 = .ok (.aload_n 0, 1) := by decide +kernel
theorem d_X12_init_204 : decode b_X12_init 204 = .ok (.getfield 98, 3) := by decide +kernel
theorem d_X12_init_207 : decode b_X12_init 207 = .ok (.aload_n 0, 1) := by decide +kernel
theorem d_X12_init_208 : decode b_X12_init 208 = .ok (.getfield 105, 3) := by decide +kernel
theorem d_X12_init_211 : decode b_X12_init 211 = .ok (.invokespecial 111, 3) := by decide +kernel
theorem d_X12_init_214 : decode b_X12_init 214 = .ok (.putfield 114, 3) := by decide +kernel
theorem d_X12_init_217 : decode b_X12_init 217 = .ok (.return_, 1) := by decide +kernel
theorem d_X12_at_0 : decode b_X12_at 0 = .ok (.iload_n 1, 1) := by decide +kernel
theorem d_X12_at_1 : decode b_X12_at 1 = .ok (.ifCond .lt 15, 3) := by decide +kernel
theorem d_X12_at_4 : decode b_X12_at 4 = .ok (.iload_n 1, 1) := by decide +kernel
theorem d_X12_at_5 : decode b_X12_at 5 = .ok (.aload_n 0, 1) := by decide +kernel
theorem d_X12_at_6 : decode b_X12_at 6 = .ok (.arraylength, 1) := by decide +kernel
theorem d_X12_at_7 : decode b_X12_at 7 = .ok (.if_icmp .ge 9, 3) := by decide +kernel
theorem d_X12_at_10 : decode b_X12_at 10 = .ok (.aload_n 0, 1) := by decide +kernel
theorem d_X12_at_11 : decode b_X12_at 11 = .ok (.iload_n 1, 1) := by decide +kernel
theorem d_X12_at_12 : decode b_X12_at 12 = .ok (.iaload, 1) := by decide +kernel
theorem d_X12_at_13 : decode b_X12_at 13 = .ok (.goto 4, 3) := by decide +kernel
theorem d_X12_at_16 : decode b_X12_at 16 = .ok (.iconst 0, 1) := by decide +kernel
theorem d_X12_at_17 : decode b_X12_at 17 = .ok (.ireturn, 1) := by decide +kernel
theorem d_X12_cell_0 : decode b_X12_cell 0 = .ok (.aload_n 0, 1) := by decide +kernel
theorem d_X12_cell_1 : decode b_X12_cell 1 = .ok (.getfield 13, 3) := by decide +kernel
theorem d_X12_cell_4 : decode b_X12_cell 4 = .ok (.istore_n 1, 1) := by decide +kernel
theorem d_X12_cell_5 : decode b_X12_cell 5 = .ok (.aload_n 0, 1) := by decide +kernel
theorem d_X12_cell_6 : decode b_X12_cell 6 = .ok (.iconst 0, 1) := by decide +kernel
theorem d_X12_cell_7 : decode b_X12_cell 7 = .ok (.putfield 13, 3) := by decide +kernel
theorem d_X12_cell_10 : decode b_X12_cell 10 = .ok (.aload_n 0, 1) := by decide +kernel
theorem d_X12_cell_11 : decode b_X12_cell 11 = .ok (.getfield 98, 3) := by decide +kernel
theorem d_X12_cell_14 : decode b_X12_cell 14 = .ok (.aload_n 0, 1) := by decide +kernel
theorem d_X12_cell_15 : decode b_X12_cell 15 = .ok (.getfield 9, 3) := by decide +kernel
theorem d_X12_cell_18 : decode b_X12_cell 18 = .ok (.iload_n 1, 1) := by decide +kernel
theorem d_X12_cell_19 : decode b_X12_cell 19 = .ok (.invokevirtual 197, 3) := by decide +kernel
theorem d_X12_cell_22 : decode b_X12_cell 22 = .ok (.ireturn, 1) := by decide +kernel
theorem d_X12_compile_0 : decode b_X12_compile 0 = .ok (.aload_n 0, 1) := by decide +kernel
theorem d_X12_compile_1 : decode b_X12_compile 1 = .ok (.getfield 13, 3) := by decide +kernel
theorem d_X12_compile_4 : decode b_X12_compile 4 = .ok (.istore_n 2, 1) := by decide +kernel
theorem d_X12_compile_5 : decode b_X12_compile 5 = .ok (.aload_n 0, 1) := by decide +kernel
theorem d_X12_compile_6 : decode b_X12_compile 6 = .ok (.iconst 0, 1) := by decide +kernel
theorem d_X12_compile_7 : decode b_X12_compile 7 = .ok (.putfield 13, 3) := by decide +kernel
theorem d_X12_compile_10 : decode b_X12_compile 10 = .ok (.aload_n 0, 1) := by decide +kernel
theorem d_X12_compile_11 : decode b_X12_compile 11 = .ok (.iconst (-1), 1) := by decide +kernel
theorem d_X12_compile_12 : decode b_X12_compile 12 = .ok (.putfield 20, 3) := by decide +kernel
theorem d_X12_compile_15 : decode b_X12_compile 15 = .ok (.iload_n 1, 1) := by decide +kernel
theorem d_X12_compile_16 : decode b_X12_compile 16 = .ok (.ifCond .lt 20, 3) := by decide +kernel
theorem d_X12_compile_19 : decode b_X12_compile 19 = .ok (.iload_n 1, 1) := by decide +kernel
theorem d_X12_compile_20 : decode b_X12_compile 20 = .ok (.iconst 3, 1) := by decide +kernel
theorem d_X12_compile_21 : decode b_X12_compile 21 = .ok (.if_icmp .gt 15, 3) := by decide +kernel
theorem d_X12_compile_24 : decode b_X12_compile 24 = .ok (.aload_n 0, 1) := by decide +kernel
theorem d_X12_compile_25 : decode b_X12_compile 25 = .ok (.getfield 53, 3) := by decide +kernel
theorem d_X12_compile_28 : decode b_X12_compile 28 = .ok (.getfield 123, 3) := by decide +kernel
theorem d_X12_compile_31 : decode b_X12_compile 31 = .ok (.bipush 100, 2) := by decide +kernel
theorem d_X12_compile_33 : decode b_X12_compile 33 = .ok (.if_icmp .lt 6, 3) := by decide +kernel
theorem d_X12_compile_36 : decode b_X12_compile 36 = .ok (.bipush (-14), 2) := by decide +kernel
theorem d_X12_compile_38 : decode b_X12_compile 38 = .ok (.ireturn, 1) := by decide +kernel
theorem d_X12_compile_39 : decode b_X12_compile 39 = .ok (.aload_n 0, 1) := by decide +kernel
theorem d_X12_compile_40 : decode b_X12_compile 40 = .ok (.getfield 28, 3) := by decide +kernel
theorem d_X12_compile_43 : decode b_X12_compile 43 = .ok (.iload_n 2, 1) := by decide +kernel
theorem d_X12_compile_44 : decode b_X12_compile 44 = .ok (.invokevirtual 126, 3) := by decide +kernel
theorem d_X12_compile_47 : decode b_X12_compile 47 = .ok (.aload_n 0, 1) := by decide +kernel
theorem d_X12_compile_48 : decode b_X12_compile 48 = .ok (.getfield 37, 3) := by decide +kernel
theorem d_X12_compile_51 : decode b_X12_compile 51 = .ok (.invokevirtual 129, 3) := by decide +kernel
theorem d_X12_compile_54 : decode b_X12_compile 54 = .ok (.ifCond .ne 27, 3) := by decide +kernel
theorem d_X12_compile_57 : decode b_X12_compile 57 = .ok (.aload_n 0, 1) := by decide +kernel
theorem d_X12_compile_58 : decode b_X12_compile 58 = .ok (.aload_n 0, 1) := by decide +kernel
theorem d_X12_compile_59 : decode b_X12_compile 59 = .ok (.getfield 28, 3) := by decide +kernel
theorem d_X12_compile_62 : decode b_X12_compile 62 = .ok (.getfield 133, 3) := by decide +kernel
theorem d_X12_compile_65 : decode b_X12_compile 65 = .ok (.aload_n 0, 1) := by decide +kernel
theorem d_X12_compile_66 : decode b_X12_compile 66 = .ok (.getfield 37, 3) := by decide +kernel
theorem d_X12_compile_69 : decode b_X12_compile 69 = .ok (.getfield 137, 3) := by decide +kernel
theorem d_X12_compile_72 : decode b_X12_compile 72 = .ok (.invokestatic 140, 3) := by decide +kernel
theorem d_X12_compile_75 : decode b_X12_compile 75 = .ok (.putfield 20, 3) := by decide +kernel
theorem d_X12_compile_78 : decode b_X12_compile 78 = .ok (.bipush (-21), 2) := by decide +kernel
theorem d_X12_compile_80 : decode b_X12_compile 80 = .ok (.ireturn, 1) := by decide +kernel
theorem d_X12_compile_81 : decode b_X12_compile 81 = .ok (.aload_n 0, 1) := by decide +kernel
theorem d_X12_compile_82 : decode b_X12_compile 82 = .ok (.getfield 89, 3) := by decide +kernel
theorem d_X12_compile_85 : decode b_X12_compile 85 = .ok (.iload_n 1, 1) := by decide +kernel
theorem d_X12_compile_86 : decode b_X12_compile 86 = .ok (.invokevirtual 144, 3) := by decide +kernel
theorem d_X12_compile_89 : decode b_X12_compile 89 = .ok (.aload_n 0, 1) := by decide +kernel
theorem d_X12_compile_90 : decode b_X12_compile 90 = .ok (.getfield 62, 3) := by decide +kernel
theorem d_X12_compile_93 : decode b_X12_compile 93 = .ok (.getfield 147, 3) := by decide +kernel
theorem d_X12_compile_96 : decode b_X12_compile 96 = .ok (.ifCond .eq 42, 3) := by decide +kernel
theorem d_X12_compile_99 : decode b_X12_compile 99 = .ok (.aload_n 0, 1) := by decide +kernel
theorem d_X12_compile_100 : decode b_X12_compile 100 = .ok (.getfield 53, 3) := by decide +kernel
theorem d_X12_compile_103 : decode b_X12_compile 103 = .ok (.invokevirtual 150, 3) := by decide +kernel
theorem d_X12_compile_106 : decode b_X12_compile 106 = .ok (.aload_n 0, 1) := by decide +kernel
theorem d_X12_compile_107 : decode b_X12_compile 107 = .ok (.aload_n 0, 1) := by decide +kernel
theorem d_X12_compile_108 : decode b_X12_compile 108 = .ok (.getfield 28, 3) := by decide +kernel
theorem d_X12_compile_111 : decode b_X12_compile 111 = .ok (.getfield 133, 3) := by decide +kernel
theorem d_X12_compile_114 : decode b_X12_compile 114 = .ok (.aload_n 0, 1) := by decide +kernel
theorem d_X12_compile_115 : decode b_X12_compile 115 = .ok (.getfield 62, 3) := by decide +kernel
theorem d_X12_compile_118 : decode b_X12_compile 118 = .ok (.getfield 153, 3) := by decide +kernel
theorem d_X12_compile_121 : decode b_X12_compile 121 = .ok (.invokestatic 140, 3) := by decide +kernel
theorem d_X12_compile_124 : decode b_X12_compile 124 = .ok (.putfield 20, 3) := by decide +kernel
theorem d_X12_compile_127 : decode b_X12_compile 127 = .ok (.bipush (-20), 2) := by decide +kernel
theorem d_X12_compile_129 : decode b_X12_compile 129 = .ok (.aload_n 0, 1) := by decide +kernel
theorem d_X12_compile_130 : decode b_X12_compile 130 = .ok (.getfield 62, 3) := by decide +kernel
theorem d_X12_compile_133 : decode b_X12_compile 133 = .ok (.getfield 147, 3) := by decide +kernel
theorem d_X12_compile_136 : decode b_X12_compile 136 = .ok (.isub, 1) := by decide +kernel
theorem d_X12_compile_137 : decode b_X12_compile 137 = .ok (.ireturn, 1) := by decide +kernel
theorem d_X12_compile_138 : decode b_X12_compile 138 = .ok (.aload_n 0, 1) := by decide +kernel
theorem d_X12_compile_139 : decode b_X12_compile 139 = .ok (.getfield 53, 3) := by decide +kernel
theorem d_X12_compile_142 : decode b_X12_compile 142 = .ok (.aload_n 0, 1) := by decide +kernel
theorem d_X12_compile_143 : decode b_X12_compile 143 = .ok (.getfield 62, 3) := by decide +kernel
theorem d_X12_compile_146 : decode b_X12_compile 146 = .ok (.getfield 156, 3) := by decide +kernel
theorem d_X12_compile_149 : decode b_X12_compile 149 = .ok (.invokevirtual 159, 3) := by decide +kernel
theorem d_X12_compile_152 : decode b_X12_compile 152 = .ok (.ireturn, 1) := by decide +kernel
theorem d_X12_count_0 : decode b_X12_count 0 = .ok (.aload_n 0, 1) := by decide +kernel
theorem d_X12_count_1 : decode b_X12_count 1 = .ok (.getfield 53, 3) := by decide +kernel
theorem d_X12_count_4 : decode b_X12_count 4 = .ok (.iload_n 1, 1) := by decide +kernel
theorem d_X12_count_5 : decode b_X12_count 5 = .ok (.invokevirtual 163, 3) := by decide +kernel
theorem d_X12_count_8 : decode b_X12_count 8 = .ok (.ifCond .eq 12, 3) := by decide +kernel
theorem d_X12_count_11 : decode b_X12_count 11 = .ok (.iload_n 2, 1) := by decide +kernel
theorem d_X12_count_12 : decode b_X12_count 12 = .ok (.ifCond .lt 8, 3) := by decide +kernel
theorem d_X12_count_15 : decode b_X12_count 15 = .ok (.iload_n 2, 1) := by decide +kernel
theorem d_X12_count_16 : decode b_X12_count 16 = .ok (.iconst 1, 1) := by decide +kernel
theorem d_X12_count_17 : decode b_X12_count 17 = .ok (.if_icmp .le 5, 3) := by decide +kernel
theorem d_X12_count_20 : decode b_X12_count 20 = .ok (.iconst (-1), 1) := by decide +kernel
theorem d_X12_count_21 : decode b_X12_count 21 = .ok (.ireturn, 1) := by decide +kernel
theorem d_X12_count_22 : decode b_X12_count 22 = .ok (.iload_n 2, 1) := by decide +kernel
theorem d_X12_count_23 : decode b_X12_count 23 = .ok (.ifCond .ne 14, 3) := by decide +kernel
theorem d_X12_count_26 : decode b_X12_count 26 = .ok (.aload_n 0, 1) := by decide +kernel
theorem d_X12_count_27 : decode b_X12_count 27 = .ok (.getfield 53, 3) := by decide +kernel
theorem d_X12_count_30 : decode b_X12_count 30 = .ok (.iload_n 1, 1) := by decide +kernel
theorem d_X12_count_31 : decode b_X12_count 31 = .ok (.invokevirtual 167, 3) := by decide +kernel
theorem d_X12_count_34 : decode b_X12_count 34 = .ok (.goto 14, 3) := by decide +kernel
theorem d_X12_count_37 : decode b_X12_count 37 = .ok (.aload_n 0, 1) := by decide +kernel
theorem d_X12_count_38 : decode b_X12_count 38 = .ok (.getfield 53, 3) := by decide +kernel
theorem d_X12_count_41 : decode b_X12_count 41 = .ok (.getfield 170, 3) := by decide +kernel
theorem d_X12_count_44 : decode b_X12_count 44 = .ok (.iload_n 1, 1) := by decide +kernel
theorem d_X12_count_45 : decode b_X12_count 45 = .ok (.invokestatic 140, 3) := by decide +kernel
theorem d_X12_count_48 : decode b_X12_count 48 = .ok (.ireturn, 1) := by decide +kernel
theorem d_X12_end_0 : decode b_X12_end 0 = .ok (.iload_n 1, 1) := by decide +kernel
theorem d_X12_end_1 : decode b_X12_end 1 = .ok (.ifCond .lt 11, 3) := by decide +kernel
theorem d_X12_end_4 : decode b_X12_end 4 = .ok (.iload_n 1, 1) := by decide +kernel
theorem d_X12_end_5 : decode b_X12_end 5 = .ok (.aload_n 0, 1) := by decide +kernel
theorem d_X12_end_6 : decode b_X12_end 6 = .ok (.getfield 13, 3) := by decide +kernel
theorem d_X12_end_9 : decode b_X12_end 9 = .ok (.if_icmp .le 5, 3) := by decide +kernel
theorem d_X12_end_12 : decode b_X12_end 12 = .ok (.iconst (-1), 1) := by decide +kernel
theorem d_X12_end_13 : decode b_X12_end 13 = .ok (.ireturn, 1) := by decide +kernel
theorem d_X12_end_14 : decode b_X12_end 14 = .ok (.aload_n 0, 1) := by decide +kernel
theorem d_X12_end_15 : decode b_X12_end 15 = .ok (.iload_n 1, 1) := by decide +kernel
theorem d_X12_end_16 : decode b_X12_end 16 = .ok (.putfield 13, 3) := by decide +kernel
theorem d_X12_end_19 : decode b_X12_end 19 = .ok (.iload_n 1, 1) := by decide +kernel
theorem d_X12_end_20 : decode b_X12_end 20 = .ok (.ireturn, 1) := by decide +kernel
theorem d_X12_fault_0 : decode b_X12_fault 0 = .ok (.iload_n 1, 1) := by decide +kernel
theorem d_X12_fault_1 : decode b_X12_fault 1 = .ok (.ifCond .ne 13, 3) := by decide +kernel
theorem d_X12_fault_4 : decode b_X12_fault 4 = .ok (.aload_n 0, 1) := by decide +kernel
theorem d_X12_fault_5 : decode b_X12_fault 5 = .ok (.getfield 98, 3) := by decide +kernel
theorem d_X12_fault_8 : decode b_X12_fault 8 = .ok (.getfield 191, 3) := by decide +kernel
theorem d_X12_fault_11 : decode b_X12_fault 11 = .ok (.goto 19, 3) := by decide +kernel
theorem d_X12_fault_14 : decode b_X12_fault 14 = .ok (.iload_n 1, 1) := by decide +kernel
theorem d_X12_fault_15 : decode b_X12_fault 15 = .ok (.iconst 1, 1) := by decide +kernel
theorem d_X12_fault_16 : decode b_X12_fault 16 = .ok (.if_icmp .ne 13, 3) := by decide +kernel
theorem d_X12_fault_19 : decode b_X12_fault 19 = .ok (.aload_n 0, 1) := by decide +kernel
theorem d_X12_fault_20 : decode b_X12_fault 20 = .ok (.getfield 98, 3) := by decide +kernel
theorem d_X12_fault_23 : decode b_X12_fault 23 = .ok (.getfield 194, 3) := by decide +kernel
theorem d_X12_fault_26 : decode b_X12_fault 26 = .ok (.goto 4, 3) := by decide +kernel
theorem d_X12_fault_29 : decode b_X12_fault 29 = .ok (.iconst (-1), 1) := by decide +kernel
theorem d_X12_fault_30 : decode b_X12_fault 30 = .ok (.ireturn, 1) := by decide +kernel
theorem d_X12_feed_0 : decode b_X12_feed 0 = .ok (.aload_n 0, 1) := by decide +kernel
theorem d_X12_feed_1 : decode b_X12_feed 1 = .ok (.getfield 13, 3) := by decide +kernel
theorem d_X12_feed_4 : decode b_X12_feed 4 = .ok (.bipush 20, 2) := by decide +kernel
theorem d_X12_feed_6 : decode b_X12_feed 6 = .ok (.iadd, 1) := by decide +kernel
theorem d_X12_feed_7 : decode b_X12_feed 7 = .ok (.sipush 16000, 3) := by decide +kernel
theorem d_X12_feed_10 : decode b_X12_feed 10 = .ok (.if_icmp .gt 15, 3) := by decide +kernel
theorem d_X12_feed_13 : decode b_X12_feed 13 = .ok (.aload_n 0, 1) := by decide +kernel
theorem d_X12_feed_14 : decode b_X12_feed 14 = .ok (.getfield 17, 3) := by decide +kernel
theorem d_X12_feed_17 : decode b_X12_feed 17 = .ok (.bipush 20, 2) := by decide +kernel
theorem d_X12_feed_19 : decode b_X12_feed 19 = .ok (.iadd, 1) := by decide +kernel
theorem d_X12_feed_20 : decode b_X12_feed 20 = .ok (.ldc 118, 2) := by decide +kernel
theorem d_X12_feed_22 : decode b_X12_feed 22 = .ok (.if_icmp .le 5, 3) := by decide +kernel
theorem d_X12_feed_25 : decode b_X12_feed 25 = .ok (.iconst (-1), 1) := by decide +kernel
theorem d_X12_feed_26 : decode b_X12_feed 26 = .ok (.ireturn, 1) := by decide +kernel
theorem d_X12_feed_27 : decode b_X12_feed 27 = .ok (.aload_n 0, 1) := by decide +kernel
theorem d_X12_feed_28 : decode b_X12_feed 28 = .ok (.iload_n 1, 1) := by decide +kernel
theorem d_X12_feed_29 : decode b_X12_feed 29 = .ok (.invokevirtual 119, 3) := by decide +kernel
theorem d_X12_feed_32 : decode b_X12_feed 32 = .ok (.aload_n 0, 1) := by decide +kernel
theorem d_X12_feed_33 : decode b_X12_feed 33 = .ok (.iload_n 2, 1) := by decide +kernel
theorem d_X12_feed_34 : decode b_X12_feed 34 = .ok (.invokevirtual 119, 3) := by decide +kernel
theorem d_X12_feed_37 : decode b_X12_feed 37 = .ok (.aload_n 0, 1) := by decide +kernel
theorem d_X12_feed_38 : decode b_X12_feed 38 = .ok (.iload_n 3, 1) := by decide +kernel
theorem d_X12_feed_39 : decode b_X12_feed 39 = .ok (.invokevirtual 119, 3) := by decide +kernel
theorem d_X12_feed_42 : decode b_X12_feed 42 = .ok (.aload_n 0, 1) := by decide +kernel
theorem d_X12_feed_43 : decode b_X12_feed 43 = .ok (.iload 4, 2) := by decide +kernel
theorem d_X12_feed_45 : decode b_X12_feed 45 = .ok (.invokevirtual 119, 3) := by decide +kernel
theorem d_X12_feed_48 : decode b_X12_feed 48 = .ok (.aload_n 0, 1) := by decide +kernel
theorem d_X12_feed_49 : decode b_X12_feed 49 = .ok (.iload 5, 2) := by decide +kernel
theorem d_X12_feed_51 : decode b_X12_feed 51 = .ok (.invokevirtual 119, 3) := by decide +kernel
theorem d_X12_feed_54 : decode b_X12_feed 54 = .ok (.aload_n 0, 1) := by decide +kernel
theorem d_X12_feed_55 : decode b_X12_feed 55 = .ok (.dup, 1) := by decide +kernel
theorem d_X12_feed_56 : decode b_X12_feed 56 = .ok (.getfield 17, 3) := by decide +kernel
theorem d_X12_feed_59 : decode b_X12_feed 59 = .ok (.bipush 20, 2) := by decide +kernel
theorem d_X12_feed_61 : decode b_X12_feed 61 = .ok (.iadd, 1) := by decide +kernel
theorem d_X12_feed_62 : decode b_X12_feed 62 = .ok (.putfield 17, 3) := by decide +kernel
theorem d_X12_feed_65 : decode b_X12_feed 65 = .ok (.aload_n 0, 1) := by decide +kernel
theorem d_X12_feed_66 : decode b_X12_feed 66 = .ok (.getfield 13, 3) := by decide +kernel
theorem d_X12_feed_69 : decode b_X12_feed 69 = .ok (.ireturn, 1) := by decide +kernel
theorem d_X12_input_0 : decode b_X12_input 0 = .ok (.aload_n 0, 1) := by decide +kernel
theorem d_X12_input_1 : decode b_X12_input 1 = .ok (.getfield 105, 3) := by decide +kernel
theorem d_X12_input_4 : decode b_X12_input 4 = .ok (.iload_n 1, 1) := by decide +kernel
theorem d_X12_input_5 : decode b_X12_input 5 = .ok (.invokevirtual 201, 3) := by decide +kernel
theorem d_X12_input_8 : decode b_X12_input 8 = .ok (.ireturn, 1) := by decide +kernel
theorem d_X12_link_0 : decode b_X12_link 0 = .ok (.aload_n 0, 1) := by decide +kernel
theorem d_X12_link_1 : decode b_X12_link 1 = .ok (.getfield 98, 3) := by decide +kernel
theorem d_X12_link_4 : decode b_X12_link 4 = .ok (.invokevirtual 187, 3) := by decide +kernel
theorem d_X12_link_7 : decode b_X12_link 7 = .ok (.ireturn, 1) := by decide +kernel
theorem d_X12_name_0 : decode b_X12_name 0 = .ok (.aload_n 0, 1) := by decide +kernel
theorem d_X12_name_1 : decode b_X12_name 1 = .ok (.getfield 53, 3) := by decide +kernel
theorem d_X12_name_4 : decode b_X12_name 4 = .ok (.aload_n 0, 1) := by decide +kernel
theorem d_X12_name_5 : decode b_X12_name 5 = .ok (.getfield 53, 3) := by decide +kernel
theorem d_X12_name_8 : decode b_X12_name 8 = .ok (.iload_n 1, 1) := by decide +kernel
theorem d_X12_name_9 : decode b_X12_name 9 = .ok (.iload_n 2, 1) := by decide +kernel
theorem d_X12_name_10 : decode b_X12_name 10 = .ok (.invokevirtual 173, 3) := by decide +kernel
theorem d_X12_name_13 : decode b_X12_name 13 = .ok (.iload_n 3, 1) := by decide +kernel
theorem d_X12_name_14 : decode b_X12_name 14 = .ok (.invokevirtual 177, 3) := by decide +kernel
theorem d_X12_name_17 : decode b_X12_name 17 = .ok (.ireturn, 1) := by decide +kernel
theorem d_X12_objects_0 : decode b_X12_objects 0 = .ok (.aload_n 0, 1) := by decide +kernel
theorem d_X12_objects_1 : decode b_X12_objects 1 = .ok (.getfield 53, 3) := by decide +kernel
theorem d_X12_objects_4 : decode b_X12_objects 4 = .ok (.getfield 123, 3) := by decide +kernel
theorem d_X12_objects_7 : decode b_X12_objects 7 = .ok (.ireturn, 1) := by decide +kernel
theorem d_X12_out_0 : decode b_X12_out 0 = .ok (.aload_n 0, 1) := by decide +kernel
theorem d_X12_out_1 : decode b_X12_out 1 = .ok (.getfield 105, 3) := by decide +kernel
theorem d_X12_out_4 : decode b_X12_out 4 = .ok (.iload_n 1, 1) := by decide +kernel
theorem d_X12_out_5 : decode b_X12_out 5 = .ok (.invokevirtual 229, 3) := by decide +kernel
theorem d_X12_out_8 : decode b_X12_out 8 = .ok (.ireturn, 1) := by decide +kernel
theorem d_X12_peek_0 : decode b_X12_peek 0 = .ok (.aload_n 0, 1) := by decide +kernel
theorem d_X12_peek_1 : decode b_X12_peek 1 = .ok (.getfield 114, 3) := by decide +kernel
theorem d_X12_peek_4 : decode b_X12_peek 4 = .ok (.getfield 232, 3) := by decide +kernel
theorem d_X12_peek_7 : decode b_X12_peek 7 = .ok (.iload_n 1, 1) := by decide +kernel
theorem d_X12_peek_8 : decode b_X12_peek 8 = .ok (.invokestatic 140, 3) := by decide +kernel
theorem d_X12_peek_11 : decode b_X12_peek 11 = .ok (.ireturn, 1) := by decide +kernel
theorem d_X12_pick_0 : decode b_X12_pick 0 = .ok (.aload_n 0, 1) := by decide +kernel
theorem d_X12_pick_1 : decode b_X12_pick 1 = .ok (.getfield 53, 3) := by decide +kernel
theorem d_X12_pick_4 : decode b_X12_pick 4 = .ok (.iload_n 1, 1) := by decide +kernel
theorem d_X12_pick_5 : decode b_X12_pick 5 = .ok (.invokevirtual 163, 3) := by decide +kernel
theorem d_X12_pick_8 : decode b_X12_pick 8 = .ok (.ifCond .eq 14, 3) := by decide +kernel
theorem d_X12_pick_11 : decode b_X12_pick 11 = .ok (.aload_n 0, 1) := by decide +kernel
theorem d_X12_pick_12 : decode b_X12_pick 12 = .ok (.getfield 98, 3) := by decide +kernel
theorem d_X12_pick_15 : decode b_X12_pick 15 = .ok (.iload_n 1, 1) := by decide +kernel
theorem d_X12_pick_16 : decode b_X12_pick 16 = .ok (.invokevirtual 184, 3) := by decide +kernel
theorem d_X12_pick_19 : decode b_X12_pick 19 = .ok (.goto 4, 3) := by decide +kernel
theorem d_X12_pick_22 : decode b_X12_pick 22 = .ok (.iconst (-1), 1) := by decide +kernel
theorem d_X12_pick_23 : decode b_X12_pick 23 = .ok (.ireturn, 1) := by decide +kernel
theorem d_X12_place_0 : decode b_X12_place 0 = .ok (.aload_n 0, 1) := by decide +kernel
theorem d_X12_place_1 : decode b_X12_place 1 = .ok (.getfield 20, 3) := by decide +kernel
theorem d_X12_place_4 : decode b_X12_place 4 = .ok (.ireturn, 1) := by decide +kernel
theorem d_X12_result_0 : decode b_X12_result 0 = .ok (.aload_n 0, 1) := by decide +kernel
theorem d_X12_result_1 : decode b_X12_result 1 = .ok (.getfield 114, 3) := by decide +kernel
theorem d_X12_result_4 : decode b_X12_result 4 = .ok (.getfield 211, 3) := by decide +kernel
theorem d_X12_result_7 : decode b_X12_result 7 = .ok (.ireturn, 1) := by decide +kernel
theorem d_X12_run_0 : decode b_X12_run 0 = .ok (.aload_n 0, 1) := by decide +kernel
theorem d_X12_run_1 : decode b_X12_run 1 = .ok (.getfield 98, 3) := by decide +kernel
theorem d_X12_run_4 : decode b_X12_run 4 = .ok (.getfield 204, 3) := by decide +kernel
theorem d_X12_run_7 : decode b_X12_run 7 = .ok (.ifCond .ne 5, 3) := by decide +kernel
theorem d_X12_run_10 : decode b_X12_run 10 = .ok (.iconst (-1), 1) := by decide +kernel
theorem d_X12_run_11 : decode b_X12_run 11 = .ok (.ireturn, 1) := by decide +kernel
theorem d_X12_run_12 : decode b_X12_run 12 = .ok (.iload_n 1, 1) := by decide +kernel
theorem d_X12_run_13 : decode b_X12_run 13 = .ok (.ifCond .lt 10, 3) := by decide +kernel
theorem d_X12_run_16 : decode b_X12_run 16 = .ok (.iload_n 1, 1) := by decide +kernel
theorem d_X12_run_17 : decode b_X12_run 17 = .ok (.sipush 20000, 3) := by decide +kernel
theorem d_X12_run_20 : decode b_X12_run 20 = .ok (.if_icmp .le 8, 3) := by decide +kernel
theorem d_X12_run_23 : decode b_X12_run 23 = .ok (.bipush (-2), 2) := by decide +kernel
theorem d_X12_run_25 : decode b_X12_run 25 = .ok (.goto 11, 3) := by decide +kernel
theorem d_X12_run_28 : decode b_X12_run 28 = .ok (.aload_n 0, 1) := by decide +kernel
theorem d_X12_run_29 : decode b_X12_run 29 = .ok (.getfield 114, 3) := by decide +kernel
theorem d_X12_run_32 : decode b_X12_run 32 = .ok (.iload_n 1, 1) := by decide +kernel
theorem d_X12_run_33 : decode b_X12_run 33 = .ok (.invokevirtual 208, 3) := by decide +kernel
theorem d_X12_run_36 : decode b_X12_run 36 = .ok (.ireturn, 1) := by decide +kernel
theorem d_X12_set_0 : decode b_X12_set 0 = .ok (.iload_n 1, 1) := by decide +kernel
theorem d_X12_set_1 : decode b_X12_set 1 = .ok (.ifCond .lt 13, 3) := by decide +kernel
theorem d_X12_set_4 : decode b_X12_set 4 = .ok (.iload_n 1, 1) := by decide +kernel
theorem d_X12_set_5 : decode b_X12_set 5 = .ok (.aload_n 0, 1) := by decide +kernel
theorem d_X12_set_6 : decode b_X12_set 6 = .ok (.arraylength, 1) := by decide +kernel
theorem d_X12_set_7 : decode b_X12_set 7 = .ok (.if_icmp .ge 7, 3) := by decide +kernel
theorem d_X12_set_10 : decode b_X12_set 10 = .ok (.aload_n 0, 1) := by decide +kernel
theorem d_X12_set_11 : decode b_X12_set 11 = .ok (.iload_n 1, 1) := by decide +kernel
theorem d_X12_set_12 : decode b_X12_set 12 = .ok (.iload_n 2, 1) := by decide +kernel
theorem d_X12_set_13 : decode b_X12_set 13 = .ok (.iastore, 1) := by decide +kernel
theorem d_X12_set_14 : decode b_X12_set 14 = .ok (.return_, 1) := by decide +kernel
theorem d_X12_strays_0 : decode b_X12_strays 0 = .ok (.aload_n 0, 1) := by decide +kernel
theorem d_X12_strays_1 : decode b_X12_strays 1 = .ok (.getfield 114, 3) := by decide +kernel
theorem d_X12_strays_4 : decode b_X12_strays 4 = .ok (.getfield 235, 3) := by decide +kernel
theorem d_X12_strays_7 : decode b_X12_strays 7 = .ok (.ireturn, 1) := by decide +kernel
theorem d_X12_symbol_0 : decode b_X12_symbol 0 = .ok (.aload_n 0, 1) := by decide +kernel
theorem d_X12_symbol_1 : decode b_X12_symbol 1 = .ok (.getfield 53, 3) := by decide +kernel
theorem d_X12_symbol_4 : decode b_X12_symbol 4 = .ok (.iload_n 1, 1) := by decide +kernel
theorem d_X12_symbol_5 : decode b_X12_symbol 5 = .ok (.iload_n 2, 1) := by decide +kernel
theorem d_X12_symbol_6 : decode b_X12_symbol 6 = .ok (.invokevirtual 173, 3) := by decide +kernel
theorem d_X12_symbol_9 : decode b_X12_symbol 9 = .ok (.istore_n 3, 1) := by decide +kernel
theorem d_X12_symbol_10 : decode b_X12_symbol 10 = .ok (.iload_n 3, 1) := by decide +kernel
theorem d_X12_symbol_11 : decode b_X12_symbol 11 = .ok (.ifCond .ge 5, 3) := by decide +kernel
theorem d_X12_symbol_14 : decode b_X12_symbol 14 = .ok (.iconst (-1), 1) := by decide +kernel
theorem d_X12_symbol_15 : decode b_X12_symbol 15 = .ok (.ireturn, 1) := by decide +kernel
theorem d_X12_symbol_16 : decode b_X12_symbol 16 = .ok (.aload_n 0, 1) := by decide +kernel
theorem d_X12_symbol_17 : decode b_X12_symbol 17 = .ok (.getfield 53, 3) := by decide +kernel
theorem d_X12_symbol_20 : decode b_X12_symbol 20 = .ok (.iload_n 3, 1) := by decide +kernel
theorem d_X12_symbol_21 : decode b_X12_symbol 21 = .ok (.iconst 1, 1) := by decide +kernel
theorem d_X12_symbol_22 : decode b_X12_symbol 22 = .ok (.invokevirtual 180, 3) := by decide +kernel
theorem d_X12_symbol_25 : decode b_X12_symbol 25 = .ok (.ifCond .eq 7, 3) := by decide +kernel
theorem d_X12_symbol_28 : decode b_X12_symbol 28 = .ok (.iconst 2, 1) := by decide +kernel
theorem d_X12_symbol_29 : decode b_X12_symbol 29 = .ok (.goto 4, 3) := by decide +kernel
theorem d_X12_symbol_32 : decode b_X12_symbol 32 = .ok (.iconst 1, 1) := by decide +kernel
theorem d_X12_symbol_33 : decode b_X12_symbol 33 = .ok (.istore 4, 2) := by decide +kernel
theorem d_X12_symbol_35 : decode b_X12_symbol 35 = .ok (.aload_n 0, 1) := by decide +kernel
theorem d_X12_symbol_36 : decode b_X12_symbol 36 = .ok (.getfield 53, 3) := by decide +kernel
theorem d_X12_symbol_39 : decode b_X12_symbol 39 = .ok (.iload_n 3, 1) := by decide +kernel
theorem d_X12_symbol_40 : decode b_X12_symbol 40 = .ok (.iconst 4, 1) := by decide +kernel
theorem d_X12_symbol_41 : decode b_X12_symbol 41 = .ok (.invokevirtual 180, 3) := by decide +kernel
theorem d_X12_symbol_44 : decode b_X12_symbol 44 = .ok (.ifCond .eq 8, 3) := by decide +kernel
theorem d_X12_symbol_47 : decode b_X12_symbol 47 = .ok (.iload 4, 2) := by decide +kernel
theorem d_X12_symbol_49 : decode b_X12_symbol 49 = .ok (.iconst 4, 1) := by decide +kernel
theorem d_X12_symbol_50 : decode b_X12_symbol 50 = .ok (.iadd, 1) := by decide +kernel
theorem d_X12_symbol_51 : decode b_X12_symbol 51 = .ok (.ireturn, 1) := by decide +kernel
theorem d_X12_symbol_52 : decode b_X12_symbol 52 = .ok (.aload_n 0, 1) := by decide +kernel
theorem d_X12_symbol_53 : decode b_X12_symbol 53 = .ok (.getfield 53, 3) := by decide +kernel
theorem d_X12_symbol_56 : decode b_X12_symbol 56 = .ok (.iload_n 3, 1) := by decide +kernel
theorem d_X12_symbol_57 : decode b_X12_symbol 57 = .ok (.bipush 8, 2) := by decide +kernel
theorem d_X12_symbol_59 : decode b_X12_symbol 59 = .ok (.invokevirtual 180, 3) := by decide +kernel
theorem d_X12_symbol_62 : decode b_X12_symbol 62 = .ok (.ifCond .eq 11, 3) := by decide +kernel
theorem d_X12_symbol_65 : decode b_X12_symbol 65 = .ok (.iload 4, 2) := by decide +kernel
theorem d_X12_symbol_67 : decode b_X12_symbol 67 = .ok (.bipush 8, 2) := by decide +kernel
theorem d_X12_symbol_69 : decode b_X12_symbol 69 = .ok (.iadd, 1) := by decide +kernel
theorem d_X12_symbol_70 : decode b_X12_symbol 70 = .ok (.goto 5, 3) := by decide +kernel
theorem d_X12_symbol_73 : decode b_X12_symbol 73 = .ok (.iload 4, 2) := by decide +kernel
theorem d_X12_symbol_75 : decode b_X12_symbol 75 = .ok (.ireturn, 1) := by decide +kernel
theorem d_X12_takeBytes_0 : decode b_X12_takeBytes 0 = .ok (.bipush 24, 2) := by decide +kernel
theorem d_X12_takeBytes_2 : decode b_X12_takeBytes 2 = .ok (.istore_n 2, 1) := by decide +kernel
theorem d_X12_takeBytes_3 : decode b_X12_takeBytes 3 = .ok (.iload_n 2, 1) := by decide +kernel
theorem d_X12_takeBytes_4 : decode b_X12_takeBytes 4 = .ok (.ifCond .lt 44, 3) := by decide +kernel
theorem d_X12_takeBytes_7 : decode b_X12_takeBytes 7 = .ok (.aload_n 0, 1) := by decide +kernel
theorem d_X12_takeBytes_8 : decode b_X12_takeBytes 8 = .ok (.getfield 13, 3) := by decide +kernel
theorem d_X12_takeBytes_11 : decode b_X12_takeBytes 11 = .ok (.aload_n 0, 1) := by decide +kernel
theorem d_X12_takeBytes_12 : decode b_X12_takeBytes 12 = .ok (.getfield 9, 3) := by decide +kernel
theorem d_X12_takeBytes_15 : decode b_X12_takeBytes 15 = .ok (.arraylength, 1) := by decide +kernel
theorem d_X12_takeBytes_16 : decode b_X12_takeBytes 16 = .ok (.if_icmp .ge 32, 3) := by decide +kernel
theorem d_X12_takeBytes_19 : decode b_X12_takeBytes 19 = .ok (.aload_n 0, 1) := by decide +kernel
theorem d_X12_takeBytes_20 : decode b_X12_takeBytes 20 = .ok (.getfield 9, 3) := by decide +kernel
theorem d_X12_takeBytes_23 : decode b_X12_takeBytes 23 = .ok (.aload_n 0, 1) := by decide +kernel
theorem d_X12_takeBytes_24 : decode b_X12_takeBytes 24 = .ok (.getfield 13, 3) := by decide +kernel
theorem d_X12_takeBytes_27 : decode b_X12_takeBytes 27 = .ok (.iload_n 1, 1) := by decide +kernel
theorem d_X12_takeBytes_28 : decode b_X12_takeBytes 28 = .ok (.iload_n 2, 1) := by decide +kernel
theorem d_X12_takeBytes_29 : decode b_X12_takeBytes 29 = .ok (.ishr, 1) := by decide +kernel
theorem d_X12_takeBytes_30 : decode b_X12_takeBytes 30 = .ok (.i2b, 1) := by decide +kernel
theorem d_X12_takeBytes_31 : decode b_X12_takeBytes 31 = .ok (.bastore, 1) := by decide +kernel
theorem d_X12_takeBytes_32 : decode b_X12_takeBytes 32 = .ok (.aload_n 0, 1) := by decide +kernel
theorem d_X12_takeBytes_33 : decode b_X12_takeBytes 33 = .ok (.dup, 1) := by decide +kernel
theorem d_X12_takeBytes_34 : decode b_X12_takeBytes 34 = .ok (.getfield 13, 3) := by decide +kernel
theorem d_X12_takeBytes_37 : decode b_X12_takeBytes 37 = .ok (.iconst 1, 1) := by decide +kernel
theorem d_X12_takeBytes_38 : decode b_X12_takeBytes 38 = .ok (.iadd, 1) := by decide +kernel
theorem d_X12_takeBytes_39 : decode b_X12_takeBytes 39 = .ok (.putfield 13, 3) := by decide +kernel
theorem d_X12_takeBytes_42 : decode b_X12_takeBytes 42 = .ok (.iinc 2 (-8), 3) := by decide +kernel
theorem d_X12_takeBytes_45 : decode b_X12_takeBytes 45 = .ok (.goto (-42), 3) := by decide +kernel
theorem d_X12_takeBytes_48 : decode b_X12_takeBytes 48 = .ok (.return_, 1) := by decide +kernel
theorem d_X12_trap_0 : decode b_X12_trap 0 = .ok (.iload_n 1, 1) := by decide +kernel
theorem d_X12_trap_1 : decode b_X12_trap 1 = .ok (.ifCond .ne 20, 3) := by decide +kernel
theorem d_X12_trap_4 : decode b_X12_trap 4 = .ok (.aload_n 0, 1) := by decide +kernel
theorem d_X12_trap_5 : decode b_X12_trap 5 = .ok (.getfield 53, 3) := by decide +kernel
theorem d_X12_trap_8 : decode b_X12_trap 8 = .ok (.aload_n 0, 1) := by decide +kernel
theorem d_X12_trap_9 : decode b_X12_trap 9 = .ok (.getfield 114, 3) := by decide +kernel
theorem d_X12_trap_12 : decode b_X12_trap 12 = .ok (.getfield 217, 3) := by decide +kernel
theorem d_X12_trap_15 : decode b_X12_trap 15 = .ok (.invokevirtual 220, 3) := by decide +kernel
theorem d_X12_trap_18 : decode b_X12_trap 18 = .ok (.goto 19, 3) := by decide +kernel
theorem d_X12_trap_21 : decode b_X12_trap 21 = .ok (.iload_n 1, 1) := by decide +kernel
theorem d_X12_trap_22 : decode b_X12_trap 22 = .ok (.iconst 1, 1) := by decide +kernel
theorem d_X12_trap_23 : decode b_X12_trap 23 = .ok (.if_icmp .ne 13, 3) := by decide +kernel
theorem d_X12_trap_26 : decode b_X12_trap 26 = .ok (.aload_n 0, 1) := by decide +kernel
theorem d_X12_trap_27 : decode b_X12_trap 27 = .ok (.getfield 114, 3) := by decide +kernel
theorem d_X12_trap_30 : decode b_X12_trap 30 = .ok (.getfield 223, 3) := by decide +kernel
theorem d_X12_trap_33 : decode b_X12_trap 33 = .ok (.goto 4, 3) := by decide +kernel
theorem d_X12_trap_36 : decode b_X12_trap 36 = .ok (.iconst 0, 1) := by decide +kernel
theorem d_X12_trap_37 : decode b_X12_trap 37 = .ok (.ireturn, 1) := by decide +kernel
theorem d_X12_turns_0 : decode b_X12_turns 0 = .ok (.aload_n 0, 1) := by decide +kernel
theorem d_X12_turns_1 : decode b_X12_turns 1 = .ok (.getfield 114, 3) := by decide +kernel
theorem d_X12_turns_4 : decode b_X12_turns 4 = .ok (.getfield 214, 3) := by decide +kernel
theorem d_X12_turns_7 : decode b_X12_turns 7 = .ok (.ireturn, 1) := by decide +kernel
theorem d_X12_written_0 : decode b_X12_written 0 = .ok (.aload_n 0, 1) := by decide +kernel
theorem d_X12_written_1 : decode b_X12_written 1 = .ok (.getfield 105, 3) := by decide +kernel
theorem d_X12_written_4 : decode b_X12_written 4 = .ok (.getfield 226, 3) := by decide +kernel
theorem d_X12_written_7 : decode b_X12_written 7 = .ok (.ireturn, 1) := by decide +kernel
theorem d_X0_init_0 : decode b_X0_init 0 = .ok (.aload_n 0, 1) := by decide +kernel
theorem d_X0_init_1 : decode b_X0_init 1 = .ok (.invokespecial 7, 3) := by decide +kernel
theorem d_X0_init_4 : decode b_X0_init 4 = .ok (.aload_n 0, 1) := by decide +kernel
theorem d_X0_init_5 : decode b_X0_init 5 = .ok (.ldc 13, 2) := by decide +kernel
theorem d_X0_init_7 : decode b_X0_init 7 = .ok (.newarray .int, 2) := by decide +kernel
theorem d_X0_init_9 : decode b_X0_init 9 = .ok (.putfield 14, 3) := by decide +kernel
theorem d_X0_init_12 : decode b_X0_init 12 = .ok (.aload_n 0, 1) := by decide +kernel
theorem d_X0_init_13 : decode b_X0_init 13 = .ok (.iconst 0, 1) := by decide +kernel
theorem d_X0_init_14 : decode b_X0_init 14 = .ok (.putfield 18, 3) := by decide +kernel
theorem d_X0_init_17 : decode b_X0_init 17 = .ok (.return_, 1) := by decide +kernel
theorem d_X0_aim_0 : decode b_X0_aim 0 = .ok (.iload_n 1, 1) := by decide +kernel
theorem d_X0_aim_1 : decode b_X0_aim 1 = .ok (.istore_n 3, 1) := by decide +kernel
theorem d_X0_aim_2 : decode b_X0_aim 2 = .ok (.aload_n 0, 1) := by decide +kernel
theorem d_X0_aim_3 : decode b_X0_aim 3 = .ok (.getfield 18, 3) := by decide +kernel
theorem d_X0_aim_6 : decode b_X0_aim 6 = .ok (.istore 4, 2) := by decide +kernel
theorem d_X0_aim_8 : decode b_X0_aim 8 = .ok (.iload 4, 2) := by decide +kernel
theorem d_X0_aim_10 : decode b_X0_aim 10 = .ok (.ifCond .le 39, 3) := by decide +kernel
theorem d_X0_aim_13 : decode b_X0_aim 13 = .ok (.iload_n 3, 1) := by decide +kernel
theorem d_X0_aim_14 : decode b_X0_aim 14 = .ok (.ifCond .lt 35, 3) := by decide +kernel
theorem d_X0_aim_17 : decode b_X0_aim 17 = .ok (.aload_n 0, 1) := by decide +kernel
theorem d_X0_aim_18 : decode b_X0_aim 18 = .ok (.getfield 14, 3) := by decide +kernel
theorem d_X0_aim_21 : decode b_X0_aim 21 = .ok (.iload_n 3, 1) := by decide +kernel
theorem d_X0_aim_22 : decode b_X0_aim 22 = .ok (.iconst 1, 1) := by decide +kernel
theorem d_X0_aim_23 : decode b_X0_aim 23 = .ok (.iadd, 1) := by decide +kernel
theorem d_X0_aim_24 : decode b_X0_aim 24 = .ok (.invokestatic 31, 3) := by decide +kernel
theorem d_X0_aim_27 : decode b_X0_aim 27 = .ok (.istore 5, 2) := by decide +kernel
theorem d_X0_aim_29 : decode b_X0_aim 29 = .ok (.aload_n 0, 1) := by decide +kernel
theorem d_X0_aim_30 : decode b_X0_aim 30 = .ok (.getfield 14, 3) := by decide +kernel
theorem d_X0_aim_33 : decode b_X0_aim 33 = .ok (.iload_n 3, 1) := by decide +kernel
theorem d_X0_aim_34 : decode b_X0_aim 34 = .ok (.iconst 1, 1) := by decide +kernel
theorem d_X0_aim_35 : decode b_X0_aim 35 = .ok (.iadd, 1) := by decide +kernel
theorem d_X0_aim_36 : decode b_X0_aim 36 = .ok (.iload_n 2, 1) := by decide +kernel
theorem d_X0_aim_37 : decode b_X0_aim 37 = .ok (.invokestatic 35, 3) := by decide +kernel
theorem d_X0_aim_40 : decode b_X0_aim 40 = .ok (.iload 5, 2) := by decide +kernel
theorem d_X0_aim_42 : decode b_X0_aim 42 = .ok (.istore_n 3, 1) := by decide +kernel
theorem d_X0_aim_43 : decode b_X0_aim 43 = .ok (.iinc 4 (-1), 3) := by decide +kernel
theorem d_X0_aim_46 : decode b_X0_aim 46 = .ok (.goto (-38), 3) := by decide +kernel
theorem d_X0_aim_49 : decode b_X0_aim 49 = .ok (.return_, 1) := by decide +kernel
theorem d_X0_cut_0 : decode b_X0_cut 0 = .ok (.aload_n 0, 1) := by decide +kernel
theorem d_X0_cut_1 : decode b_X0_cut 1 = .ok (.iload_n 1, 1) := by decide +kernel
theorem d_X0_cut_2 : decode b_X0_cut 2 = .ok (.aload_n 0, 1) := by decide +kernel
theorem d_X0_cut_3 : decode b_X0_cut 3 = .ok (.getfield 18, 3) := by decide +kernel
theorem d_X0_cut_6 : decode b_X0_cut 6 = .ok (.invokestatic 25, 3) := by decide +kernel
theorem d_X0_cut_9 : decode b_X0_cut 9 = .ok (.putfield 18, 3) := by decide +kernel
theorem d_X0_cut_12 : decode b_X0_cut 12 = .ok (.return_, 1) := by decide +kernel
theorem d_X0_emit_0 : decode b_X0_emit 0 = .ok (.aload_n 0, 1) := by decide +kernel
theorem d_X0_emit_1 : decode b_X0_emit 1 = .ok (.getfield 18, 3) := by decide +kernel
theorem d_X0_emit_4 : decode b_X0_emit 4 = .ok (.istore 5, 2) := by decide +kernel
theorem d_X0_emit_6 : decode b_X0_emit 6 = .ok (.iload 5, 2) := by decide +kernel
theorem d_X0_emit_8 : decode b_X0_emit 8 = .ok (.ifCond .lt 82, 3) := by decide +kernel
theorem d_X0_emit_11 : decode b_X0_emit 11 = .ok (.iload 5, 2) := by decide +kernel
theorem d_X0_emit_13 : decode b_X0_emit 13 = .ok (.aload_n 0, 1) := by decide +kernel
theorem d_X0_emit_14 : decode b_X0_emit 14 = .ok (.getfield 14, 3) := by decide +kernel
theorem d_X0_emit_17 : decode b_X0_emit 17 = .ok (.arraylength, 1) := by decide +kernel
theorem d_X0_emit_18 : decode b_X0_emit 18 = .ok (.iconst 4, 1) := by decide +kernel
theorem d_X0_emit_19 : decode b_X0_emit 19 = .ok (.isub, 1) := by decide +kernel
theorem d_X0_emit_20 : decode b_X0_emit 20 = .ok (.if_icmp .ge 70, 3) := by decide +kernel
theorem d_X0_emit_23 : decode b_X0_emit 23 = .ok (.aload_n 0, 1) := by decide +kernel
theorem d_X0_emit_24 : decode b_X0_emit 24 = .ok (.getfield 14, 3) := by decide +kernel
theorem d_X0_emit_27 : decode b_X0_emit 27 = .ok (.iload 5, 2) := by decide +kernel
theorem d_X0_emit_29 : decode b_X0_emit 29 = .ok (.iload_n 1, 1) := by decide +kernel
theorem d_X0_emit_30 : decode b_X0_emit 30 = .ok (.iastore, 1) := by decide +kernel
theorem d_X0_emit_31 : decode b_X0_emit 31 = .ok (.aload_n 0, 1) := by decide +kernel
theorem d_X0_emit_32 : decode b_X0_emit 32 = .ok (.getfield 14, 3) := by decide +kernel
theorem d_X0_emit_35 : decode b_X0_emit 35 = .ok (.iload 5, 2) := by decide +kernel
theorem d_X0_emit_37 : decode b_X0_emit 37 = .ok (.iconst 1, 1) := by decide +kernel
theorem d_X0_emit_38 : decode b_X0_emit 38 = .ok (.iadd, 1) := by decide +kernel
theorem d_X0_emit_39 : decode b_X0_emit 39 = .ok (.iload_n 2, 1) := by decide +kernel
theorem d_X0_emit_40 : decode b_X0_emit 40 = .ok (.iastore, 1) := by decide +kernel
theorem d_X0_emit_41 : decode b_X0_emit 41 = .ok (.aload_n 0, 1) := by decide +kernel
theorem d_X0_emit_42 : decode b_X0_emit 42 = .ok (.getfield 14, 3) := by decide +kernel
theorem d_X0_emit_45 : decode b_X0_emit 45 = .ok (.iload 5, 2) := by decide +kernel
theorem d_X0_emit_47 : decode b_X0_emit 47 = .ok (.iconst 2, 1) := by decide +kernel
theorem d_X0_emit_48 : decode b_X0_emit 48 = .ok (.iadd, 1) := by decide +kernel
theorem d_X0_emit_49 : decode b_X0_emit 49 = .ok (.iload_n 3, 1) := by decide +kernel
theorem d_X0_emit_50 : decode b_X0_emit 50 = .ok (.iastore, 1) := by decide +kernel
theorem d_X0_emit_51 : decode b_X0_emit 51 = .ok (.aload_n 0, 1) := by decide +kernel
theorem d_X0_emit_52 : decode b_X0_emit 52 = .ok (.getfield 14, 3) := by decide +kernel
theorem d_X0_emit_55 : decode b_X0_emit 55 = .ok (.iload 5, 2) := by decide +kernel
theorem d_X0_emit_57 : decode b_X0_emit 57 = .ok (.iconst 3, 1) := by decide +kernel
theorem d_X0_emit_58 : decode b_X0_emit 58 = .ok (.iadd, 1) := by decide +kernel
theorem d_X0_emit_59 : decode b_X0_emit 59 = .ok (.iload 4, 2) := by decide +kernel
theorem d_X0_emit_61 : decode b_X0_emit 61 = .ok (.iastore, 1) := by decide +kernel
theorem d_X0_emit_62 : decode b_X0_emit 62 = .ok (.aload_n 0, 1) := by decide +kernel
theorem d_X0_emit_63 : decode b_X0_emit 63 = .ok (.iload 5, 2) := by decide +kernel
theorem d_X0_emit_65 : decode b_X0_emit 65 = .ok (.iload_n 1, 1) := by decide +kernel
theorem d_X0_emit_66 : decode b_X0_emit 66 = .ok (.ifCond .lt 19, 3) := by decide +kernel
theorem d_X0_emit_69 : decode b_X0_emit 69 = .ok (.iload_n 1, 1) := by decide +kernel
theorem d_X0_emit_70 : decode b_X0_emit 70 = .ok (.getstatic 22, 3) := by decide +kernel
theorem d_X0_emit_73 : decode b_X0_emit 73 = .ok (.arraylength, 1) := by decide +kernel
theorem d_X0_emit_74 : decode b_X0_emit 74 = .ok (.if_icmp .ge 11, 3) := by decide +kernel
theorem d_X0_emit_77 : decode b_X0_emit 77 = .ok (.getstatic 22, 3) := by decide +kernel
theorem d_X0_emit_80 : decode b_X0_emit 80 = .ok (.iload_n 1, 1) := by decide +kernel
theorem d_X0_emit_81 : decode b_X0_emit 81 = .ok (.iaload, 1) := by decide +kernel
theorem d_X0_emit_82 : decode b_X0_emit 82 = .ok (.goto 4, 3) := by decide +kernel
theorem d_X0_emit_85 : decode b_X0_emit 85 = .ok (.iconst 0, 1) := by decide +kernel
theorem d_X0_emit_86 : decode b_X0_emit 86 = .ok (.iadd, 1) := by decide +kernel
theorem d_X0_emit_87 : decode b_X0_emit 87 = .ok (.putfield 18, 3) := by decide +kernel
theorem d_X0_emit_90 : decode b_X0_emit 90 = .ok (.iload 5, 2) := by decide +kernel
theorem d_X0_emit_92 : decode b_X0_emit 92 = .ok (.ireturn, 1) := by decide +kernel
theorem d_X0_header_0 : decode b_X0_header 0 = .ok (.aload_n 0, 1) := by decide +kernel
theorem d_X0_header_1 : decode b_X0_header 1 = .ok (.getfield 18, 3) := by decide +kernel
theorem d_X0_header_4 : decode b_X0_header 4 = .ok (.istore_n 1, 1) := by decide +kernel
theorem d_X0_header_5 : decode b_X0_header 5 = .ok (.aload_n 0, 1) := by decide +kernel
theorem d_X0_header_6 : decode b_X0_header 6 = .ok (.dup, 1) := by decide +kernel
theorem d_X0_header_7 : decode b_X0_header 7 = .ok (.getfield 18, 3) := by decide +kernel
theorem d_X0_header_10 : decode b_X0_header 10 = .ok (.iload_n 1, 1) := by decide +kernel
theorem d_X0_header_11 : decode b_X0_header 11 = .ok (.aload_n 0, 1) := by decide +kernel
theorem d_X0_header_12 : decode b_X0_header 12 = .ok (.getfield 14, 3) := by decide +kernel
theorem d_X0_header_15 : decode b_X0_header 15 = .ok (.arraylength, 1) := by decide +kernel
theorem d_X0_header_16 : decode b_X0_header 16 = .ok (.iconst 4, 1) := by decide +kernel
theorem d_X0_header_17 : decode b_X0_header 17 = .ok (.isub, 1) := by decide +kernel
theorem d_X0_header_18 : decode b_X0_header 18 = .ok (.if_icmp .ge 7, 3) := by decide +kernel
theorem d_X0_header_21 : decode b_X0_header 21 = .ok (.iconst 4, 1) := by decide +kernel
theorem d_X0_header_22 : decode b_X0_header 22 = .ok (.goto 4, 3) := by decide +kernel
theorem d_X0_header_25 : decode b_X0_header 25 = .ok (.iconst 0, 1) := by decide +kernel
theorem d_X0_header_26 : decode b_X0_header 26 = .ok (.iadd, 1) := by decide +kernel
theorem d_X0_header_27 : decode b_X0_header 27 = .ok (.putfield 18, 3) := by decide +kernel
theorem d_X0_header_30 : decode b_X0_header 30 = .ok (.iload_n 1, 1) := by decide +kernel
theorem d_X0_header_31 : decode b_X0_header 31 = .ok (.ireturn, 1) := by decide +kernel
theorem d_X0_settle_0 : decode b_X0_settle 0 = .ok (.iload_n 1, 1) := by decide +kernel
theorem d_X0_settle_1 : decode b_X0_settle 1 = .ok (.istore_n 3, 1) := by decide +kernel
theorem d_X0_settle_2 : decode b_X0_settle 2 = .ok (.aload_n 0, 1) := by decide +kernel
theorem d_X0_settle_3 : decode b_X0_settle 3 = .ok (.getfield 18, 3) := by decide +kernel
theorem d_X0_settle_6 : decode b_X0_settle 6 = .ok (.istore 4, 2) := by decide +kernel
theorem d_X0_settle_8 : decode b_X0_settle 8 = .ok (.iload 4, 2) := by decide +kernel
theorem d_X0_settle_10 : decode b_X0_settle 10 = .ok (.ifCond .le 130, 3) := by decide +kernel
theorem d_X0_settle_13 : decode b_X0_settle 13 = .ok (.iload_n 3, 1) := by decide +kernel
theorem d_X0_settle_14 : decode b_X0_settle 14 = .ok (.aload_n 0, 1) := by decide +kernel
theorem d_X0_settle_15 : decode b_X0_settle 15 = .ok (.getfield 18, 3) := by decide +kernel
theorem d_X0_settle_18 : decode b_X0_settle 18 = .ok (.if_icmp .ge 122, 3) := by decide +kernel
theorem d_X0_settle_21 : decode b_X0_settle 21 = .ok (.aload_n 0, 1) := by decide +kernel
theorem d_X0_settle_22 : decode b_X0_settle 22 = .ok (.getfield 14, 3) := by decide +kernel
theorem d_X0_settle_25 : decode b_X0_settle 25 = .ok (.iload_n 3, 1) := by decide +kernel
theorem d_X0_settle_26 : decode b_X0_settle 26 = .ok (.invokestatic 31, 3) := by decide +kernel
theorem d_X0_settle_29 : decode b_X0_settle 29 = .ok (.istore 5, 2) := by decide +kernel
theorem d_X0_settle_31 : decode b_X0_settle 31 = .ok (.aload_n 2, 1) := by decide +kernel
theorem d_X0_settle_32 : decode b_X0_settle 32 = .ok (.aload_n 0, 1) := by decide +kernel
theorem d_X0_settle_33 : decode b_X0_settle 33 = .ok (.getfield 14, 3) := by decide +kernel
theorem d_X0_settle_36 : decode b_X0_settle 36 = .ok (.iload_n 3, 1) := by decide +kernel
theorem d_X0_settle_37 : decode b_X0_settle 37 = .ok (.iconst 1, 1) := by decide +kernel
theorem d_X0_settle_38 : decode b_X0_settle 38 = .ok (.iadd, 1) := by decide +kernel
theorem d_X0_settle_39 : decode b_X0_settle 39 = .ok (.invokestatic 31, 3) := by decide +kernel
theorem d_X0_settle_42 : decode b_X0_settle 42 = .ok (.invokestatic 31, 3) := by decide +kernel
theorem d_X0_settle_45 : decode b_X0_settle 45 = .ok (.istore 6, 2) := by decide +kernel
theorem d_X0_settle_47 : decode b_X0_settle 47 = .ok (.iload 5, 2) := by decide +kernel
theorem d_X0_settle_49 : decode b_X0_settle 49 = .ok (.bipush 8, 2) := by decide +kernel
theorem d_X0_settle_51 : decode b_X0_settle 51 = .ok (.if_icmp .lt 42, 3) := by decide +kernel
theorem d_X0_settle_54 : decode b_X0_settle 54 = .ok (.iload 5, 2) := by decide +kernel
theorem d_X0_settle_56 : decode b_X0_settle 56 = .ok (.bipush 10, 2) := by decide +kernel
theorem d_X0_settle_58 : decode b_X0_settle 58 = .ok (.if_icmp .gt 35, 3) := by decide +kernel
theorem d_X0_settle_61 : decode b_X0_settle 61 = .ok (.iload 6, 2) := by decide +kernel
theorem d_X0_settle_63 : decode b_X0_settle 63 = .ok (.ifCond .lt 30, 3) := by decide +kernel
theorem d_X0_settle_66 : decode b_X0_settle 66 = .ok (.aload_n 0, 1) := by decide +kernel
theorem d_X0_settle_67 : decode b_X0_settle 67 = .ok (.getfield 14, 3) := by decide +kernel
theorem d_X0_settle_70 : decode b_X0_settle 70 = .ok (.iload_n 3, 1) := by decide +kernel
theorem d_X0_settle_71 : decode b_X0_settle 71 = .ok (.iload 5, 2) := by decide +kernel
theorem d_X0_settle_73 : decode b_X0_settle 73 = .ok (.iconst 3, 1) := by decide +kernel
theorem d_X0_settle_74 : decode b_X0_settle 74 = .ok (.iadd, 1) := by decide +kernel
theorem d_X0_settle_75 : decode b_X0_settle 75 = .ok (.invokestatic 35, 3) := by decide +kernel
theorem d_X0_settle_78 : decode b_X0_settle 78 = .ok (.aload_n 0, 1) := by decide +kernel
theorem d_X0_settle_79 : decode b_X0_settle 79 = .ok (.getfield 14, 3) := by decide +kernel
theorem d_X0_settle_82 : decode b_X0_settle 82 = .ok (.iload_n 3, 1) := by decide +kernel
theorem d_X0_settle_83 : decode b_X0_settle 83 = .ok (.iconst 1, 1) := by decide +kernel
theorem d_X0_settle_84 : decode b_X0_settle 84 = .ok (.iadd, 1) := by decide +kernel
theorem d_X0_settle_85 : decode b_X0_settle 85 = .ok (.iload 6, 2) := by decide +kernel
theorem d_X0_settle_87 : decode b_X0_settle 87 = .ok (.invokestatic 35, 3) := by decide +kernel
theorem d_X0_settle_90 : decode b_X0_settle 90 = .ok (.goto 29, 3) := by decide +kernel
theorem d_X0_settle_93 : decode b_X0_settle 93 = .ok (.iload 5, 2) := by decide +kernel
theorem d_X0_settle_95 : decode b_X0_settle 95 = .ok (.bipush 14, 2) := by decide +kernel
theorem d_X0_settle_97 : decode b_X0_settle 97 = .ok (.if_icmp .lt 22, 3) := by decide +kernel
theorem d_X0_settle_100 : decode b_X0_settle 100 = .ok (.iload 5, 2) := by decide +kernel
theorem d_X0_settle_102 : decode b_X0_settle 102 = .ok (.bipush 17, 2) := by decide +kernel
theorem d_X0_settle_104 : decode b_X0_settle 104 = .ok (.if_icmp .gt 15, 3) := by decide +kernel
theorem d_X0_settle_107 : decode b_X0_settle 107 = .ok (.aload_n 0, 1) := by decide +kernel
theorem d_X0_settle_108 : decode b_X0_settle 108 = .ok (.getfield 14, 3) := by decide +kernel
theorem d_X0_settle_111 : decode b_X0_settle 111 = .ok (.iload_n 3, 1) := by decide +kernel
theorem d_X0_settle_112 : decode b_X0_settle 112 = .ok (.iconst 1, 1) := by decide +kernel
theorem d_X0_settle_113 : decode b_X0_settle 113 = .ok (.iadd, 1) := by decide +kernel
theorem d_X0_settle_114 : decode b_X0_settle 114 = .ok (.iload 6, 2) := by decide +kernel
theorem d_X0_settle_116 : decode b_X0_settle 116 = .ok (.invokestatic 35, 3) := by decide +kernel
theorem d_X0_settle_119 : decode b_X0_settle 119 = .ok (.iload_n 3, 1) := by decide +kernel
theorem d_X0_settle_120 : decode b_X0_settle 120 = .ok (.getstatic 22, 3) := by decide +kernel
theorem d_X0_settle_123 : decode b_X0_settle 123 = .ok (.iload 5, 2) := by decide +kernel
theorem d_X0_settle_125 : decode b_X0_settle 125 = .ok (.invokestatic 31, 3) := by decide +kernel
theorem d_X0_settle_128 : decode b_X0_settle 128 = .ok (.iconst 1, 1) := by decide +kernel
theorem d_X0_settle_129 : decode b_X0_settle 129 = .ok (.invokestatic 39, 3) := by decide +kernel
theorem d_X0_settle_132 : decode b_X0_settle 132 = .ok (.iadd, 1) := by decide +kernel
theorem d_X0_settle_133 : decode b_X0_settle 133 = .ok (.istore_n 3, 1) := by decide +kernel
theorem d_X0_settle_134 : decode b_X0_settle 134 = .ok (.iinc 4 (-1), 3) := by decide +kernel
theorem d_X0_settle_137 : decode b_X0_settle 137 = .ok (.goto (-129), 3) := by decide +kernel
theorem d_X0_settle_140 : decode b_X0_settle 140 = .ok (.return_, 1) := by decide +kernel
theorem d_X0_thread_0 : decode b_X0_thread 0 = .ok (.iload_n 1, 1) := by decide +kernel
theorem d_X0_thread_1 : decode b_X0_thread 1 = .ok (.istore_n 2, 1) := by decide +kernel
theorem d_X0_thread_2 : decode b_X0_thread 2 = .ok (.aload_n 0, 1) := by decide +kernel
theorem d_X0_thread_3 : decode b_X0_thread 3 = .ok (.getfield 18, 3) := by decide +kernel
theorem d_X0_thread_6 : decode b_X0_thread 6 = .ok (.istore_n 3, 1) := by decide +kernel
theorem d_X0_thread_7 : decode b_X0_thread 7 = .ok (.iload_n 3, 1) := by decide +kernel
theorem d_X0_thread_8 : decode b_X0_thread 8 = .ok (.ifCond .le 123, 3) := by decide +kernel
theorem d_X0_thread_11 : decode b_X0_thread 11 = .ok (.iload_n 2, 1) := by decide +kernel
theorem d_X0_thread_12 : decode b_X0_thread 12 = .ok (.aload_n 0, 1) := by decide +kernel
theorem d_X0_thread_13 : decode b_X0_thread 13 = .ok (.getfield 18, 3) := by decide +kernel
theorem d_X0_thread_16 : decode b_X0_thread 16 = .ok (.if_icmp .ge 115, 3) := by decide +kernel
theorem d_X0_thread_19 : decode b_X0_thread 19 = .ok (.aload_n 0, 1) := by decide +kernel
theorem d_X0_thread_20 : decode b_X0_thread 20 = .ok (.getfield 14, 3) := by decide +kernel
theorem d_X0_thread_23 : decode b_X0_thread 23 = .ok (.iload_n 2, 1) := by decide +kernel
theorem d_X0_thread_24 : decode b_X0_thread 24 = .ok (.invokestatic 31, 3) := by decide +kernel
theorem d_X0_thread_27 : decode b_X0_thread 27 = .ok (.istore 4, 2) := by decide +kernel
theorem d_X0_thread_29 : decode b_X0_thread 29 = .ok (.iload 4, 2) := by decide +kernel
theorem d_X0_thread_31 : decode b_X0_thread 31 = .ok (.bipush 26, 2) := by decide +kernel
theorem d_X0_thread_33 : decode b_X0_thread 33 = .ok (.if_icmp .lt 77, 3) := by decide +kernel
theorem d_X0_thread_36 : decode b_X0_thread 36 = .ok (.iload 4, 2) := by decide +kernel
theorem d_X0_thread_38 : decode b_X0_thread 38 = .ok (.bipush 28, 2) := by decide +kernel
theorem d_X0_thread_40 : decode b_X0_thread 40 = .ok (.if_icmp .gt 70, 3) := by decide +kernel
theorem d_X0_thread_43 : decode b_X0_thread 43 = .ok (.aload_n 0, 1) := by decide +kernel
theorem d_X0_thread_44 : decode b_X0_thread 44 = .ok (.getfield 14, 3) := by decide +kernel
theorem d_X0_thread_47 : decode b_X0_thread 47 = .ok (.iload_n 2, 1) := by decide +kernel
theorem d_X0_thread_48 : decode b_X0_thread 48 = .ok (.iconst 1, 1) := by decide +kernel
theorem d_X0_thread_49 : decode b_X0_thread 49 = .ok (.iadd, 1) := by decide +kernel
theorem d_X0_thread_50 : decode b_X0_thread 50 = .ok (.invokestatic 31, 3) := by decide +kernel
theorem d_X0_thread_53 : decode b_X0_thread 53 = .ok (.istore 5, 2) := by decide +kernel
theorem d_X0_thread_55 : decode b_X0_thread 55 = .ok (.iconst 0, 1) := by decide +kernel
theorem d_X0_thread_56 : decode b_X0_thread 56 = .ok (.istore 6, 2) := by decide +kernel
theorem d_X0_thread_58 : decode b_X0_thread 58 = .ok (.iload 6, 2) := by decide +kernel
theorem d_X0_thread_60 : decode b_X0_thread 60 = .ok (.bipush 100, 2) := by decide +kernel
theorem d_X0_thread_62 : decode b_X0_thread 62 = .ok (.if_icmp .ge 36, 3) := by decide +kernel
theorem d_X0_thread_65 : decode b_X0_thread 65 = .ok (.aload_n 0, 1) := by decide +kernel
theorem d_X0_thread_66 : decode b_X0_thread 66 = .ok (.getfield 14, 3) := by decide +kernel
theorem d_X0_thread_69 : decode b_X0_thread 69 = .ok (.iload 5, 2) := by decide +kernel
theorem d_X0_thread_71 : decode b_X0_thread 71 = .ok (.invokestatic 31, 3) := by decide +kernel
theorem d_X0_thread_74 : decode b_X0_thread 74 = .ok (.bipush 26, 2) := by decide +kernel
theorem d_X0_thread_76 : decode b_X0_thread 76 = .ok (.if_icmp .ne 22, 3) := by decide +kernel
theorem d_X0_thread_79 : decode b_X0_thread 79 = .ok (.aload_n 0, 1) := by decide +kernel
theorem d_X0_thread_80 : decode b_X0_thread 80 = .ok (.getfield 14, 3) := by decide +kernel
theorem d_X0_thread_83 : decode b_X0_thread 83 = .ok (.iload 5, 2) := by decide +kernel
theorem d_X0_thread_85 : decode b_X0_thread 85 = .ok (.iconst 1, 1) := by decide +kernel
theorem d_X0_thread_86 : decode b_X0_thread 86 = .ok (.iadd, 1) := by decide +kernel
theorem d_X0_thread_87 : decode b_X0_thread 87 = .ok (.invokestatic 31, 3) := by decide +kernel
theorem d_X0_thread_90 : decode b_X0_thread 90 = .ok (.istore 5, 2) := by decide +kernel
theorem d_X0_thread_92 : decode b_X0_thread 92 = .ok (.iinc 6 1, 3) := by decide +kernel
theorem d_X0_thread_95 : decode b_X0_thread 95 = .ok (.goto (-37), 3) := by decide +kernel
theorem d_X0_thread_98 : decode b_X0_thread 98 = .ok (.aload_n 0, 1) := by decide +kernel
theorem d_X0_thread_99 : decode b_X0_thread 99 = .ok (.getfield 14, 3) := by decide +kernel
theorem d_X0_thread_102 : decode b_X0_thread 102 = .ok (.iload_n 2, 1) := by decide +kernel
theorem d_X0_thread_103 : decode b_X0_thread 103 = .ok (.iconst 1, 1) := by decide +kernel
theorem d_X0_thread_104 : decode b_X0_thread 104 = .ok (.iadd, 1) := by decide +kernel
theorem d_X0_thread_105 : decode b_X0_thread 105 = .ok (.iload 5, 2) := by decide +kernel
theorem d_X0_thread_107 : decode b_X0_thread 107 = .ok (.invokestatic 35, 3) := by decide +kernel
theorem d_X0_thread_110 : decode b_X0_thread 110 = .ok (.iload_n 2, 1) := by decide +kernel
theorem d_X0_thread_111 : decode b_X0_thread 111 = .ok (.getstatic 22, 3) := by decide +kernel
theorem d_X0_thread_114 : decode b_X0_thread 114 = .ok (.iload 4, 2) := by decide +kernel
theorem d_X0_thread_116 : decode b_X0_thread 116 = .ok (.invokestatic 31, 3) := by decide +kernel
theorem d_X0_thread_119 : decode b_X0_thread 119 = .ok (.iconst 1, 1) := by decide +kernel
theorem d_X0_thread_120 : decode b_X0_thread 120 = .ok (.invokestatic 39, 3) := by decide +kernel
theorem d_X0_thread_123 : decode b_X0_thread 123 = .ok (.iadd, 1) := by decide +kernel
theorem d_X0_thread_124 : decode b_X0_thread 124 = .ok (.istore_n 2, 1) := by decide +kernel
theorem d_X0_thread_125 : decode b_X0_thread 125 = .ok (.iinc 3 (-1), 3) := by decide +kernel
theorem d_X0_thread_128 : decode b_X0_thread 128 = .ok (.goto (-121), 3) := by decide +kernel
theorem d_X0_thread_131 : decode b_X0_thread 131 = .ok (.return_, 1) := by decide +kernel
theorem d_X1_init_0 : decode b_X1_init 0 = .ok (.aload_n 0, 1) := by decide +kernel
theorem d_X1_init_1 : decode b_X1_init 1 = .ok (.invokespecial 3, 3) := by decide +kernel
theorem d_X1_init_4 : decode b_X1_init 4 = .ok (.aload_n 0, 1) := by decide +kernel
theorem d_X1_init_5 : decode b_X1_init 5 = .ok (.bipush 100, 2) := by decide +kernel
theorem d_X1_init_7 : decode b_X1_init 7 = .ok (.newarray .int, 2) := by decide +kernel
theorem d_X1_init_9 : decode b_X1_init 9 = .ok (.putfield 9, 3) := by decide +kernel
theorem d_X1_init_12 : decode b_X1_init 12 = .ok (.aload_n 0, 1) := by decide +kernel
theorem d_X1_init_13 : decode b_X1_init 13 = .ok (.aload_n 1, 1) := by decide +kernel
theorem d_X1_init_14 : decode b_X1_init 14 = .ok (.putfield 15, 3) := by decide +kernel
theorem d_X1_init_17 : decode b_X1_init 17 = .ok (.aload_n 0, 1) := by decide +kernel
theorem d_X1_init_18 : decode b_X1_init 18 = .ok (.aload_n 2, 1) := by decide +kernel
theorem d_X1_init_19 : decode b_X1_init 19 = .ok (.getfield 19, 3) := by decide +kernel
theorem d_X1_init_22 : decode b_X1_init 22 = .ok (.putfield 25, 3) := by decide +kernel
theorem d_X1_init_25 : decode b_X1_init 25 = .ok (.aload_n 0, 1) := by decide +kernel
theorem d_X1_init_26 : decode b_X1_init 26 = .ok (.aload_n 2, 1) := by decide +kernel
theorem d_X1_init_27 : decode b_X1_init 27 = .ok (.putfield 26, 3) := by decide +kernel
theorem d_X1_init_30 : decode b_X1_init 30 = .ok (.aload_n 0, 1) := by decide +kernel
theorem d_X1_init_31 : decode b_X1_init 31 = .ok (.aload_n 2, 1) := by decide +kernel
theorem d_X1_init_32 : decode b_X1_init 32 = .ok (.getfield 30, 3) := by decide +kernel
theorem d_X1_init_35 : decode b_X1_init 35 = .ok (.putfield 34, 3) := by decide +kernel
theorem d_X1_init_38 : decode b_X1_init 38 = .ok (.aload_n 0, 1) := by decide +kernel
theorem d_X1_init_39 : decode b_X1_init 39 = .ok (.aload_n 3, 1) := by decide +kernel
theorem d_X1_init_40 : decode b_X1_init 40 = .ok (.getfield 35, 3) := by decide +kernel
theorem d_X1_init_43 : decode b_X1_init 43 = .ok (.putfield 41, 3) := by decide +kernel
theorem d_X1_init_46 : decode b_X1_init 46 = .ok (.aload_n 0, 1) := by decide +kernel
theorem d_X1_init_47 : decode b_X1_init 47 = .ok (.aload_n 3, 1) := by decide +kernel
theorem d_X1_init_48 : decode b_X1_init 48 = .ok (.putfield 42, 3) := by decide +kernel
theorem d_X1_init_51 : decode b_X1_init 51 = .ok (.return_, 1) := by decide +kernel
theorem d_X1_begin_0 : decode b_X1_begin 0 = .ok (.aload_n 0, 1) := by decide +kernel
theorem d_X1_begin_1 : decode b_X1_begin 1 = .ok (.iconst (-1), 1) := by decide +kernel
theorem d_X1_begin_2 : decode b_X1_begin 2 = .ok (.putfield 46, 3) := by decide +kernel
theorem d_X1_begin_5 : decode b_X1_begin 5 = .ok (.aload_n 0, 1) := by decide +kernel
theorem d_X1_begin_6 : decode b_X1_begin 6 = .ok (.iconst 0, 1) := by decide +kernel
theorem d_X1_begin_7 : decode b_X1_begin 7 = .ok (.putfield 50, 3) := by decide +kernel
theorem d_X1_begin_10 : decode b_X1_begin 10 = .ok (.return_, 1) := by decide +kernel
theorem d_X1_checkOuter_0 : decode b_X1_checkOuter 0 = .ok (.iload_n 3, 1) := by decide +kernel
theorem d_X1_checkOuter_1 : decode b_X1_checkOuter 1 = .ok (.ifCond .ne 12, 3) := by decide +kernel
theorem d_X1_checkOuter_4 : decode b_X1_checkOuter 4 = .ok (.aload_n 0, 1) := by decide +kernel
theorem d_X1_checkOuter_5 : decode b_X1_checkOuter 5 = .ok (.getfield 26, 3) := by decide +kernel
theorem d_X1_checkOuter_8 : decode b_X1_checkOuter 8 = .ok (.iconst 2, 1) := by decide +kernel
theorem d_X1_checkOuter_9 : decode b_X1_checkOuter 9 = .ok (.iload_n 1, 1) := by decide +kernel
theorem d_X1_checkOuter_10 : decode b_X1_checkOuter 10 = .ok (.invokevirtual 124, 3) := by decide +kernel
theorem d_X1_checkOuter_13 : decode b_X1_checkOuter 13 = .ok (.iload_n 2, 1) := by decide +kernel
theorem d_X1_checkOuter_14 : decode b_X1_checkOuter 14 = .ok (.ifCond .ge 24, 3) := by decide +kernel
theorem d_X1_checkOuter_17 : decode b_X1_checkOuter 17 = .ok (.aload_n 0, 1) := by decide +kernel
theorem d_X1_checkOuter_18 : decode b_X1_checkOuter 18 = .ok (.getfield 26, 3) := by decide +kernel
theorem d_X1_checkOuter_21 : decode b_X1_checkOuter 21 = .ok (.getfield 197, 3) := by decide +kernel
theorem d_X1_checkOuter_24 : decode b_X1_checkOuter 24 = .ok (.bipush 100, 2) := by decide +kernel
theorem d_X1_checkOuter_26 : decode b_X1_checkOuter 26 = .ok (.if_icmp .lt 12, 3) := by decide +kernel
theorem d_X1_checkOuter_29 : decode b_X1_checkOuter 29 = .ok (.aload_n 0, 1) := by decide +kernel
theorem d_X1_checkOuter_30 : decode b_X1_checkOuter 30 = .ok (.getfield 26, 3) := by decide +kernel
theorem d_X1_checkOuter_33 : decode b_X1_checkOuter 33 = .ok (.iconst 4, 1) := by decide +kernel
theorem d_X1_checkOuter_34 : decode b_X1_checkOuter 34 = .ok (.iload_n 1, 1) := by decide +kernel
theorem d_X1_checkOuter_35 : decode b_X1_checkOuter 35 = .ok (.invokevirtual 124, 3) := by decide +kernel
theorem d_X1_checkOuter_38 : decode b_X1_checkOuter 38 = .ok (.return_, 1) := by decide +kernel
theorem d_X1_checkSquare_0 : decode b_X1_checkSquare 0 = .ok (.aload_n 0, 1) := by decide +kernel
theorem d_X1_checkSquare_1 : decode b_X1_checkSquare 1 = .ok (.getfield 46, 3) := by decide +kernel
theorem d_X1_checkSquare_4 : decode b_X1_checkSquare 4 = .ok (.ifCond .lt 38, 3) := by decide +kernel
theorem d_X1_checkSquare_7 : decode b_X1_checkSquare 7 = .ok (.aload_n 0, 1) := by decide +kernel
theorem d_X1_checkSquare_8 : decode b_X1_checkSquare 8 = .ok (.getfield 68, 3) := by decide +kernel
theorem d_X1_checkSquare_11 : decode b_X1_checkSquare 11 = .ok (.iconst (-1), 1) := by decide +kernel
theorem d_X1_checkSquare_12 : decode b_X1_checkSquare 12 = .ok (.if_icmp .ne 10, 3) := by decide +kernel
theorem d_X1_checkSquare_15 : decode b_X1_checkSquare 15 = .ok (.iload_n 1, 1) := by decide +kernel
theorem d_X1_checkSquare_16 : decode b_X1_checkSquare 16 = .ok (.ifCond .ne 26, 3) := by decide +kernel
theorem d_X1_checkSquare_19 : decode b_X1_checkSquare 19 = .ok (.goto 11, 3) := by decide +kernel
theorem d_X1_checkSquare_22 : decode b_X1_checkSquare 22 = .ok (.aload_n 0, 1) := by decide +kernel
theorem d_X1_checkSquare_23 : decode b_X1_checkSquare 23 = .ok (.getfield 68, 3) := by decide +kernel
theorem d_X1_checkSquare_26 : decode b_X1_checkSquare 26 = .ok (.iconst 1, 1) := by decide +kernel
theorem d_X1_checkSquare_27 : decode b_X1_checkSquare 27 = .ok (.if_icmp .ge 15, 3) := by decide +kernel
theorem d_X1_checkSquare_30 : decode b_X1_checkSquare 30 = .ok (.aload_n 0, 1) := by decide +kernel
theorem d_X1_checkSquare_31 : decode b_X1_checkSquare 31 = .ok (.getfield 26, 3) := by decide +kernel
theorem d_X1_checkSquare_34 : decode b_X1_checkSquare 34 = .ok (.iconst 2, 1) := by decide +kernel
theorem d_X1_checkSquare_35 : decode b_X1_checkSquare 35 = .ok (.aload_n 0, 1) := by decide +kernel
theorem d_X1_checkSquare_36 : decode b_X1_checkSquare 36 = .ok (.getfield 46, 3) := by decide +kernel
theorem d_X1_checkSquare_39 : decode b_X1_checkSquare 39 = .ok (.invokevirtual 124, 3) := by decide +kernel
theorem d_X1_checkSquare_42 : decode b_X1_checkSquare 42 = .ok (.aload_n 0, 1) := by decide +kernel
theorem d_X1_checkSquare_43 : decode b_X1_checkSquare 43 = .ok (.getfield 46, 3) := by decide +kernel
theorem d_X1_checkSquare_46 : decode b_X1_checkSquare 46 = .ok (.ifCond .lt 25, 3) := by decide +kernel
theorem d_X1_checkSquare_49 : decode b_X1_checkSquare 49 = .ok (.aload_n 0, 1) := by decide +kernel
theorem d_X1_checkSquare_50 : decode b_X1_checkSquare 50 = .ok (.getfield 68, 3) := by decide +kernel
theorem d_X1_checkSquare_53 : decode b_X1_checkSquare 53 = .ok (.sipush 4000, 3) := by decide +kernel
theorem d_X1_checkSquare_56 : decode b_X1_checkSquare 56 = .ok (.if_icmp .le 15, 3) := by decide +kernel
theorem d_X1_checkSquare_59 : decode b_X1_checkSquare 59 = .ok (.aload_n 0, 1) := by decide +kernel
theorem d_X1_checkSquare_60 : decode b_X1_checkSquare 60 = .ok (.getfield 26, 3) := by decide +kernel
theorem d_X1_checkSquare_63 : decode b_X1_checkSquare 63 = .ok (.iconst 4, 1) := by decide +kernel
theorem d_X1_checkSquare_64 : decode b_X1_checkSquare 64 = .ok (.aload_n 0, 1) := by decide +kernel
theorem d_X1_checkSquare_65 : decode b_X1_checkSquare 65 = .ok (.getfield 46, 3) := by decide +kernel
theorem d_X1_checkSquare_68 : decode b_X1_checkSquare 68 = .ok (.invokevirtual 124, 3) := by decide +kernel
theorem d_X1_checkSquare_71 : decode b_X1_checkSquare 71 = .ok (.return_, 1) := by decide +kernel
theorem d_X1_fill_0 : decode b_X1_fill 0 = .ok (.aload_n 0, 1) := by decide +kernel
theorem d_X1_fill_1 : decode b_X1_fill 1 = .ok (.getfield 25, 3) := by decide +kernel
theorem d_X1_fill_4 : decode b_X1_fill 4 = .ok (.iload_n 1, 1) := by decide +kernel
theorem d_X1_fill_5 : decode b_X1_fill 5 = .ok (.invokevirtual 243, 3) := by decide +kernel
theorem d_X1_fill_8 : decode b_X1_fill 8 = .ok (.istore_n 2, 1) := by decide +kernel
theorem d_X1_fill_9 : decode b_X1_fill 9 = .ok (.aload_n 0, 1) := by decide +kernel
theorem d_X1_fill_10 : decode b_X1_fill 10 = .ok (.iload_n 2, 1) := by decide +kernel
theorem d_X1_fill_11 : decode b_X1_fill 11 = .ok (.aload_n 0, 1) := by decide +kernel
theorem d_X1_fill_12 : decode b_X1_fill 12 = .ok (.getfield 98, 3) := by decide +kernel
theorem d_X1_fill_15 : decode b_X1_fill 15 = .ok (.if_icmp .le 7, 3) := by decide +kernel
theorem d_X1_fill_18 : decode b_X1_fill 18 = .ok (.iconst 1, 1) := by decide +kernel
theorem d_X1_fill_19 : decode b_X1_fill 19 = .ok (.goto 4, 3) := by decide +kernel
theorem d_X1_fill_22 : decode b_X1_fill 22 = .ok (.iconst 0, 1) := by decide +kernel
theorem d_X1_fill_23 : decode b_X1_fill 23 = .ok (.putfield 104, 3) := by decide +kernel
theorem d_X1_fill_26 : decode b_X1_fill 26 = .ok (.iconst 0, 1) := by decide +kernel
theorem d_X1_fill_27 : decode b_X1_fill 27 = .ok (.istore_n 3, 1) := by decide +kernel
theorem d_X1_fill_28 : decode b_X1_fill 28 = .ok (.iload_n 3, 1) := by decide +kernel
theorem d_X1_fill_29 : decode b_X1_fill 29 = .ok (.iload_n 2, 1) := by decide +kernel
theorem d_X1_fill_30 : decode b_X1_fill 30 = .ok (.if_icmp .ge 78, 3) := by decide +kernel
theorem d_X1_fill_33 : decode b_X1_fill 33 = .ok (.aload_n 0, 1) := by decide +kernel
theorem d_X1_fill_34 : decode b_X1_fill 34 = .ok (.getfield 104, 3) := by decide +kernel
theorem d_X1_fill_37 : decode b_X1_fill 37 = .ok (.ifCond .ne 71, 3) := by decide +kernel
theorem d_X1_fill_40 : decode b_X1_fill 40 = .ok (.aload_n 0, 1) := by decide +kernel
theorem d_X1_fill_41 : decode b_X1_fill 41 = .ok (.getfield 110, 3) := by decide +kernel
theorem d_X1_fill_44 : decode b_X1_fill 44 = .ok (.ifCond .eq 32, 3) := by decide +kernel
theorem d_X1_fill_47 : decode b_X1_fill 47 = .ok (.aload_n 0, 1) := by decide +kernel
theorem d_X1_fill_48 : decode b_X1_fill 48 = .ok (.getfield 41, 3) := by decide +kernel
theorem d_X1_fill_51 : decode b_X1_fill 51 = .ok (.bipush 17, 2) := by decide +kernel
theorem d_X1_fill_53 : decode b_X1_fill 53 = .ok (.aload_n 0, 1) := by decide +kernel
theorem d_X1_fill_54 : decode b_X1_fill 54 = .ok (.getfield 145, 3) := by decide +kernel
theorem d_X1_fill_57 : decode b_X1_fill 57 = .ok (.iload_n 3, 1) := by decide +kernel
theorem d_X1_fill_58 : decode b_X1_fill 58 = .ok (.aload_n 0, 1) := by decide +kernel
theorem d_X1_fill_59 : decode b_X1_fill 59 = .ok (.getfield 25, 3) := by decide +kernel
theorem d_X1_fill_62 : decode b_X1_fill 62 = .ok (.getfield 248, 3) := by decide +kernel
theorem d_X1_fill_65 : decode b_X1_fill 65 = .ok (.iload_n 3, 1) := by decide +kernel
theorem d_X1_fill_66 : decode b_X1_fill 66 = .ok (.invokestatic 58, 3) := by decide +kernel
theorem d_X1_fill_69 : decode b_X1_fill 69 = .ok (.invokevirtual 152, 3) := by decide +kernel
theorem d_X1_fill_72 : decode b_X1_fill 72 = .ok (.pop, 1) := by decide +kernel
theorem d_X1_fill_73 : decode b_X1_fill 73 = .ok (.goto 29, 3) := by decide +kernel
theorem d_X1_fill_76 : decode b_X1_fill 76 = .ok (.aload_n 0, 1) := by decide +kernel
theorem d_X1_fill_77 : decode b_X1_fill 77 = .ok (.getfield 34, 3) := by decide +kernel
theorem d_X1_fill_80 : decode b_X1_fill 80 = .ok (.aload_n 0, 1) := by decide +kernel
theorem d_X1_fill_81 : decode b_X1_fill 81 = .ok (.getfield 194, 3) := by decide +kernel
theorem d_X1_fill_84 : decode b_X1_fill 84 = .ok (.iload_n 3, 1) := by decide +kernel
theorem d_X1_fill_85 : decode b_X1_fill 85 = .ok (.iadd, 1) := by decide +kernel
theorem d_X1_fill_86 : decode b_X1_fill 86 = .ok (.bipush (-2), 2) := by decide +kernel
theorem d_X1_fill_88 : decode b_X1_fill 88 = .ok (.aload_n 0, 1) := by decide +kernel
theorem d_X1_fill_89 : decode b_X1_fill 89 = .ok (.getfield 25, 3) := by decide +kernel
theorem d_X1_fill_92 : decode b_X1_fill 92 = .ok (.getfield 248, 3) := by decide +kernel
theorem d_X1_fill_95 : decode b_X1_fill 95 = .ok (.iload_n 3, 1) := by decide +kernel
theorem d_X1_fill_96 : decode b_X1_fill 96 = .ok (.invokestatic 58, 3) := by decide +kernel
theorem d_X1_fill_99 : decode b_X1_fill 99 = .ok (.invokevirtual 240, 3) := by decide +kernel
theorem d_X1_fill_102 : decode b_X1_fill 102 = .ok (.iinc 3 1, 3) := by decide +kernel
theorem d_X1_fill_105 : decode b_X1_fill 105 = .ok (.goto (-77), 3) := by decide +kernel
theorem d_X1_fill_108 : decode b_X1_fill 108 = .ok (.return_, 1) := by decide +kernel
theorem d_X1_function_0 : decode b_X1_function 0 = .ok (.iload_n 3, 1) := by decide +kernel
theorem d_X1_function_1 : decode b_X1_function 1 = .ok (.bipush 8, 2) := by decide +kernel
theorem d_X1_function_3 : decode b_X1_function 3 = .ok (.idiv, 1) := by decide +kernel
theorem d_X1_function_4 : decode b_X1_function 4 = .ok (.iconst 1, 1) := by decide +kernel
theorem d_X1_function_5 : decode b_X1_function 5 = .ok (.isub, 1) := by decide +kernel
theorem d_X1_function_6 : decode b_X1_function 6 = .ok (.istore 4, 2) := by decide +kernel
theorem d_X1_function_8 : decode b_X1_function 8 = .ok (.iload_n 3, 1) := by decide +kernel
theorem d_X1_function_9 : decode b_X1_function 9 = .ok (.iconst 3, 1) := by decide +kernel
theorem d_X1_function_10 : decode b_X1_function 10 = .ok (.iand, 1) := by decide +kernel
theorem d_X1_function_11 : decode b_X1_function 11 = .ok (.iconst 1, 1) := by decide +kernel
theorem d_X1_function_12 : decode b_X1_function 12 = .ok (.if_icmp .ne 7, 3) := by decide +kernel
theorem d_X1_function_15 : decode b_X1_function 15 = .ok (.iconst 1, 1) := by decide +kernel
theorem d_X1_function_16 : decode b_X1_function 16 = .ok (.goto 4, 3) := by decide +kernel
theorem d_X1_function_19 : decode b_X1_function 19 = .ok (.iconst 0, 1) := by decide +kernel
theorem d_X1_function_20 : decode b_X1_function 20 = .ok (.istore 5, 2) := by decide +kernel
theorem d_X1_function_22 : decode b_X1_function 22 = .ok (.iload_n 3, 1) := by decide +kernel
theorem d_X1_function_23 : decode b_X1_function 23 = .ok (.iconst 4, 1) := by decide +kernel
theorem d_X1_function_24 : decode b_X1_function 24 = .ok (.iand, 1) := by decide +kernel
theorem d_X1_function_25 : decode b_X1_function 25 = .ok (.ifCond .eq 7, 3) := by decide +kernel
theorem d_X1_function_28 : decode b_X1_function 28 = .ok (.iconst 1, 1) := by decide +kernel
theorem d_X1_function_29 : decode b_X1_function 29 = .ok (.goto 4, 3) := by decide +kernel
theorem d_X1_function_32 : decode b_X1_function 32 = .ok (.iconst 0, 1) := by decide +kernel
theorem d_X1_function_33 : decode b_X1_function 33 = .ok (.istore 6, 2) := by decide +kernel
theorem d_X1_function_35 : decode b_X1_function 35 = .ok (.aload_n 0, 1) := by decide +kernel
theorem d_X1_function_36 : decode b_X1_function 36 = .ok (.getfield 26, 3) := by decide +kernel
theorem d_X1_function_39 : decode b_X1_function 39 = .ok (.iload_n 1, 1) := by decide +kernel
theorem d_X1_function_40 : decode b_X1_function 40 = .ok (.invokevirtual 159, 3) := by decide +kernel
theorem d_X1_function_43 : decode b_X1_function 43 = .ok (.istore 7, 2) := by decide +kernel
theorem d_X1_function_45 : decode b_X1_function 45 = .ok (.iload 7, 2) := by decide +kernel
theorem d_X1_function_47 : decode b_X1_function 47 = .ok (.ifCond .lt 82, 3) := by decide +kernel
theorem d_X1_function_50 : decode b_X1_function 50 = .ok (.aload_n 0, 1) := by decide +kernel
theorem d_X1_function_51 : decode b_X1_function 51 = .ok (.getfield 34, 3) := by decide +kernel
theorem d_X1_function_54 : decode b_X1_function 54 = .ok (.iload 7, 2) := by decide +kernel
theorem d_X1_function_56 : decode b_X1_function 56 = .ok (.iconst 1, 1) := by decide +kernel
theorem d_X1_function_57 : decode b_X1_function 57 = .ok (.invokevirtual 200, 3) := by decide +kernel
theorem d_X1_function_60 : decode b_X1_function 60 = .ok (.ifCond .eq 73, 3) := by decide +kernel
theorem d_X1_function_63 : decode b_X1_function 63 = .ok (.aload_n 0, 1) := by decide +kernel
theorem d_X1_function_64 : decode b_X1_function 64 = .ok (.getfield 34, 3) := by decide +kernel
theorem d_X1_function_67 : decode b_X1_function 67 = .ok (.getfield 176, 3) := by decide +kernel
theorem d_X1_function_70 : decode b_X1_function 70 = .ok (.iload 7, 2) := by decide +kernel
theorem d_X1_function_72 : decode b_X1_function 72 = .ok (.invokestatic 58, 3) := by decide +kernel
theorem d_X1_function_75 : decode b_X1_function 75 = .ok (.iload 4, 2) := by decide +kernel
theorem d_X1_function_77 : decode b_X1_function 77 = .ok (.if_icmp .ne 56, 3) := by decide +kernel
theorem d_X1_function_80 : decode b_X1_function 80 = .ok (.aload_n 0, 1) := by decide +kernel
theorem d_X1_function_81 : decode b_X1_function 81 = .ok (.getfield 34, 3) := by decide +kernel
theorem d_X1_function_84 : decode b_X1_function 84 = .ok (.getfield 185, 3) := by decide +kernel
theorem d_X1_function_87 : decode b_X1_function 87 = .ok (.iload 7, 2) := by decide +kernel
theorem d_X1_function_89 : decode b_X1_function 89 = .ok (.invokestatic 58, 3) := by decide +kernel
theorem d_X1_function_92 : decode b_X1_function 92 = .ok (.iload_n 2, 1) := by decide +kernel
theorem d_X1_function_93 : decode b_X1_function 93 = .ok (.if_icmp .ne 40, 3) := by decide +kernel
theorem d_X1_function_96 : decode b_X1_function 96 = .ok (.aload_n 0, 1) := by decide +kernel
theorem d_X1_function_97 : decode b_X1_function 97 = .ok (.getfield 34, 3) := by decide +kernel
theorem d_X1_function_100 : decode b_X1_function 100 = .ok (.iload 7, 2) := by decide +kernel
theorem d_X1_function_102 : decode b_X1_function 102 = .ok (.iconst 2, 1) := by decide +kernel
theorem d_X1_function_103 : decode b_X1_function 103 = .ok (.invokevirtual 200, 3) := by decide +kernel
theorem d_X1_function_106 : decode b_X1_function 106 = .ok (.iload 5, 2) := by decide +kernel
theorem d_X1_function_108 : decode b_X1_function 108 = .ok (.if_icmp .ne 25, 3) := by decide +kernel
theorem d_X1_function_111 : decode b_X1_function 111 = .ok (.iload 6, 2) := by decide +kernel
theorem d_X1_function_113 : decode b_X1_function 113 = .ok (.ifCond .eq 16, 3) := by decide +kernel
theorem d_X1_function_116 : decode b_X1_function 116 = .ok (.aload_n 0, 1) := by decide +kernel
theorem d_X1_function_117 : decode b_X1_function 117 = .ok (.getfield 34, 3) := by decide +kernel
theorem d_X1_function_120 : decode b_X1_function 120 = .ok (.iload 7, 2) := by decide +kernel
theorem d_X1_function_122 : decode b_X1_function 122 = .ok (.iconst 4, 1) := by decide +kernel
theorem d_X1_function_123 : decode b_X1_function 123 = .ok (.invokevirtual 200, 3) := by decide +kernel
theorem d_X1_function_126 : decode b_X1_function 126 = .ok (.ifCond .ne 7, 3) := by decide +kernel
theorem d_X1_function_129 : decode b_X1_function 129 = .ok (.iconst 1, 1) := by decide +kernel
theorem d_X1_function_130 : decode b_X1_function 130 = .ok (.goto 4, 3) := by decide +kernel
theorem d_X1_function_133 : decode b_X1_function 133 = .ok (.iconst 0, 1) := by decide +kernel
theorem d_X1_function_134 : decode b_X1_function 134 = .ok (.istore 8, 2) := by decide +kernel
theorem d_X1_function_136 : decode b_X1_function 136 = .ok (.aload_n 0, 1) := by decide +kernel
theorem d_X1_function_137 : decode b_X1_function 137 = .ok (.iload_n 1, 1) := by decide +kernel
theorem d_X1_function_138 : decode b_X1_function 138 = .ok (.iload 7, 2) := by decide +kernel
theorem d_X1_function_140 : decode b_X1_function 140 = .ok (.iload 8, 2) := by decide +kernel
theorem d_X1_function_142 : decode b_X1_function 142 = .ok (.invokevirtual 167, 3) := by decide +kernel
theorem d_X1_function_145 : decode b_X1_function 145 = .ok (.aload_n 0, 1) := by decide +kernel
theorem d_X1_function_146 : decode b_X1_function 146 = .ok (.getfield 26, 3) := by decide +kernel
theorem d_X1_function_149 : decode b_X1_function 149 = .ok (.getfield 142, 3) := by decide +kernel
theorem d_X1_function_152 : decode b_X1_function 152 = .ok (.ifCond .eq 4, 3) := by decide +kernel
theorem d_X1_function_155 : decode b_X1_function 155 = .ok (.return_, 1) := by decide +kernel
theorem d_X1_function_156 : decode b_X1_function 156 = .ok (.iload 7, 2) := by decide +kernel
theorem d_X1_function_158 : decode b_X1_function 158 = .ok (.ifCond .ge 14, 3) := by decide +kernel
theorem d_X1_function_161 : decode b_X1_function 161 = .ok (.aload_n 0, 1) := by decide +kernel
theorem d_X1_function_162 : decode b_X1_function 162 = .ok (.getfield 26, 3) := by decide +kernel
theorem d_X1_function_165 : decode b_X1_function 165 = .ok (.iload_n 1, 1) := by decide +kernel
theorem d_X1_function_166 : decode b_X1_function 166 = .ok (.invokevirtual 173, 3) := by decide +kernel
theorem d_X1_function_169 : decode b_X1_function 169 = .ok (.goto 5, 3) := by decide +kernel
theorem d_X1_function_172 : decode b_X1_function 172 = .ok (.iload 7, 2) := by decide +kernel
theorem d_X1_function_174 : decode b_X1_function 174 = .ok (.istore 9, 2) := by decide +kernel
theorem d_X1_function_176 : decode b_X1_function 176 = .ok (.aload_n 0, 1) := by decide +kernel
theorem d_X1_function_177 : decode b_X1_function 177 = .ok (.getfield 34, 3) := by decide +kernel
theorem d_X1_function_180 : decode b_X1_function 180 = .ok (.iload 9, 2) := by decide +kernel
theorem d_X1_function_182 : decode b_X1_function 182 = .ok (.iload 5, 2) := by decide +kernel
theorem d_X1_function_184 : decode b_X1_function 184 = .ok (.ifCond .eq 7, 3) := by decide +kernel
theorem d_X1_function_187 : decode b_X1_function 187 = .ok (.iconst 3, 1) := by decide +kernel
theorem d_X1_function_188 : decode b_X1_function 188 = .ok (.goto 4, 3) := by decide +kernel
theorem d_X1_function_191 : decode b_X1_function 191 = .ok (.iconst 1, 1) := by decide +kernel
theorem d_X1_function_192 : decode b_X1_function 192 = .ok (.invokevirtual 188, 3) := by decide +kernel
theorem d_X1_function_195 : decode b_X1_function 195 = .ok (.aload_n 0, 1) := by decide +kernel
theorem d_X1_function_196 : decode b_X1_function 196 = .ok (.getfield 34, 3) := by decide +kernel
theorem d_X1_function_199 : decode b_X1_function 199 = .ok (.getfield 176, 3) := by decide +kernel
theorem d_X1_function_202 : decode b_X1_function 202 = .ok (.iload 9, 2) := by decide +kernel
theorem d_X1_function_204 : decode b_X1_function 204 = .ok (.iload 4, 2) := by decide +kernel
theorem d_X1_function_206 : decode b_X1_function 206 = .ok (.invokestatic 181, 3) := by decide +kernel
theorem d_X1_function_209 : decode b_X1_function 209 = .ok (.aload_n 0, 1) := by decide +kernel
theorem d_X1_function_210 : decode b_X1_function 210 = .ok (.getfield 34, 3) := by decide +kernel
theorem d_X1_function_213 : decode b_X1_function 213 = .ok (.getfield 185, 3) := by decide +kernel
theorem d_X1_function_216 : decode b_X1_function 216 = .ok (.iload 9, 2) := by decide +kernel
theorem d_X1_function_218 : decode b_X1_function 218 = .ok (.iload_n 2, 1) := by decide +kernel
theorem d_X1_function_219 : decode b_X1_function 219 = .ok (.invokestatic 181, 3) := by decide +kernel
theorem d_X1_function_222 : decode b_X1_function 222 = .ok (.iload 6, 2) := by decide +kernel
theorem d_X1_function_224 : decode b_X1_function 224 = .ok (.ifCond .eq 41, 3) := by decide +kernel
theorem d_X1_function_227 : decode b_X1_function 227 = .ok (.aload_n 0, 1) := by decide +kernel
theorem d_X1_function_228 : decode b_X1_function 228 = .ok (.getfield 34, 3) := by decide +kernel
theorem d_X1_function_231 : decode b_X1_function 231 = .ok (.iload 9, 2) := by decide +kernel
theorem d_X1_function_233 : decode b_X1_function 233 = .ok (.iconst 4, 1) := by decide +kernel
theorem d_X1_function_234 : decode b_X1_function 234 = .ok (.invokevirtual 188, 3) := by decide +kernel
theorem d_X1_function_237 : decode b_X1_function 237 = .ok (.aload_n 0, 1) := by decide +kernel
theorem d_X1_function_238 : decode b_X1_function 238 = .ok (.getfield 34, 3) := by decide +kernel
theorem d_X1_function_241 : decode b_X1_function 241 = .ok (.getfield 191, 3) := by decide +kernel
theorem d_X1_function_244 : decode b_X1_function 244 = .ok (.iload 9, 2) := by decide +kernel
theorem d_X1_function_246 : decode b_X1_function 246 = .ok (.aload_n 0, 1) := by decide +kernel
theorem d_X1_function_247 : decode b_X1_function 247 = .ok (.getfield 41, 3) := by decide +kernel
theorem d_X1_function_250 : decode b_X1_function 250 = .ok (.invokevirtual 251, 3) := by decide +kernel
theorem d_X1_function_253 : decode b_X1_function 253 = .ok (.invokestatic 181, 3) := by decide +kernel
theorem d_X1_function_256 : decode b_X1_function 256 = .ok (.aload_n 0, 1) := by decide +kernel
theorem d_X1_function_257 : decode b_X1_function 257 = .ok (.getfield 26, 3) := by decide +kernel
theorem d_X1_function_260 : decode b_X1_function 260 = .ok (.iload 9, 2) := by decide +kernel
theorem d_X1_function_262 : decode b_X1_function 262 = .ok (.invokevirtual 254, 3) := by decide +kernel
theorem d_X1_function_265 : decode b_X1_function 265 = .ok (.return_, 1) := by decide +kernel
theorem d_X1_functionEnd_0 : decode b_X1_functionEnd 0 = .ok (.aload_n 0, 1) := by decide +kernel
theorem d_X1_functionEnd_1 : decode b_X1_functionEnd 1 = .ok (.getfield 41, 3) := by decide +kernel
theorem d_X1_functionEnd_4 : decode b_X1_functionEnd 4 = .ok (.iconst 1, 1) := by decide +kernel
theorem d_X1_functionEnd_5 : decode b_X1_functionEnd 5 = .ok (.iconst 0, 1) := by decide +kernel
theorem d_X1_functionEnd_6 : decode b_X1_functionEnd 6 = .ok (.iconst 0, 1) := by decide +kernel
theorem d_X1_functionEnd_7 : decode b_X1_functionEnd 7 = .ok (.iconst 0, 1) := by decide +kernel
theorem d_X1_functionEnd_8 : decode b_X1_functionEnd 8 = .ok (.invokevirtual 152, 3) := by decide +kernel
theorem d_X1_functionEnd_11 : decode b_X1_functionEnd 11 = .ok (.pop, 1) := by decide +kernel
theorem d_X1_functionEnd_12 : decode b_X1_functionEnd 12 = .ok (.aload_n 0, 1) := by decide +kernel
theorem d_X1_functionEnd_13 : decode b_X1_functionEnd 13 = .ok (.getfield 41, 3) := by decide +kernel
theorem d_X1_functionEnd_16 : decode b_X1_functionEnd 16 = .ok (.bipush 33, 2) := by decide +kernel
theorem d_X1_functionEnd_18 : decode b_X1_functionEnd 18 = .ok (.iconst 0, 1) := by decide +kernel
theorem d_X1_functionEnd_19 : decode b_X1_functionEnd 19 = .ok (.iconst 0, 1) := by decide +kernel
theorem d_X1_functionEnd_20 : decode b_X1_functionEnd 20 = .ok (.iconst 0, 1) := by decide +kernel
theorem d_X1_functionEnd_21 : decode b_X1_functionEnd 21 = .ok (.invokevirtual 152, 3) := by decide +kernel
theorem d_X1_functionEnd_24 : decode b_X1_functionEnd 24 = .ok (.pop, 1) := by decide +kernel
theorem d_X1_functionEnd_25 : decode b_X1_functionEnd 25 = .ok (.aload_n 0, 1) := by decide +kernel
theorem d_X1_functionEnd_26 : decode b_X1_functionEnd 26 = .ok (.getfield 34, 3) := by decide +kernel
theorem d_X1_functionEnd_29 : decode b_X1_functionEnd 29 = .ok (.getfield 191, 3) := by decide +kernel
theorem d_X1_functionEnd_32 : decode b_X1_functionEnd 32 = .ok (.aload_n 0, 1) := by decide +kernel
theorem d_X1_functionEnd_33 : decode b_X1_functionEnd 33 = .ok (.getfield 26, 3) := by decide +kernel
theorem d_X1_functionEnd_36 : decode b_X1_functionEnd 36 = .ok (.getfield 108, 3) := by decide +kernel
theorem d_X1_functionEnd_39 : decode b_X1_functionEnd 39 = .ok (.invokestatic 58, 3) := by decide +kernel
theorem d_X1_functionEnd_42 : decode b_X1_functionEnd 42 = .ok (.istore_n 1, 1) := by decide +kernel
theorem d_X1_functionEnd_43 : decode b_X1_functionEnd 43 = .ok (.aload_n 0, 1) := by decide +kernel
theorem d_X1_functionEnd_44 : decode b_X1_functionEnd 44 = .ok (.getfield 34, 3) := by decide +kernel
theorem d_X1_functionEnd_47 : decode b_X1_functionEnd 47 = .ok (.getfield 185, 3) := by decide +kernel
theorem d_X1_functionEnd_50 : decode b_X1_functionEnd 50 = .ok (.aload_n 0, 1) := by decide +kernel
theorem d_X1_functionEnd_51 : decode b_X1_functionEnd 51 = .ok (.getfield 26, 3) := by decide +kernel
theorem d_X1_functionEnd_54 : decode b_X1_functionEnd 54 = .ok (.getfield 108, 3) := by decide +kernel
theorem d_X1_functionEnd_57 : decode b_X1_functionEnd 57 = .ok (.invokestatic 58, 3) := by decide +kernel
theorem d_X1_functionEnd_60 : decode b_X1_functionEnd 60 = .ok (.invokestatic 260, 3) := by decide +kernel
theorem d_X1_functionEnd_63 : decode b_X1_functionEnd 63 = .ok (.istore_n 2, 1) := by decide +kernel
theorem d_X1_functionEnd_64 : decode b_X1_functionEnd 64 = .ok (.iconst 0, 1) := by decide +kernel
theorem d_X1_functionEnd_65 : decode b_X1_functionEnd 65 = .ok (.istore_n 3, 1) := by decide +kernel
theorem d_X1_functionEnd_66 : decode b_X1_functionEnd 66 = .ok (.iconst 0, 1) := by decide +kernel
theorem d_X1_functionEnd_67 : decode b_X1_functionEnd 67 = .ok (.istore 4, 2) := by decide +kernel
theorem d_X1_functionEnd_69 : decode b_X1_functionEnd 69 = .ok (.iconst 0, 1) := by decide +kernel
theorem d_X1_functionEnd_70 : decode b_X1_functionEnd 70 = .ok (.istore 5, 2) := by decide +kernel
theorem d_X1_functionEnd_72 : decode b_X1_functionEnd 72 = .ok (.iload 5, 2) := by decide +kernel
theorem d_X1_functionEnd_74 : decode b_X1_functionEnd 74 = .ok (.aload_n 0, 1) := by decide +kernel
theorem d_X1_functionEnd_75 : decode b_X1_functionEnd 75 = .ok (.getfield 26, 3) := by decide +kernel
theorem d_X1_functionEnd_78 : decode b_X1_functionEnd 78 = .ok (.getfield 135, 3) := by decide +kernel
theorem d_X1_functionEnd_81 : decode b_X1_functionEnd 81 = .ok (.if_icmp .ge 102, 3) := by decide +kernel
theorem d_X1_functionEnd_84 : decode b_X1_functionEnd 84 = .ok (.aload_n 0, 1) := by decide +kernel
theorem d_X1_functionEnd_85 : decode b_X1_functionEnd 85 = .ok (.getfield 26, 3) := by decide +kernel
theorem d_X1_functionEnd_88 : decode b_X1_functionEnd 88 = .ok (.getfield 263, 3) := by decide +kernel
theorem d_X1_functionEnd_91 : decode b_X1_functionEnd 91 = .ok (.iload 5, 2) := by decide +kernel
theorem d_X1_functionEnd_93 : decode b_X1_functionEnd 93 = .ok (.invokestatic 58, 3) := by decide +kernel
theorem d_X1_functionEnd_96 : decode b_X1_functionEnd 96 = .ok (.ifCond .eq 7, 3) := by decide +kernel
theorem d_X1_functionEnd_99 : decode b_X1_functionEnd 99 = .ok (.iconst 1, 1) := by decide +kernel
theorem d_X1_functionEnd_100 : decode b_X1_functionEnd 100 = .ok (.goto 4, 3) := by decide +kernel
theorem d_X1_functionEnd_103 : decode b_X1_functionEnd 103 = .ok (.iconst 0, 1) := by decide +kernel
theorem d_X1_functionEnd_104 : decode b_X1_functionEnd 104 = .ok (.istore 6, 2) := by decide +kernel
theorem d_X1_functionEnd_106 : decode b_X1_functionEnd 106 = .ok (.aload_n 0, 1) := by decide +kernel
theorem d_X1_functionEnd_107 : decode b_X1_functionEnd 107 = .ok (.getfield 9, 3) := by decide +kernel
theorem d_X1_functionEnd_110 : decode b_X1_functionEnd 110 = .ok (.iload 5, 2) := by decide +kernel
theorem d_X1_functionEnd_112 : decode b_X1_functionEnd 112 = .ok (.iload 6, 2) := by decide +kernel
theorem d_X1_functionEnd_114 : decode b_X1_functionEnd 114 = .ok (.ifCond .eq 7, 3) := by decide +kernel
theorem d_X1_functionEnd_117 : decode b_X1_functionEnd 117 = .ok (.iload_n 3, 1) := by decide +kernel
theorem d_X1_functionEnd_118 : decode b_X1_functionEnd 118 = .ok (.goto 4, 3) := by decide +kernel
theorem d_X1_functionEnd_121 : decode b_X1_functionEnd 121 = .ok (.iconst (-1), 1) := by decide +kernel
theorem d_X1_functionEnd_122 : decode b_X1_functionEnd 122 = .ok (.invokestatic 181, 3) := by decide +kernel
theorem d_X1_functionEnd_125 : decode b_X1_functionEnd 125 = .ok (.iload 4, 2) := by decide +kernel
theorem d_X1_functionEnd_127 : decode b_X1_functionEnd 127 = .ok (.iload 6, 2) := by decide +kernel
theorem d_X1_functionEnd_129 : decode b_X1_functionEnd 129 = .ok (.ifCond .eq 16, 3) := by decide +kernel
theorem d_X1_functionEnd_132 : decode b_X1_functionEnd 132 = .ok (.iload 5, 2) := by decide +kernel
theorem d_X1_functionEnd_134 : decode b_X1_functionEnd 134 = .ok (.iload_n 2, 1) := by decide +kernel
theorem d_X1_functionEnd_135 : decode b_X1_functionEnd 135 = .ok (.if_icmp .ge 10, 3) := by decide +kernel
theorem d_X1_functionEnd_138 : decode b_X1_functionEnd 138 = .ok (.iconst 1, 1) := by decide +kernel
theorem d_X1_functionEnd_139 : decode b_X1_functionEnd 139 = .ok (.iload 5, 2) := by decide +kernel
theorem d_X1_functionEnd_141 : decode b_X1_functionEnd 141 = .ok (.ishl, 1) := by decide +kernel
theorem d_X1_functionEnd_142 : decode b_X1_functionEnd 142 = .ok (.goto 4, 3) := by decide +kernel
theorem d_X1_functionEnd_145 : decode b_X1_functionEnd 145 = .ok (.iconst 0, 1) := by decide +kernel
theorem d_X1_functionEnd_146 : decode b_X1_functionEnd 146 = .ok (.ior, 1) := by decide +kernel
theorem d_X1_functionEnd_147 : decode b_X1_functionEnd 147 = .ok (.istore 4, 2) := by decide +kernel
theorem d_X1_functionEnd_149 : decode b_X1_functionEnd 149 = .ok (.iload_n 3, 1) := by decide +kernel
theorem d_X1_functionEnd_150 : decode b_X1_functionEnd 150 = .ok (.iload 6, 2) := by decide +kernel
theorem d_X1_functionEnd_152 : decode b_X1_functionEnd 152 = .ok (.ifCond .eq 22, 3) := by decide +kernel
theorem d_X1_functionEnd_155 : decode b_X1_functionEnd 155 = .ok (.aload_n 0, 1) := by decide +kernel
theorem d_X1_functionEnd_156 : decode b_X1_functionEnd 156 = .ok (.getfield 26, 3) := by decide +kernel
theorem d_X1_functionEnd_159 : decode b_X1_functionEnd 159 = .ok (.getfield 266, 3) := by decide +kernel
theorem d_X1_functionEnd_162 : decode b_X1_functionEnd 162 = .ok (.iload 5, 2) := by decide +kernel
theorem d_X1_functionEnd_164 : decode b_X1_functionEnd 164 = .ok (.invokestatic 58, 3) := by decide +kernel
theorem d_X1_functionEnd_167 : decode b_X1_functionEnd 167 = .ok (.iconst 1, 1) := by decide +kernel
theorem d_X1_functionEnd_168 : decode b_X1_functionEnd 168 = .ok (.invokestatic 269, 3) := by decide +kernel
theorem d_X1_functionEnd_171 : decode b_X1_functionEnd 171 = .ok (.goto 4, 3) := by decide +kernel
theorem d_X1_functionEnd_174 : decode b_X1_functionEnd 174 = .ok (.iconst 0, 1) := by decide +kernel
theorem d_X1_functionEnd_175 : decode b_X1_functionEnd 175 = .ok (.iadd, 1) := by decide +kernel
theorem d_X1_functionEnd_176 : decode b_X1_functionEnd 176 = .ok (.istore_n 3, 1) := by decide +kernel
theorem d_X1_functionEnd_177 : decode b_X1_functionEnd 177 = .ok (.iinc 5 1, 3) := by decide +kernel
theorem d_X1_functionEnd_180 : decode b_X1_functionEnd 180 = .ok (.goto (-108), 3) := by decide +kernel
theorem d_X1_functionEnd_183 : decode b_X1_functionEnd 183 = .ok (.aload_n 0, 1) := by decide +kernel
theorem d_X1_functionEnd_184 : decode b_X1_functionEnd 184 = .ok (.getfield 41, 3) := by decide +kernel
theorem d_X1_functionEnd_187 : decode b_X1_functionEnd 187 = .ok (.getfield 274, 3) := by decide +kernel
theorem d_X1_functionEnd_190 : decode b_X1_functionEnd 190 = .ok (.iload_n 1, 1) := by decide +kernel
theorem d_X1_functionEnd_191 : decode b_X1_functionEnd 191 = .ok (.iload_n 3, 1) := by decide +kernel
theorem d_X1_functionEnd_192 : decode b_X1_functionEnd 192 = .ok (.invokestatic 181, 3) := by decide +kernel
theorem d_X1_functionEnd_195 : decode b_X1_functionEnd 195 = .ok (.aload_n 0, 1) := by decide +kernel
theorem d_X1_functionEnd_196 : decode b_X1_functionEnd 196 = .ok (.getfield 41, 3) := by decide +kernel
theorem d_X1_functionEnd_199 : decode b_X1_functionEnd 199 = .ok (.getfield 274, 3) := by decide +kernel
theorem d_X1_functionEnd_202 : decode b_X1_functionEnd 202 = .ok (.iload_n 1, 1) := by decide +kernel
theorem d_X1_functionEnd_203 : decode b_X1_functionEnd 203 = .ok (.iconst 1, 1) := by decide +kernel
theorem d_X1_functionEnd_204 : decode b_X1_functionEnd 204 = .ok (.iadd, 1) := by decide +kernel
theorem d_X1_functionEnd_205 : decode b_X1_functionEnd 205 = .ok (.aload_n 0, 1) := by decide +kernel
theorem d_X1_functionEnd_206 : decode b_X1_functionEnd 206 = .ok (.getfield 26, 3) := by decide +kernel
theorem d_X1_functionEnd_209 : decode b_X1_functionEnd 209 = .ok (.getfield 135, 3) := by decide +kernel
theorem d_X1_functionEnd_212 : decode b_X1_functionEnd 212 = .ok (.invokestatic 181, 3) := by decide +kernel
theorem d_X1_functionEnd_215 : decode b_X1_functionEnd 215 = .ok (.aload_n 0, 1) := by decide +kernel
theorem d_X1_functionEnd_216 : decode b_X1_functionEnd 216 = .ok (.getfield 41, 3) := by decide +kernel
theorem d_X1_functionEnd_219 : decode b_X1_functionEnd 219 = .ok (.getfield 274, 3) := by decide +kernel
theorem d_X1_functionEnd_222 : decode b_X1_functionEnd 222 = .ok (.iload_n 1, 1) := by decide +kernel
theorem d_X1_functionEnd_223 : decode b_X1_functionEnd 223 = .ok (.iconst 2, 1) := by decide +kernel
theorem d_X1_functionEnd_224 : decode b_X1_functionEnd 224 = .ok (.iadd, 1) := by decide +kernel
theorem d_X1_functionEnd_225 : decode b_X1_functionEnd 225 = .ok (.iload_n 2, 1) := by decide +kernel
theorem d_X1_functionEnd_226 : decode b_X1_functionEnd 226 = .ok (.invokestatic 181, 3) := by decide +kernel
theorem d_X1_functionEnd_229 : decode b_X1_functionEnd 229 = .ok (.aload_n 0, 1) := by decide +kernel
theorem d_X1_functionEnd_230 : decode b_X1_functionEnd 230 = .ok (.getfield 41, 3) := by decide +kernel
theorem d_X1_functionEnd_233 : decode b_X1_functionEnd 233 = .ok (.getfield 274, 3) := by decide +kernel
theorem d_X1_functionEnd_236 : decode b_X1_functionEnd 236 = .ok (.iload_n 1, 1) := by decide +kernel
theorem d_X1_functionEnd_237 : decode b_X1_functionEnd 237 = .ok (.iconst 3, 1) := by decide +kernel
theorem d_X1_functionEnd_238 : decode b_X1_functionEnd 238 = .ok (.iadd, 1) := by decide +kernel
theorem d_X1_functionEnd_239 : decode b_X1_functionEnd 239 = .ok (.iload 4, 2) := by decide +kernel
theorem d_X1_functionEnd_241 : decode b_X1_functionEnd 241 = .ok (.invokestatic 181, 3) := by decide +kernel
theorem d_X1_functionEnd_244 : decode b_X1_functionEnd 244 = .ok (.aload_n 0, 1) := by decide +kernel
theorem d_X1_functionEnd_245 : decode b_X1_functionEnd 245 = .ok (.getfield 41, 3) := by decide +kernel
theorem d_X1_functionEnd_248 : decode b_X1_functionEnd 248 = .ok (.iload_n 1, 1) := by decide +kernel
theorem d_X1_functionEnd_249 : decode b_X1_functionEnd 249 = .ok (.iconst 4, 1) := by decide +kernel
theorem d_X1_functionEnd_250 : decode b_X1_functionEnd 250 = .ok (.iadd, 1) := by decide +kernel
theorem d_X1_functionEnd_251 : decode b_X1_functionEnd 251 = .ok (.aload_n 0, 1) := by decide +kernel
theorem d_X1_functionEnd_252 : decode b_X1_functionEnd 252 = .ok (.getfield 9, 3) := by decide +kernel
theorem d_X1_functionEnd_255 : decode b_X1_functionEnd 255 = .ok (.invokevirtual 277, 3) := by decide +kernel
theorem d_X1_functionEnd_258 : decode b_X1_functionEnd 258 = .ok (.aload_n 0, 1) := by decide +kernel
theorem d_X1_functionEnd_259 : decode b_X1_functionEnd 259 = .ok (.getfield 26, 3) := by decide +kernel
theorem d_X1_functionEnd_262 : decode b_X1_functionEnd 262 = .ok (.getfield 281, 3) := by decide +kernel
theorem d_X1_functionEnd_265 : decode b_X1_functionEnd 265 = .ok (.iconst 1, 1) := by decide +kernel
theorem d_X1_functionEnd_266 : decode b_X1_functionEnd 266 = .ok (.if_icmp .le 13, 3) := by decide +kernel
theorem d_X1_functionEnd_269 : decode b_X1_functionEnd 269 = .ok (.aload_n 0, 1) := by decide +kernel
theorem d_X1_functionEnd_270 : decode b_X1_functionEnd 270 = .ok (.getfield 41, 3) := by decide +kernel
theorem d_X1_functionEnd_273 : decode b_X1_functionEnd 273 = .ok (.iload_n 1, 1) := by decide +kernel
theorem d_X1_functionEnd_274 : decode b_X1_functionEnd 274 = .ok (.iconst 4, 1) := by decide +kernel
theorem d_X1_functionEnd_275 : decode b_X1_functionEnd 275 = .ok (.iadd, 1) := by decide +kernel
theorem d_X1_functionEnd_276 : decode b_X1_functionEnd 276 = .ok (.invokevirtual 284, 3) := by decide +kernel
theorem d_X1_functionEnd_279 : decode b_X1_functionEnd 279 = .ok (.aload_n 0, 1) := by decide +kernel
theorem d_X1_functionEnd_280 : decode b_X1_functionEnd 280 = .ok (.getfield 26, 3) := by decide +kernel
theorem d_X1_functionEnd_283 : decode b_X1_functionEnd 283 = .ok (.invokevirtual 287, 3) := by decide +kernel
theorem d_X1_functionEnd_286 : decode b_X1_functionEnd 286 = .ok (.return_, 1) := by decide +kernel
theorem d_X1_initial_0 : decode b_X1_initial 0 = .ok (.iload_n 2, 1) := by decide +kernel
theorem d_X1_initial_1 : decode b_X1_initial 1 = .ok (.iconst 1, 1) := by decide +kernel
theorem d_X1_initial_2 : decode b_X1_initial 2 = .ok (.if_icmp .ne 30, 3) := by decide +kernel
theorem d_X1_initial_5 : decode b_X1_initial 5 = .ok (.aload_n 0, 1) := by decide +kernel
theorem d_X1_initial_6 : decode b_X1_initial 6 = .ok (.aload_n 0, 1) := by decide +kernel
theorem d_X1_initial_7 : decode b_X1_initial 7 = .ok (.getfield 104, 3) := by decide +kernel
theorem d_X1_initial_10 : decode b_X1_initial 10 = .ok (.ifCond .ne 11, 3) := by decide +kernel
theorem d_X1_initial_13 : decode b_X1_initial 13 = .ok (.aload_n 0, 1) := by decide +kernel
theorem d_X1_initial_14 : decode b_X1_initial 14 = .ok (.getfield 98, 3) := by decide +kernel
theorem d_X1_initial_17 : decode b_X1_initial 17 = .ok (.iconst (-1), 1) := by decide +kernel
theorem d_X1_initial_18 : decode b_X1_initial 18 = .ok (.if_icmp .ne 7, 3) := by decide +kernel
theorem d_X1_initial_21 : decode b_X1_initial 21 = .ok (.iconst 1, 1) := by decide +kernel
theorem d_X1_initial_22 : decode b_X1_initial 22 = .ok (.goto 4, 3) := by decide +kernel
theorem d_X1_initial_25 : decode b_X1_initial 25 = .ok (.iconst 0, 1) := by decide +kernel
theorem d_X1_initial_26 : decode b_X1_initial 26 = .ok (.putfield 104, 3) := by decide +kernel
theorem d_X1_initial_29 : decode b_X1_initial 29 = .ok (.goto 60, 3) := by decide +kernel
theorem d_X1_initial_32 : decode b_X1_initial 32 = .ok (.iload_n 2, 1) := by decide +kernel
theorem d_X1_initial_33 : decode b_X1_initial 33 = .ok (.ifCond .ne 56, 3) := by decide +kernel
theorem d_X1_initial_36 : decode b_X1_initial 36 = .ok (.aload_n 0, 1) := by decide +kernel
theorem d_X1_initial_37 : decode b_X1_initial 37 = .ok (.getfield 42, 3) := by decide +kernel
theorem d_X1_initial_40 : decode b_X1_initial 40 = .ok (.invokevirtual 213, 3) := by decide +kernel
theorem d_X1_initial_43 : decode b_X1_initial 43 = .ok (.astore_n 3, 1) := by decide +kernel
theorem d_X1_initial_44 : decode b_X1_initial 44 = .ok (.aload_n 0, 1) := by decide +kernel
theorem d_X1_initial_45 : decode b_X1_initial 45 = .ok (.aload_n 0, 1) := by decide +kernel
theorem d_X1_initial_46 : decode b_X1_initial 46 = .ok (.getfield 98, 3) := by decide +kernel
theorem d_X1_initial_49 : decode b_X1_initial 49 = .ok (.iconst (-1), 1) := by decide +kernel
theorem d_X1_initial_50 : decode b_X1_initial 50 = .ok (.if_icmp .ne 11, 3) := by decide +kernel
theorem d_X1_initial_53 : decode b_X1_initial 53 = .ok (.aload_n 0, 1) := by decide +kernel
theorem d_X1_initial_54 : decode b_X1_initial 54 = .ok (.aload_n 3, 1) := by decide +kernel
theorem d_X1_initial_55 : decode b_X1_initial 55 = .ok (.invokevirtual 217, 3) := by decide +kernel
theorem d_X1_initial_58 : decode b_X1_initial 58 = .ok (.ifCond .ne 7, 3) := by decide +kernel
theorem d_X1_initial_61 : decode b_X1_initial 61 = .ok (.iconst 1, 1) := by decide +kernel
theorem d_X1_initial_62 : decode b_X1_initial 62 = .ok (.goto 4, 3) := by decide +kernel
theorem d_X1_initial_65 : decode b_X1_initial 65 = .ok (.iconst 0, 1) := by decide +kernel
theorem d_X1_initial_66 : decode b_X1_initial 66 = .ok (.putfield 104, 3) := by decide +kernel
theorem d_X1_initial_69 : decode b_X1_initial 69 = .ok (.aload_n 0, 1) := by decide +kernel
theorem d_X1_initial_70 : decode b_X1_initial 70 = .ok (.getfield 110, 3) := by decide +kernel
theorem d_X1_initial_73 : decode b_X1_initial 73 = .ok (.ifCond .eq 10, 3) := by decide +kernel
theorem d_X1_initial_76 : decode b_X1_initial 76 = .ok (.aload_n 0, 1) := by decide +kernel
theorem d_X1_initial_77 : decode b_X1_initial 77 = .ok (.invokevirtual 156, 3) := by decide +kernel
theorem d_X1_initial_80 : decode b_X1_initial 80 = .ok (.goto 9, 3) := by decide +kernel
theorem d_X1_initial_83 : decode b_X1_initial 83 = .ok (.aload_n 0, 1) := by decide +kernel
theorem d_X1_initial_84 : decode b_X1_initial 84 = .ok (.iconst 0, 1) := by decide +kernel
theorem d_X1_initial_85 : decode b_X1_initial 85 = .ok (.aload_n 3, 1) := by decide +kernel
theorem d_X1_initial_86 : decode b_X1_initial 86 = .ok (.invokevirtual 221, 3) := by decide +kernel
theorem d_X1_initial_89 : decode b_X1_initial 89 = .ok (.aload_n 0, 1) := by decide +kernel
theorem d_X1_initial_90 : decode b_X1_initial 90 = .ok (.getfield 104, 3) := by decide +kernel
theorem d_X1_initial_93 : decode b_X1_initial 93 = .ok (.ifCond .ne 10, 3) := by decide +kernel
theorem d_X1_initial_96 : decode b_X1_initial 96 = .ok (.aload_n 0, 1) := by decide +kernel
theorem d_X1_initial_97 : decode b_X1_initial 97 = .ok (.getfield 113, 3) := by decide +kernel
theorem d_X1_initial_100 : decode b_X1_initial 100 = .ok (.ifCond .eq 12, 3) := by decide +kernel
theorem d_X1_initial_103 : decode b_X1_initial 103 = .ok (.aload_n 0, 1) := by decide +kernel
theorem d_X1_initial_104 : decode b_X1_initial 104 = .ok (.getfield 26, 3) := by decide +kernel
theorem d_X1_initial_107 : decode b_X1_initial 107 = .ok (.iconst 2, 1) := by decide +kernel
theorem d_X1_initial_108 : decode b_X1_initial 108 = .ok (.iload_n 1, 1) := by decide +kernel
theorem d_X1_initial_109 : decode b_X1_initial 109 = .ok (.invokevirtual 124, 3) := by decide +kernel
theorem d_X1_initial_112 : decode b_X1_initial 112 = .ok (.return_, 1) := by decide +kernel
theorem d_X1_item_0 : decode b_X1_item 0 = .ok (.aload_n 0, 1) := by decide +kernel
theorem d_X1_item_1 : decode b_X1_item 1 = .ok (.getfield 42, 3) := by decide +kernel
theorem d_X1_item_4 : decode b_X1_item 4 = .ok (.invokevirtual 213, 3) := by decide +kernel
theorem d_X1_item_7 : decode b_X1_item 7 = .ok (.astore_n 1, 1) := by decide +kernel
theorem d_X1_item_8 : decode b_X1_item 8 = .ok (.aload_n 0, 1) := by decide +kernel
theorem d_X1_item_9 : decode b_X1_item 9 = .ok (.getfield 101, 3) := by decide +kernel
theorem d_X1_item_12 : decode b_X1_item 12 = .ok (.aload_n 0, 1) := by decide +kernel
theorem d_X1_item_13 : decode b_X1_item 13 = .ok (.getfield 98, 3) := by decide +kernel
theorem d_X1_item_16 : decode b_X1_item 16 = .ok (.if_icmp .ge 11, 3) := by decide +kernel
theorem d_X1_item_19 : decode b_X1_item 19 = .ok (.aload_n 0, 1) := by decide +kernel
theorem d_X1_item_20 : decode b_X1_item 20 = .ok (.aload_n 1, 1) := by decide +kernel
theorem d_X1_item_21 : decode b_X1_item 21 = .ok (.invokevirtual 217, 3) := by decide +kernel
theorem d_X1_item_24 : decode b_X1_item 24 = .ok (.ifCond .ne 11, 3) := by decide +kernel
theorem d_X1_item_27 : decode b_X1_item 27 = .ok (.aload_n 0, 1) := by decide +kernel
theorem d_X1_item_28 : decode b_X1_item 28 = .ok (.iconst 1, 1) := by decide +kernel
theorem d_X1_item_29 : decode b_X1_item 29 = .ok (.putfield 104, 3) := by decide +kernel
theorem d_X1_item_32 : decode b_X1_item 32 = .ok (.goto 41, 3) := by decide +kernel
theorem d_X1_item_35 : decode b_X1_item 35 = .ok (.aload_n 0, 1) := by decide +kernel
theorem d_X1_item_36 : decode b_X1_item 36 = .ok (.getfield 110, 3) := by decide +kernel
theorem d_X1_item_39 : decode b_X1_item 39 = .ok (.ifCond .eq 25, 3) := by decide +kernel
theorem d_X1_item_42 : decode b_X1_item 42 = .ok (.aload_n 0, 1) := by decide +kernel
theorem d_X1_item_43 : decode b_X1_item 43 = .ok (.getfield 41, 3) := by decide +kernel
theorem d_X1_item_46 : decode b_X1_item 46 = .ok (.bipush 16, 2) := by decide +kernel
theorem d_X1_item_48 : decode b_X1_item 48 = .ok (.aload_n 0, 1) := by decide +kernel
theorem d_X1_item_49 : decode b_X1_item 49 = .ok (.getfield 145, 3) := by decide +kernel
theorem d_X1_item_52 : decode b_X1_item 52 = .ok (.aload_n 0, 1) := by decide +kernel
theorem d_X1_item_53 : decode b_X1_item 53 = .ok (.getfield 101, 3) := by decide +kernel
theorem d_X1_item_56 : decode b_X1_item 56 = .ok (.iconst 0, 1) := by decide +kernel
theorem d_X1_item_57 : decode b_X1_item 57 = .ok (.invokevirtual 152, 3) := by decide +kernel
theorem d_X1_item_60 : decode b_X1_item 60 = .ok (.pop, 1) := by decide +kernel
theorem d_X1_item_61 : decode b_X1_item 61 = .ok (.goto 12, 3) := by decide +kernel
theorem d_X1_item_64 : decode b_X1_item 64 = .ok (.aload_n 0, 1) := by decide +kernel
theorem d_X1_item_65 : decode b_X1_item 65 = .ok (.aload_n 0, 1) := by decide +kernel
theorem d_X1_item_66 : decode b_X1_item 66 = .ok (.getfield 101, 3) := by decide +kernel
theorem d_X1_item_69 : decode b_X1_item 69 = .ok (.aload_n 1, 1) := by decide +kernel
theorem d_X1_item_70 : decode b_X1_item 70 = .ok (.invokevirtual 221, 3) := by decide +kernel
theorem d_X1_item_73 : decode b_X1_item 73 = .ok (.aload_n 0, 1) := by decide +kernel
theorem d_X1_item_74 : decode b_X1_item 74 = .ok (.dup, 1) := by decide +kernel
theorem d_X1_item_75 : decode b_X1_item 75 = .ok (.getfield 101, 3) := by decide +kernel
theorem d_X1_item_78 : decode b_X1_item 78 = .ok (.iconst 1, 1) := by decide +kernel
theorem d_X1_item_79 : decode b_X1_item 79 = .ok (.iadd, 1) := by decide +kernel
theorem d_X1_item_80 : decode b_X1_item 80 = .ok (.putfield 101, 3) := by decide +kernel
theorem d_X1_item_83 : decode b_X1_item 83 = .ok (.return_, 1) := by decide +kernel
theorem d_X1_joins_0 : decode b_X1_joins 0 = .ok (.aload_n 0, 1) := by decide +kernel
theorem d_X1_joins_1 : decode b_X1_joins 1 = .ok (.getfield 34, 3) := by decide +kernel
theorem d_X1_joins_4 : decode b_X1_joins 4 = .ok (.getfield 185, 3) := by decide +kernel
theorem d_X1_joins_7 : decode b_X1_joins 7 = .ok (.iload_n 1, 1) := by decide +kernel
theorem d_X1_joins_8 : decode b_X1_joins 8 = .ok (.invokestatic 58, 3) := by decide +kernel
theorem d_X1_joins_11 : decode b_X1_joins 11 = .ok (.istore_n 3, 1) := by decide +kernel
theorem d_X1_joins_12 : decode b_X1_joins 12 = .ok (.aload_n 0, 1) := by decide +kernel
theorem d_X1_joins_13 : decode b_X1_joins 13 = .ok (.getfield 34, 3) := by decide +kernel
theorem d_X1_joins_16 : decode b_X1_joins 16 = .ok (.iload_n 1, 1) := by decide +kernel
theorem d_X1_joins_17 : decode b_X1_joins 17 = .ok (.iconst 1, 1) := by decide +kernel
theorem d_X1_joins_18 : decode b_X1_joins 18 = .ok (.invokevirtual 200, 3) := by decide +kernel
theorem d_X1_joins_21 : decode b_X1_joins 21 = .ok (.ifCond .ne 51, 3) := by decide +kernel
theorem d_X1_joins_24 : decode b_X1_joins 24 = .ok (.aload_n 0, 1) := by decide +kernel
theorem d_X1_joins_25 : decode b_X1_joins 25 = .ok (.getfield 34, 3) := by decide +kernel
theorem d_X1_joins_28 : decode b_X1_joins 28 = .ok (.getfield 176, 3) := by decide +kernel
theorem d_X1_joins_31 : decode b_X1_joins 31 = .ok (.iload_n 1, 1) := by decide +kernel
theorem d_X1_joins_32 : decode b_X1_joins 32 = .ok (.invokestatic 58, 3) := by decide +kernel
theorem d_X1_joins_35 : decode b_X1_joins 35 = .ok (.aload_n 0, 1) := by decide +kernel
theorem d_X1_joins_36 : decode b_X1_joins 36 = .ok (.getfield 95, 3) := by decide +kernel
theorem d_X1_joins_39 : decode b_X1_joins 39 = .ok (.if_icmp .ne 33, 3) := by decide +kernel
theorem d_X1_joins_42 : decode b_X1_joins 42 = .ok (.iload_n 3, 1) := by decide +kernel
theorem d_X1_joins_43 : decode b_X1_joins 43 = .ok (.iconst (-1), 1) := by decide +kernel
theorem d_X1_joins_44 : decode b_X1_joins 44 = .ok (.if_icmp .ne 7, 3) := by decide +kernel
theorem d_X1_joins_47 : decode b_X1_joins 47 = .ok (.iconst 1, 1) := by decide +kernel
theorem d_X1_joins_48 : decode b_X1_joins 48 = .ok (.goto 4, 3) := by decide +kernel
theorem d_X1_joins_51 : decode b_X1_joins 51 = .ok (.iconst 0, 1) := by decide +kernel
theorem d_X1_joins_52 : decode b_X1_joins 52 = .ok (.aload_n 0, 1) := by decide +kernel
theorem d_X1_joins_53 : decode b_X1_joins 53 = .ok (.getfield 98, 3) := by decide +kernel
theorem d_X1_joins_56 : decode b_X1_joins 56 = .ok (.iconst (-1), 1) := by decide +kernel
theorem d_X1_joins_57 : decode b_X1_joins 57 = .ok (.if_icmp .ne 7, 3) := by decide +kernel
theorem d_X1_joins_60 : decode b_X1_joins 60 = .ok (.iconst 1, 1) := by decide +kernel
theorem d_X1_joins_61 : decode b_X1_joins 61 = .ok (.goto 4, 3) := by decide +kernel
theorem d_X1_joins_64 : decode b_X1_joins 64 = .ok (.iconst 0, 1) := by decide +kernel
theorem d_X1_joins_65 : decode b_X1_joins 65 = .ok (.if_icmp .ne 7, 3) := by decide +kernel
theorem d_X1_joins_68 : decode b_X1_joins 68 = .ok (.iconst 1, 1) := by decide +kernel
theorem d_X1_joins_69 : decode b_X1_joins 69 = .ok (.goto 4, 3) := by decide +kernel
theorem d_X1_joins_72 : decode b_X1_joins 72 = .ok (.iconst 0, 1) := by decide +kernel
theorem d_X1_joins_73 : decode b_X1_joins 73 = .ok (.istore 4, 2) := by decide +kernel
theorem d_X1_joins_75 : decode b_X1_joins 75 = .ok (.iload_n 3, 1) := by decide +kernel
theorem d_X1_joins_76 : decode b_X1_joins 76 = .ok (.ifCond .le 18, 3) := by decide +kernel
theorem d_X1_joins_79 : decode b_X1_joins 79 = .ok (.aload_n 0, 1) := by decide +kernel
theorem d_X1_joins_80 : decode b_X1_joins 80 = .ok (.getfield 98, 3) := by decide +kernel
theorem d_X1_joins_83 : decode b_X1_joins 83 = .ok (.ifCond .le 11, 3) := by decide +kernel
theorem d_X1_joins_86 : decode b_X1_joins 86 = .ok (.iload_n 3, 1) := by decide +kernel
theorem d_X1_joins_87 : decode b_X1_joins 87 = .ok (.aload_n 0, 1) := by decide +kernel
theorem d_X1_joins_88 : decode b_X1_joins 88 = .ok (.getfield 98, 3) := by decide +kernel
theorem d_X1_joins_91 : decode b_X1_joins 91 = .ok (.if_icmp .ne 7, 3) := by decide +kernel
theorem d_X1_joins_94 : decode b_X1_joins 94 = .ok (.iconst 1, 1) := by decide +kernel
theorem d_X1_joins_95 : decode b_X1_joins 95 = .ok (.goto 4, 3) := by decide +kernel
theorem d_X1_joins_98 : decode b_X1_joins 98 = .ok (.iconst 0, 1) := by decide +kernel
theorem d_X1_joins_99 : decode b_X1_joins 99 = .ok (.istore 5, 2) := by decide +kernel
theorem d_X1_joins_101 : decode b_X1_joins 101 = .ok (.iload_n 2, 1) := by decide +kernel
theorem d_X1_joins_102 : decode b_X1_joins 102 = .ok (.iconst 1, 1) := by decide +kernel
theorem d_X1_joins_103 : decode b_X1_joins 103 = .ok (.if_icmp .eq 19, 3) := by decide +kernel
theorem d_X1_joins_106 : decode b_X1_joins 106 = .ok (.aload_n 0, 1) := by decide +kernel
theorem d_X1_joins_107 : decode b_X1_joins 107 = .ok (.getfield 34, 3) := by decide +kernel
theorem d_X1_joins_110 : decode b_X1_joins 110 = .ok (.iload_n 1, 1) := by decide +kernel
theorem d_X1_joins_111 : decode b_X1_joins 111 = .ok (.iconst 2, 1) := by decide +kernel
theorem d_X1_joins_112 : decode b_X1_joins 112 = .ok (.invokevirtual 200, 3) := by decide +kernel
theorem d_X1_joins_115 : decode b_X1_joins 115 = .ok (.ifCond .ne 7, 3) := by decide +kernel
theorem d_X1_joins_118 : decode b_X1_joins 118 = .ok (.iconst 1, 1) := by decide +kernel
theorem d_X1_joins_119 : decode b_X1_joins 119 = .ok (.goto 4, 3) := by decide +kernel
theorem d_X1_joins_122 : decode b_X1_joins 122 = .ok (.iconst 0, 1) := by decide +kernel
theorem d_X1_joins_123 : decode b_X1_joins 123 = .ok (.istore 6, 2) := by decide +kernel
theorem d_X1_joins_125 : decode b_X1_joins 125 = .ok (.iload 4, 2) := by decide +kernel
theorem d_X1_joins_127 : decode b_X1_joins 127 = .ok (.ifCond .eq 36, 3) := by decide +kernel
theorem d_X1_joins_130 : decode b_X1_joins 130 = .ok (.iload 5, 2) := by decide +kernel
theorem d_X1_joins_132 : decode b_X1_joins 132 = .ok (.ifCond .eq 31, 3) := by decide +kernel
theorem d_X1_joins_135 : decode b_X1_joins 135 = .ok (.iload 6, 2) := by decide +kernel
theorem d_X1_joins_137 : decode b_X1_joins 137 = .ok (.ifCond .eq 26, 3) := by decide +kernel
theorem d_X1_joins_140 : decode b_X1_joins 140 = .ok (.aload_n 0, 1) := by decide +kernel
theorem d_X1_joins_141 : decode b_X1_joins 141 = .ok (.getfield 113, 3) := by decide +kernel
theorem d_X1_joins_144 : decode b_X1_joins 144 = .ok (.ifCond .ne 15, 3) := by decide +kernel
theorem d_X1_joins_147 : decode b_X1_joins 147 = .ok (.aload_n 0, 1) := by decide +kernel
theorem d_X1_joins_148 : decode b_X1_joins 148 = .ok (.getfield 34, 3) := by decide +kernel
theorem d_X1_joins_151 : decode b_X1_joins 151 = .ok (.iload_n 1, 1) := by decide +kernel
theorem d_X1_joins_152 : decode b_X1_joins 152 = .ok (.iconst 4, 1) := by decide +kernel
theorem d_X1_joins_153 : decode b_X1_joins 153 = .ok (.invokevirtual 200, 3) := by decide +kernel
theorem d_X1_joins_156 : decode b_X1_joins 156 = .ok (.ifCond .ne 7, 3) := by decide +kernel
theorem d_X1_joins_159 : decode b_X1_joins 159 = .ok (.iconst 1, 1) := by decide +kernel
theorem d_X1_joins_160 : decode b_X1_joins 160 = .ok (.goto 4, 3) := by decide +kernel
theorem d_X1_joins_163 : decode b_X1_joins 163 = .ok (.iconst 0, 1) := by decide +kernel
theorem d_X1_joins_164 : decode b_X1_joins 164 = .ok (.ireturn, 1) := by decide +kernel
theorem d_X1_local_0 : decode b_X1_local 0 = .ok (.aload_n 0, 1) := by decide +kernel
theorem d_X1_local_1 : decode b_X1_local 1 = .ok (.getfield 26, 3) := by decide +kernel
theorem d_X1_local_4 : decode b_X1_local 4 = .ok (.aload_n 0, 1) := by decide +kernel
theorem d_X1_local_5 : decode b_X1_local 5 = .ok (.getfield 26, 3) := by decide +kernel
theorem d_X1_local_8 : decode b_X1_local 8 = .ok (.invokevirtual 127, 3) := by decide +kernel
theorem d_X1_local_11 : decode b_X1_local 11 = .ok (.iload_n 1, 1) := by decide +kernel
theorem d_X1_local_12 : decode b_X1_local 12 = .ok (.invokevirtual 131, 3) := by decide +kernel
theorem d_X1_local_15 : decode b_X1_local 15 = .ok (.ifCond .lt 12, 3) := by decide +kernel
theorem d_X1_local_18 : decode b_X1_local 18 = .ok (.aload_n 0, 1) := by decide +kernel
theorem d_X1_local_19 : decode b_X1_local 19 = .ok (.getfield 26, 3) := by decide +kernel
theorem d_X1_local_22 : decode b_X1_local 22 = .ok (.iconst 2, 1) := by decide +kernel
theorem d_X1_local_23 : decode b_X1_local 23 = .ok (.iload_n 1, 1) := by decide +kernel
theorem d_X1_local_24 : decode b_X1_local 24 = .ok (.invokevirtual 124, 3) := by decide +kernel
theorem d_X1_local_27 : decode b_X1_local 27 = .ok (.aload_n 0, 1) := by decide +kernel
theorem d_X1_local_28 : decode b_X1_local 28 = .ok (.getfield 26, 3) := by decide +kernel
theorem d_X1_local_31 : decode b_X1_local 31 = .ok (.getfield 135, 3) := by decide +kernel
theorem d_X1_local_34 : decode b_X1_local 34 = .ok (.bipush 100, 2) := by decide +kernel
theorem d_X1_local_36 : decode b_X1_local 36 = .ok (.if_icmp .lt 12, 3) := by decide +kernel
theorem d_X1_local_39 : decode b_X1_local 39 = .ok (.aload_n 0, 1) := by decide +kernel
theorem d_X1_local_40 : decode b_X1_local 40 = .ok (.getfield 26, 3) := by decide +kernel
theorem d_X1_local_43 : decode b_X1_local 43 = .ok (.iconst 4, 1) := by decide +kernel
theorem d_X1_local_44 : decode b_X1_local 44 = .ok (.iload_n 1, 1) := by decide +kernel
theorem d_X1_local_45 : decode b_X1_local 45 = .ok (.invokevirtual 124, 3) := by decide +kernel
theorem d_X1_local_48 : decode b_X1_local 48 = .ok (.aload_n 0, 1) := by decide +kernel
theorem d_X1_local_49 : decode b_X1_local 49 = .ok (.iload_n 2, 1) := by decide +kernel
theorem d_X1_local_50 : decode b_X1_local 50 = .ok (.invokevirtual 138, 3) := by decide +kernel
theorem d_X1_local_53 : decode b_X1_local 53 = .ok (.aload_n 0, 1) := by decide +kernel
theorem d_X1_local_54 : decode b_X1_local 54 = .ok (.getfield 26, 3) := by decide +kernel
theorem d_X1_local_57 : decode b_X1_local 57 = .ok (.getfield 142, 3) := by decide +kernel
theorem d_X1_local_60 : decode b_X1_local 60 = .ok (.ifCond .eq 4, 3) := by decide +kernel
theorem d_X1_local_63 : decode b_X1_local 63 = .ok (.return_, 1) := by decide +kernel
theorem d_X1_local_64 : decode b_X1_local 64 = .ok (.aload_n 0, 1) := by decide +kernel
theorem d_X1_local_65 : decode b_X1_local 65 = .ok (.aload_n 0, 1) := by decide +kernel
theorem d_X1_local_66 : decode b_X1_local 66 = .ok (.getfield 26, 3) := by decide +kernel
theorem d_X1_local_69 : decode b_X1_local 69 = .ok (.getfield 135, 3) := by decide +kernel
theorem d_X1_local_72 : decode b_X1_local 72 = .ok (.putfield 145, 3) := by decide +kernel
theorem d_X1_local_75 : decode b_X1_local 75 = .ok (.aload_n 0, 1) := by decide +kernel
theorem d_X1_local_76 : decode b_X1_local 76 = .ok (.getfield 26, 3) := by decide +kernel
theorem d_X1_local_79 : decode b_X1_local 79 = .ok (.iload_n 1, 1) := by decide +kernel
theorem d_X1_local_80 : decode b_X1_local 80 = .ok (.aload_n 0, 1) := by decide +kernel
theorem d_X1_local_81 : decode b_X1_local 81 = .ok (.getfield 95, 3) := by decide +kernel
theorem d_X1_local_84 : decode b_X1_local 84 = .ok (.aload_n 0, 1) := by decide +kernel
theorem d_X1_local_85 : decode b_X1_local 85 = .ok (.getfield 98, 3) := by decide +kernel
theorem d_X1_local_88 : decode b_X1_local 88 = .ok (.invokevirtual 147, 3) := by decide +kernel
theorem d_X1_local_91 : decode b_X1_local 91 = .ok (.aload_n 0, 1) := by decide +kernel
theorem d_X1_local_92 : decode b_X1_local 92 = .ok (.getfield 98, 3) := by decide +kernel
theorem d_X1_local_95 : decode b_X1_local 95 = .ok (.iconst (-1), 1) := by decide +kernel
theorem d_X1_local_96 : decode b_X1_local 96 = .ok (.if_icmp .ne 22, 3) := by decide +kernel
theorem d_X1_local_99 : decode b_X1_local 99 = .ok (.aload_n 0, 1) := by decide +kernel
theorem d_X1_local_100 : decode b_X1_local 100 = .ok (.getfield 41, 3) := by decide +kernel
theorem d_X1_local_103 : decode b_X1_local 103 = .ok (.iconst 1, 1) := by decide +kernel
theorem d_X1_local_104 : decode b_X1_local 104 = .ok (.iconst 0, 1) := by decide +kernel
theorem d_X1_local_105 : decode b_X1_local 105 = .ok (.iconst 0, 1) := by decide +kernel
theorem d_X1_local_106 : decode b_X1_local 106 = .ok (.iconst 0, 1) := by decide +kernel
theorem d_X1_local_107 : decode b_X1_local 107 = .ok (.invokevirtual 152, 3) := by decide +kernel
theorem d_X1_local_110 : decode b_X1_local 110 = .ok (.pop, 1) := by decide +kernel
theorem d_X1_local_111 : decode b_X1_local 111 = .ok (.aload_n 0, 1) := by decide +kernel
theorem d_X1_local_112 : decode b_X1_local 112 = .ok (.invokevirtual 156, 3) := by decide +kernel
theorem d_X1_local_115 : decode b_X1_local 115 = .ok (.goto 22, 3) := by decide +kernel
theorem d_X1_local_118 : decode b_X1_local 118 = .ok (.aload_n 0, 1) := by decide +kernel
theorem d_X1_local_119 : decode b_X1_local 119 = .ok (.getfield 41, 3) := by decide +kernel
theorem d_X1_local_122 : decode b_X1_local 122 = .ok (.bipush 15, 2) := by decide +kernel
theorem d_X1_local_124 : decode b_X1_local 124 = .ok (.aload_n 0, 1) := by decide +kernel
theorem d_X1_local_125 : decode b_X1_local 125 = .ok (.getfield 145, 3) := by decide +kernel
theorem d_X1_local_128 : decode b_X1_local 128 = .ok (.aload_n 0, 1) := by decide +kernel
theorem d_X1_local_129 : decode b_X1_local 129 = .ok (.getfield 98, 3) := by decide +kernel
theorem d_X1_local_132 : decode b_X1_local 132 = .ok (.iconst 0, 1) := by decide +kernel
theorem d_X1_local_133 : decode b_X1_local 133 = .ok (.invokevirtual 152, 3) := by decide +kernel
theorem d_X1_local_136 : decode b_X1_local 136 = .ok (.pop, 1) := by decide +kernel
theorem d_X1_local_137 : decode b_X1_local 137 = .ok (.return_, 1) := by decide +kernel
theorem d_X1_outer_0 : decode b_X1_outer 0 = .ok (.aload_n 0, 1) := by decide +kernel
theorem d_X1_outer_1 : decode b_X1_outer 1 = .ok (.getfield 26, 3) := by decide +kernel
theorem d_X1_outer_4 : decode b_X1_outer 4 = .ok (.iload_n 1, 1) := by decide +kernel
theorem d_X1_outer_5 : decode b_X1_outer 5 = .ok (.invokevirtual 159, 3) := by decide +kernel
theorem d_X1_outer_8 : decode b_X1_outer 8 = .ok (.istore 4, 2) := by decide +kernel
theorem d_X1_outer_10 : decode b_X1_outer 10 = .ok (.aload_n 0, 1) := by decide +kernel
theorem d_X1_outer_11 : decode b_X1_outer 11 = .ok (.iload_n 1, 1) := by decide +kernel
theorem d_X1_outer_12 : decode b_X1_outer 12 = .ok (.iload 4, 2) := by decide +kernel
theorem d_X1_outer_14 : decode b_X1_outer 14 = .ok (.iload 4, 2) := by decide +kernel
theorem d_X1_outer_16 : decode b_X1_outer 16 = .ok (.ifCond .lt 13, 3) := by decide +kernel
theorem d_X1_outer_19 : decode b_X1_outer 19 = .ok (.aload_n 0, 1) := by decide +kernel
theorem d_X1_outer_20 : decode b_X1_outer 20 = .ok (.iload 4, 2) := by decide +kernel
theorem d_X1_outer_22 : decode b_X1_outer 22 = .ok (.iload_n 2, 1) := by decide +kernel
theorem d_X1_outer_23 : decode b_X1_outer 23 = .ok (.invokevirtual 163, 3) := by decide +kernel
theorem d_X1_outer_26 : decode b_X1_outer 26 = .ok (.ifCond .eq 7, 3) := by decide +kernel
theorem d_X1_outer_29 : decode b_X1_outer 29 = .ok (.iconst 1, 1) := by decide +kernel
theorem d_X1_outer_30 : decode b_X1_outer 30 = .ok (.goto 4, 3) := by decide +kernel
theorem d_X1_outer_33 : decode b_X1_outer 33 = .ok (.iconst 0, 1) := by decide +kernel
theorem d_X1_outer_34 : decode b_X1_outer 34 = .ok (.invokevirtual 167, 3) := by decide +kernel
theorem d_X1_outer_37 : decode b_X1_outer 37 = .ok (.aload_n 0, 1) := by decide +kernel
theorem d_X1_outer_38 : decode b_X1_outer 38 = .ok (.iload_n 3, 1) := by decide +kernel
theorem d_X1_outer_39 : decode b_X1_outer 39 = .ok (.ifCond .ne 10, 3) := by decide +kernel
theorem d_X1_outer_42 : decode b_X1_outer 42 = .ok (.aload_n 0, 1) := by decide +kernel
theorem d_X1_outer_43 : decode b_X1_outer 43 = .ok (.getfield 113, 3) := by decide +kernel
theorem d_X1_outer_46 : decode b_X1_outer 46 = .ok (.ifCond .eq 7, 3) := by decide +kernel
theorem d_X1_outer_49 : decode b_X1_outer 49 = .ok (.iconst 1, 1) := by decide +kernel
theorem d_X1_outer_50 : decode b_X1_outer 50 = .ok (.goto 4, 3) := by decide +kernel
theorem d_X1_outer_53 : decode b_X1_outer 53 = .ok (.iconst 0, 1) := by decide +kernel
theorem d_X1_outer_54 : decode b_X1_outer 54 = .ok (.invokevirtual 138, 3) := by decide +kernel
theorem d_X1_outer_57 : decode b_X1_outer 57 = .ok (.aload_n 0, 1) := by decide +kernel
theorem d_X1_outer_58 : decode b_X1_outer 58 = .ok (.getfield 113, 3) := by decide +kernel
theorem d_X1_outer_61 : decode b_X1_outer 61 = .ok (.ifCond .eq 7, 3) := by decide +kernel
theorem d_X1_outer_64 : decode b_X1_outer 64 = .ok (.iconst 0, 1) := by decide +kernel
theorem d_X1_outer_65 : decode b_X1_outer 65 = .ok (.goto 19, 3) := by decide +kernel
theorem d_X1_outer_68 : decode b_X1_outer 68 = .ok (.aload_n 0, 1) := by decide +kernel
theorem d_X1_outer_69 : decode b_X1_outer 69 = .ok (.getfield 98, 3) := by decide +kernel
theorem d_X1_outer_72 : decode b_X1_outer 72 = .ok (.iconst (-1), 1) := by decide +kernel
theorem d_X1_outer_73 : decode b_X1_outer 73 = .ok (.if_icmp .ne 7, 3) := by decide +kernel
theorem d_X1_outer_76 : decode b_X1_outer 76 = .ok (.iconst 1, 1) := by decide +kernel
theorem d_X1_outer_77 : decode b_X1_outer 77 = .ok (.goto 7, 3) := by decide +kernel
theorem d_X1_outer_80 : decode b_X1_outer 80 = .ok (.aload_n 0, 1) := by decide +kernel
theorem d_X1_outer_81 : decode b_X1_outer 81 = .ok (.getfield 98, 3) := by decide +kernel
theorem d_X1_outer_84 : decode b_X1_outer 84 = .ok (.istore 5, 2) := by decide +kernel
theorem d_X1_outer_86 : decode b_X1_outer 86 = .ok (.aload_n 0, 1) := by decide +kernel
theorem d_X1_outer_87 : decode b_X1_outer 87 = .ok (.getfield 26, 3) := by decide +kernel
theorem d_X1_outer_90 : decode b_X1_outer 90 = .ok (.getfield 170, 3) := by decide +kernel
theorem d_X1_outer_93 : decode b_X1_outer 93 = .ok (.iload 5, 2) := by decide +kernel
theorem d_X1_outer_95 : decode b_X1_outer 95 = .ok (.iadd, 1) := by decide +kernel
theorem d_X1_outer_96 : decode b_X1_outer 96 = .ok (.sipush 16000, 3) := by decide +kernel
theorem d_X1_outer_99 : decode b_X1_outer 99 = .ok (.if_icmp .le 12, 3) := by decide +kernel
theorem d_X1_outer_102 : decode b_X1_outer 102 = .ok (.aload_n 0, 1) := by decide +kernel
theorem d_X1_outer_103 : decode b_X1_outer 103 = .ok (.getfield 26, 3) := by decide +kernel
theorem d_X1_outer_106 : decode b_X1_outer 106 = .ok (.iconst 4, 1) := by decide +kernel
theorem d_X1_outer_107 : decode b_X1_outer 107 = .ok (.iload_n 1, 1) := by decide +kernel
theorem d_X1_outer_108 : decode b_X1_outer 108 = .ok (.invokevirtual 124, 3) := by decide +kernel
theorem d_X1_outer_111 : decode b_X1_outer 111 = .ok (.aload_n 0, 1) := by decide +kernel
theorem d_X1_outer_112 : decode b_X1_outer 112 = .ok (.getfield 26, 3) := by decide +kernel
theorem d_X1_outer_115 : decode b_X1_outer 115 = .ok (.getfield 142, 3) := by decide +kernel
theorem d_X1_outer_118 : decode b_X1_outer 118 = .ok (.ifCond .eq 4, 3) := by decide +kernel
theorem d_X1_outer_121 : decode b_X1_outer 121 = .ok (.return_, 1) := by decide +kernel
theorem d_X1_outer_122 : decode b_X1_outer 122 = .ok (.aload_n 0, 1) := by decide +kernel
theorem d_X1_outer_123 : decode b_X1_outer 123 = .ok (.iload 4, 2) := by decide +kernel
theorem d_X1_outer_125 : decode b_X1_outer 125 = .ok (.ifCond .ge 14, 3) := by decide +kernel
theorem d_X1_outer_128 : decode b_X1_outer 128 = .ok (.aload_n 0, 1) := by decide +kernel
theorem d_X1_outer_129 : decode b_X1_outer 129 = .ok (.getfield 26, 3) := by decide +kernel
theorem d_X1_outer_132 : decode b_X1_outer 132 = .ok (.iload_n 1, 1) := by decide +kernel
theorem d_X1_outer_133 : decode b_X1_outer 133 = .ok (.invokevirtual 173, 3) := by decide +kernel
theorem d_X1_outer_136 : decode b_X1_outer 136 = .ok (.goto 5, 3) := by decide +kernel
theorem d_X1_outer_139 : decode b_X1_outer 139 = .ok (.iload 4, 2) := by decide +kernel
theorem d_X1_outer_141 : decode b_X1_outer 141 = .ok (.putfield 145, 3) := by decide +kernel
theorem d_X1_outer_144 : decode b_X1_outer 144 = .ok (.aload_n 0, 1) := by decide +kernel
theorem d_X1_outer_145 : decode b_X1_outer 145 = .ok (.getfield 34, 3) := by decide +kernel
theorem d_X1_outer_148 : decode b_X1_outer 148 = .ok (.getfield 176, 3) := by decide +kernel
theorem d_X1_outer_151 : decode b_X1_outer 151 = .ok (.aload_n 0, 1) := by decide +kernel
theorem d_X1_outer_152 : decode b_X1_outer 152 = .ok (.getfield 145, 3) := by decide +kernel
theorem d_X1_outer_155 : decode b_X1_outer 155 = .ok (.aload_n 0, 1) := by decide +kernel
theorem d_X1_outer_156 : decode b_X1_outer 156 = .ok (.getfield 95, 3) := by decide +kernel
theorem d_X1_outer_159 : decode b_X1_outer 159 = .ok (.invokestatic 181, 3) := by decide +kernel
theorem d_X1_outer_162 : decode b_X1_outer 162 = .ok (.iload 4, 2) := by decide +kernel
theorem d_X1_outer_164 : decode b_X1_outer 164 = .ok (.ifCond .lt 10, 3) := by decide +kernel
theorem d_X1_outer_167 : decode b_X1_outer 167 = .ok (.aload_n 0, 1) := by decide +kernel
theorem d_X1_outer_168 : decode b_X1_outer 168 = .ok (.getfield 98, 3) := by decide +kernel
theorem d_X1_outer_171 : decode b_X1_outer 171 = .ok (.ifCond .le 21, 3) := by decide +kernel
theorem d_X1_outer_174 : decode b_X1_outer 174 = .ok (.aload_n 0, 1) := by decide +kernel
theorem d_X1_outer_175 : decode b_X1_outer 175 = .ok (.getfield 34, 3) := by decide +kernel
theorem d_X1_outer_178 : decode b_X1_outer 178 = .ok (.getfield 185, 3) := by decide +kernel
theorem d_X1_outer_181 : decode b_X1_outer 181 = .ok (.aload_n 0, 1) := by decide +kernel
theorem d_X1_outer_182 : decode b_X1_outer 182 = .ok (.getfield 145, 3) := by decide +kernel
theorem d_X1_outer_185 : decode b_X1_outer 185 = .ok (.aload_n 0, 1) := by decide +kernel
theorem d_X1_outer_186 : decode b_X1_outer 186 = .ok (.getfield 98, 3) := by decide +kernel
theorem d_X1_outer_189 : decode b_X1_outer 189 = .ok (.invokestatic 181, 3) := by decide +kernel
theorem d_X1_outer_192 : decode b_X1_outer 192 = .ok (.iload_n 2, 1) := by decide +kernel
theorem d_X1_outer_193 : decode b_X1_outer 193 = .ok (.iconst 1, 1) := by decide +kernel
theorem d_X1_outer_194 : decode b_X1_outer 194 = .ok (.if_icmp .ne 15, 3) := by decide +kernel
theorem d_X1_outer_197 : decode b_X1_outer 197 = .ok (.aload_n 0, 1) := by decide +kernel
theorem d_X1_outer_198 : decode b_X1_outer 198 = .ok (.getfield 34, 3) := by decide +kernel
theorem d_X1_outer_201 : decode b_X1_outer 201 = .ok (.aload_n 0, 1) := by decide +kernel
theorem d_X1_outer_202 : decode b_X1_outer 202 = .ok (.getfield 145, 3) := by decide +kernel
theorem d_X1_outer_205 : decode b_X1_outer 205 = .ok (.iconst 2, 1) := by decide +kernel
theorem d_X1_outer_206 : decode b_X1_outer 206 = .ok (.invokevirtual 188, 3) := by decide +kernel
theorem d_X1_outer_209 : decode b_X1_outer 209 = .ok (.aload_n 0, 1) := by decide +kernel
theorem d_X1_outer_210 : decode b_X1_outer 210 = .ok (.getfield 113, 3) := by decide +kernel
theorem d_X1_outer_213 : decode b_X1_outer 213 = .ok (.ifCond .ne 36, 3) := by decide +kernel
theorem d_X1_outer_216 : decode b_X1_outer 216 = .ok (.aload_n 0, 1) := by decide +kernel
theorem d_X1_outer_217 : decode b_X1_outer 217 = .ok (.getfield 34, 3) := by decide +kernel
theorem d_X1_outer_220 : decode b_X1_outer 220 = .ok (.aload_n 0, 1) := by decide +kernel
theorem d_X1_outer_221 : decode b_X1_outer 221 = .ok (.getfield 145, 3) := by decide +kernel
theorem d_X1_outer_224 : decode b_X1_outer 224 = .ok (.iconst 4, 1) := by decide +kernel
theorem d_X1_outer_225 : decode b_X1_outer 225 = .ok (.invokevirtual 188, 3) := by decide +kernel
theorem d_X1_outer_228 : decode b_X1_outer 228 = .ok (.aload_n 0, 1) := by decide +kernel
theorem d_X1_outer_229 : decode b_X1_outer 229 = .ok (.getfield 34, 3) := by decide +kernel
theorem d_X1_outer_232 : decode b_X1_outer 232 = .ok (.getfield 191, 3) := by decide +kernel
theorem d_X1_outer_235 : decode b_X1_outer 235 = .ok (.aload_n 0, 1) := by decide +kernel
theorem d_X1_outer_236 : decode b_X1_outer 236 = .ok (.getfield 145, 3) := by decide +kernel
theorem d_X1_outer_239 : decode b_X1_outer 239 = .ok (.aload_n 0, 1) := by decide +kernel
theorem d_X1_outer_240 : decode b_X1_outer 240 = .ok (.getfield 26, 3) := by decide +kernel
theorem d_X1_outer_243 : decode b_X1_outer 243 = .ok (.getfield 170, 3) := by decide +kernel
theorem d_X1_outer_246 : decode b_X1_outer 246 = .ok (.invokestatic 181, 3) := by decide +kernel
theorem d_X1_outer_249 : decode b_X1_outer 249 = .ok (.aload_n 0, 1) := by decide +kernel
theorem d_X1_outer_250 : decode b_X1_outer 250 = .ok (.aload_n 0, 1) := by decide +kernel
theorem d_X1_outer_251 : decode b_X1_outer 251 = .ok (.getfield 26, 3) := by decide +kernel
theorem d_X1_outer_254 : decode b_X1_outer 254 = .ok (.getfield 170, 3) := by decide +kernel
theorem d_X1_outer_257 : decode b_X1_outer 257 = .ok (.putfield 194, 3) := by decide +kernel
theorem d_X1_outer_260 : decode b_X1_outer 260 = .ok (.aload_n 0, 1) := by decide +kernel
theorem d_X1_outer_261 : decode b_X1_outer 261 = .ok (.getfield 26, 3) := by decide +kernel
theorem d_X1_outer_264 : decode b_X1_outer 264 = .ok (.dup, 1) := by decide +kernel
theorem d_X1_outer_265 : decode b_X1_outer 265 = .ok (.getfield 170, 3) := by decide +kernel
theorem d_X1_outer_268 : decode b_X1_outer 268 = .ok (.iload 5, 2) := by decide +kernel
theorem d_X1_outer_270 : decode b_X1_outer 270 = .ok (.iadd, 1) := by decide +kernel
theorem d_X1_outer_271 : decode b_X1_outer 271 = .ok (.putfield 170, 3) := by decide +kernel
theorem d_X1_outer_274 : decode b_X1_outer 274 = .ok (.return_, 1) := by decide +kernel
theorem d_X1_parameter_0 : decode b_X1_parameter 0 = .ok (.aload_n 0, 1) := by decide +kernel
theorem d_X1_parameter_1 : decode b_X1_parameter 1 = .ok (.getfield 25, 3) := by decide +kernel
theorem d_X1_parameter_4 : decode b_X1_parameter 4 = .ok (.getfield 257, 3) := by decide +kernel
theorem d_X1_parameter_7 : decode b_X1_parameter 7 = .ok (.iload_n 1, 1) := by decide +kernel
theorem d_X1_parameter_8 : decode b_X1_parameter 8 = .ok (.invokestatic 58, 3) := by decide +kernel
theorem d_X1_parameter_11 : decode b_X1_parameter 11 = .ok (.iconst 2, 1) := by decide +kernel
theorem d_X1_parameter_12 : decode b_X1_parameter 12 = .ok (.if_icmp .ne 15, 3) := by decide +kernel
theorem d_X1_parameter_15 : decode b_X1_parameter 15 = .ok (.aload_n 0, 1) := by decide +kernel
theorem d_X1_parameter_16 : decode b_X1_parameter 16 = .ok (.getfield 26, 3) := by decide +kernel
theorem d_X1_parameter_19 : decode b_X1_parameter 19 = .ok (.iconst 0, 1) := by decide +kernel
theorem d_X1_parameter_20 : decode b_X1_parameter 20 = .ok (.iload_n 1, 1) := by decide +kernel
theorem d_X1_parameter_21 : decode b_X1_parameter 21 = .ok (.invokevirtual 131, 3) := by decide +kernel
theorem d_X1_parameter_24 : decode b_X1_parameter 24 = .ok (.ifCond .lt 15, 3) := by decide +kernel
theorem d_X1_parameter_27 : decode b_X1_parameter 27 = .ok (.aload_n 0, 1) := by decide +kernel
theorem d_X1_parameter_28 : decode b_X1_parameter 28 = .ok (.getfield 26, 3) := by decide +kernel
theorem d_X1_parameter_31 : decode b_X1_parameter 31 = .ok (.iconst 2, 1) := by decide +kernel
theorem d_X1_parameter_32 : decode b_X1_parameter 32 = .ok (.iload_n 1, 1) := by decide +kernel
theorem d_X1_parameter_33 : decode b_X1_parameter 33 = .ok (.invokevirtual 124, 3) := by decide +kernel
theorem d_X1_parameter_36 : decode b_X1_parameter 36 = .ok (.goto 13, 3) := by decide +kernel
theorem d_X1_parameter_39 : decode b_X1_parameter 39 = .ok (.aload_n 0, 1) := by decide +kernel
theorem d_X1_parameter_40 : decode b_X1_parameter 40 = .ok (.getfield 26, 3) := by decide +kernel
theorem d_X1_parameter_43 : decode b_X1_parameter 43 = .ok (.iload_n 1, 1) := by decide +kernel
theorem d_X1_parameter_44 : decode b_X1_parameter 44 = .ok (.iload_n 2, 1) := by decide +kernel
theorem d_X1_parameter_45 : decode b_X1_parameter 45 = .ok (.iconst (-1), 1) := by decide +kernel
theorem d_X1_parameter_46 : decode b_X1_parameter 46 = .ok (.invokevirtual 147, 3) := by decide +kernel
theorem d_X1_parameter_49 : decode b_X1_parameter 49 = .ok (.return_, 1) := by decide +kernel
theorem d_X1_putInitial_0 : decode b_X1_putInitial 0 = .ok (.aload_n 0, 1) := by decide +kernel
theorem d_X1_putInitial_1 : decode b_X1_putInitial 1 = .ok (.getfield 41, 3) := by decide +kernel
theorem d_X1_putInitial_4 : decode b_X1_putInitial 4 = .ok (.aload_n 2, 1) := by decide +kernel
theorem d_X1_putInitial_5 : decode b_X1_putInitial 5 = .ok (.getfield 225, 3) := by decide +kernel
theorem d_X1_putInitial_8 : decode b_X1_putInitial 8 = .ok (.invokevirtual 228, 3) := by decide +kernel
theorem d_X1_putInitial_11 : decode b_X1_putInitial 11 = .ok (.aload_n 0, 1) := by decide +kernel
theorem d_X1_putInitial_12 : decode b_X1_putInitial 12 = .ok (.getfield 34, 3) := by decide +kernel
theorem d_X1_putInitial_15 : decode b_X1_putInitial 15 = .ok (.aload_n 0, 1) := by decide +kernel
theorem d_X1_putInitial_16 : decode b_X1_putInitial 16 = .ok (.getfield 194, 3) := by decide +kernel
theorem d_X1_putInitial_19 : decode b_X1_putInitial 19 = .ok (.iload_n 1, 1) := by decide +kernel
theorem d_X1_putInitial_20 : decode b_X1_putInitial 20 = .ok (.iadd, 1) := by decide +kernel
theorem d_X1_putInitial_21 : decode b_X1_putInitial 21 = .ok (.aload_n 2, 1) := by decide +kernel
theorem d_X1_putInitial_22 : decode b_X1_putInitial 22 = .ok (.invokevirtual 231, 3) := by decide +kernel
theorem d_X1_putInitial_25 : decode b_X1_putInitial 25 = .ok (.ifCond .eq 8, 3) := by decide +kernel
theorem d_X1_putInitial_28 : decode b_X1_putInitial 28 = .ok (.bipush (-2), 2) := by decide +kernel
theorem d_X1_putInitial_30 : decode b_X1_putInitial 30 = .ok (.goto 7, 3) := by decide +kernel
theorem d_X1_putInitial_33 : decode b_X1_putInitial 33 = .ok (.aload_n 2, 1) := by decide +kernel
theorem d_X1_putInitial_34 : decode b_X1_putInitial 34 = .ok (.getfield 234, 3) := by decide +kernel
theorem d_X1_putInitial_37 : decode b_X1_putInitial 37 = .ok (.aload_n 2, 1) := by decide +kernel
theorem d_X1_putInitial_38 : decode b_X1_putInitial 38 = .ok (.getfield 237, 3) := by decide +kernel
theorem d_X1_putInitial_41 : decode b_X1_putInitial 41 = .ok (.invokevirtual 240, 3) := by decide +kernel
theorem d_X1_putInitial_44 : decode b_X1_putInitial 44 = .ok (.return_, 1) := by decide +kernel
theorem d_X1_storeLocal_0 : decode b_X1_storeLocal 0 = .ok (.aload_n 0, 1) := by decide +kernel
theorem d_X1_storeLocal_1 : decode b_X1_storeLocal 1 = .ok (.getfield 41, 3) := by decide +kernel
theorem d_X1_storeLocal_4 : decode b_X1_storeLocal 4 = .ok (.bipush 9, 2) := by decide +kernel
theorem d_X1_storeLocal_6 : decode b_X1_storeLocal 6 = .ok (.aload_n 0, 1) := by decide +kernel
theorem d_X1_storeLocal_7 : decode b_X1_storeLocal 7 = .ok (.getfield 145, 3) := by decide +kernel
theorem d_X1_storeLocal_10 : decode b_X1_storeLocal 10 = .ok (.iconst 0, 1) := by decide +kernel
theorem d_X1_storeLocal_11 : decode b_X1_storeLocal 11 = .ok (.iconst 0, 1) := by decide +kernel
theorem d_X1_storeLocal_12 : decode b_X1_storeLocal 12 = .ok (.invokevirtual 152, 3) := by decide +kernel
theorem d_X1_storeLocal_15 : decode b_X1_storeLocal 15 = .ok (.pop, 1) := by decide +kernel
theorem d_X1_storeLocal_16 : decode b_X1_storeLocal 16 = .ok (.aload_n 0, 1) := by decide +kernel
theorem d_X1_storeLocal_17 : decode b_X1_storeLocal 17 = .ok (.getfield 41, 3) := by decide +kernel
theorem d_X1_storeLocal_20 : decode b_X1_storeLocal 20 = .ok (.iconst 2, 1) := by decide +kernel
theorem d_X1_storeLocal_21 : decode b_X1_storeLocal 21 = .ok (.iconst 0, 1) := by decide +kernel
theorem d_X1_storeLocal_22 : decode b_X1_storeLocal 22 = .ok (.iconst 0, 1) := by decide +kernel
theorem d_X1_storeLocal_23 : decode b_X1_storeLocal 23 = .ok (.iconst 0, 1) := by decide +kernel
theorem d_X1_storeLocal_24 : decode b_X1_storeLocal 24 = .ok (.invokevirtual 152, 3) := by decide +kernel
theorem d_X1_storeLocal_27 : decode b_X1_storeLocal 27 = .ok (.pop, 1) := by decide +kernel
theorem d_X1_storeLocal_28 : decode b_X1_storeLocal 28 = .ok (.return_, 1) := by decide +kernel
theorem d_X1_suits_0 : decode b_X1_suits 0 = .ok (.aload_n 1, 1) := by decide +kernel
theorem d_X1_suits_1 : decode b_X1_suits 1 = .ok (.aload_n 0, 1) := by decide +kernel
theorem d_X1_suits_2 : decode b_X1_suits 2 = .ok (.getfield 95, 3) := by decide +kernel
theorem d_X1_suits_5 : decode b_X1_suits 5 = .ok (.invokevirtual 203, 3) := by decide +kernel
theorem d_X1_suits_8 : decode b_X1_suits 8 = .ok (.ifCond .eq 21, 3) := by decide +kernel
theorem d_X1_suits_11 : decode b_X1_suits 11 = .ok (.aload_n 0, 1) := by decide +kernel
theorem d_X1_suits_12 : decode b_X1_suits 12 = .ok (.getfield 110, 3) := by decide +kernel
theorem d_X1_suits_15 : decode b_X1_suits 15 = .ok (.ifCond .ne 10, 3) := by decide +kernel
theorem d_X1_suits_18 : decode b_X1_suits 18 = .ok (.aload_n 1, 1) := by decide +kernel
theorem d_X1_suits_19 : decode b_X1_suits 19 = .ok (.invokevirtual 209, 3) := by decide +kernel
theorem d_X1_suits_22 : decode b_X1_suits 22 = .ok (.ifCond .eq 7, 3) := by decide +kernel
theorem d_X1_suits_25 : decode b_X1_suits 25 = .ok (.iconst 1, 1) := by decide +kernel
theorem d_X1_suits_26 : decode b_X1_suits 26 = .ok (.goto 4, 3) := by decide +kernel
theorem d_X1_suits_29 : decode b_X1_suits 29 = .ok (.iconst 0, 1) := by decide +kernel
theorem d_X1_suits_30 : decode b_X1_suits 30 = .ok (.ireturn, 1) := by decide +kernel
theorem d_X1_take_0 : decode b_X1_take 0 = .ok (.aload_n 0, 1) := by decide +kernel
theorem d_X1_take_1 : decode b_X1_take 1 = .ok (.getfield 15, 3) := by decide +kernel
theorem d_X1_take_4 : decode b_X1_take 4 = .ok (.getfield 53, 3) := by decide +kernel
theorem d_X1_take_7 : decode b_X1_take 7 = .ok (.iload_n 2, 1) := by decide +kernel
theorem d_X1_take_8 : decode b_X1_take 8 = .ok (.invokestatic 58, 3) := by decide +kernel
theorem d_X1_take_11 : decode b_X1_take 11 = .ok (.istore_n 3, 1) := by decide +kernel
theorem d_X1_take_12 : decode b_X1_take 12 = .ok (.aload_n 0, 1) := by decide +kernel
theorem d_X1_take_13 : decode b_X1_take 13 = .ok (.getfield 15, 3) := by decide +kernel
theorem d_X1_take_16 : decode b_X1_take 16 = .ok (.getfield 62, 3) := by decide +kernel
theorem d_X1_take_19 : decode b_X1_take 19 = .ok (.iload_n 2, 1) := by decide +kernel
theorem d_X1_take_20 : decode b_X1_take 20 = .ok (.invokestatic 58, 3) := by decide +kernel
theorem d_X1_take_23 : decode b_X1_take 23 = .ok (.istore 4, 2) := by decide +kernel
theorem d_X1_take_25 : decode b_X1_take 25 = .ok (.aload_n 0, 1) := by decide +kernel
theorem d_X1_take_26 : decode b_X1_take 26 = .ok (.getfield 15, 3) := by decide +kernel
theorem d_X1_take_29 : decode b_X1_take 29 = .ok (.getfield 65, 3) := by decide +kernel
theorem d_X1_take_32 : decode b_X1_take 32 = .ok (.iload_n 2, 1) := by decide +kernel
theorem d_X1_take_33 : decode b_X1_take 33 = .ok (.invokestatic 58, 3) := by decide +kernel
theorem d_X1_take_36 : decode b_X1_take 36 = .ok (.istore 5, 2) := by decide +kernel
theorem d_X1_take_38 : decode b_X1_take 38 = .ok (.iload_n 1, 1) := by decide +kernel
theorem d_X1_take_39 : decode b_X1_take 39 = .ok (.tableswitch 135 42 48 #[41, 76, 88, 95, 103, 113, 125], 41) := by decide +kernel
theorem d_X1_take_80 : decode b_X1_take 80 = .ok (.aload_n 0, 1) := by decide +kernel
theorem d_X1_take_81 : decode b_X1_take 81 = .ok (.iload_n 3, 1) := by decide +kernel
theorem d_X1_take_82 : decode b_X1_take 82 = .ok (.putfield 46, 3) := by decide +kernel
theorem d_X1_take_85 : decode b_X1_take 85 = .ok (.aload_n 0, 1) := by decide +kernel
theorem d_X1_take_86 : decode b_X1_take 86 = .ok (.iload 4, 2) := by decide +kernel
theorem d_X1_take_88 : decode b_X1_take 88 = .ok (.ifCond .eq 10, 3) := by decide +kernel
theorem d_X1_take_91 : decode b_X1_take 91 = .ok (.aload_n 0, 1) := by decide +kernel
theorem d_X1_take_92 : decode b_X1_take 92 = .ok (.getfield 50, 3) := by decide +kernel
theorem d_X1_take_95 : decode b_X1_take 95 = .ok (.goto 14, 3) := by decide +kernel
theorem d_X1_take_98 : decode b_X1_take 98 = .ok (.iload 5, 2) := by decide +kernel
theorem d_X1_take_100 : decode b_X1_take 100 = .ok (.ifCond .le 8, 3) := by decide +kernel
theorem d_X1_take_103 : decode b_X1_take 103 = .ok (.iload 5, 2) := by decide +kernel
theorem d_X1_take_105 : decode b_X1_take 105 = .ok (.goto 4, 3) := by decide +kernel
theorem d_X1_take_108 : decode b_X1_take 108 = .ok (.iconst (-1), 1) := by decide +kernel
theorem d_X1_take_109 : decode b_X1_take 109 = .ok (.putfield 68, 3) := by decide +kernel
theorem d_X1_take_112 : decode b_X1_take 112 = .ok (.goto 66, 3) := by decide +kernel
theorem d_X1_take_115 : decode b_X1_take 115 = .ok (.aload_n 0, 1) := by decide +kernel
theorem d_X1_take_116 : decode b_X1_take 116 = .ok (.iload_n 3, 1) := by decide +kernel
theorem d_X1_take_117 : decode b_X1_take 117 = .ok (.iload 4, 2) := by decide +kernel
theorem d_X1_take_119 : decode b_X1_take 119 = .ok (.iload 5, 2) := by decide +kernel
theorem d_X1_take_121 : decode b_X1_take 121 = .ok (.invokevirtual 71, 3) := by decide +kernel
theorem d_X1_take_124 : decode b_X1_take 124 = .ok (.goto 54, 3) := by decide +kernel
theorem d_X1_take_127 : decode b_X1_take 127 = .ok (.aload_n 0, 1) := by decide +kernel
theorem d_X1_take_128 : decode b_X1_take 128 = .ok (.invokevirtual 75, 3) := by decide +kernel
theorem d_X1_take_131 : decode b_X1_take 131 = .ok (.goto 47, 3) := by decide +kernel
theorem d_X1_take_134 : decode b_X1_take 134 = .ok (.aload_n 0, 1) := by decide +kernel
theorem d_X1_take_135 : decode b_X1_take 135 = .ok (.iload_n 3, 1) := by decide +kernel
theorem d_X1_take_136 : decode b_X1_take 136 = .ok (.invokevirtual 78, 3) := by decide +kernel
theorem d_X1_take_139 : decode b_X1_take 139 = .ok (.goto 39, 3) := by decide +kernel
theorem d_X1_take_142 : decode b_X1_take 142 = .ok (.aload_n 0, 1) := by decide +kernel
theorem d_X1_take_143 : decode b_X1_take 143 = .ok (.iload_n 3, 1) := by decide +kernel
theorem d_X1_take_144 : decode b_X1_take 144 = .ok (.iload 4, 2) := by decide +kernel
theorem d_X1_take_146 : decode b_X1_take 146 = .ok (.invokevirtual 82, 3) := by decide +kernel
theorem d_X1_take_149 : decode b_X1_take 149 = .ok (.goto 29, 3) := by decide +kernel
theorem d_X1_take_152 : decode b_X1_take 152 = .ok (.aload_n 0, 1) := by decide +kernel
theorem d_X1_take_153 : decode b_X1_take 153 = .ok (.iload_n 3, 1) := by decide +kernel
theorem d_X1_take_154 : decode b_X1_take 154 = .ok (.iload 4, 2) := by decide +kernel
theorem d_X1_take_156 : decode b_X1_take 156 = .ok (.iload 5, 2) := by decide +kernel
theorem d_X1_take_158 : decode b_X1_take 158 = .ok (.invokevirtual 86, 3) := by decide +kernel
theorem d_X1_take_161 : decode b_X1_take 161 = .ok (.goto 17, 3) := by decide +kernel
theorem d_X1_take_164 : decode b_X1_take 164 = .ok (.aload_n 0, 1) := by decide +kernel
theorem d_X1_take_165 : decode b_X1_take 165 = .ok (.iload_n 3, 1) := by decide +kernel
theorem d_X1_take_166 : decode b_X1_take 166 = .ok (.iload 4, 2) := by decide +kernel
theorem d_X1_take_168 : decode b_X1_take 168 = .ok (.invokevirtual 89, 3) := by decide +kernel
theorem d_X1_take_171 : decode b_X1_take 171 = .ok (.goto 7, 3) := by decide +kernel
theorem d_X1_take_174 : decode b_X1_take 174 = .ok (.aload_n 0, 1) := by decide +kernel
theorem d_X1_take_175 : decode b_X1_take 175 = .ok (.invokevirtual 92, 3) := by decide +kernel
theorem d_X1_take_178 : decode b_X1_take 178 = .ok (.return_, 1) := by decide +kernel
theorem d_X1_variable_0 : decode b_X1_variable 0 = .ok (.iload_n 3, 1) := by decide +kernel
theorem d_X1_variable_1 : decode b_X1_variable 1 = .ok (.iconst 3, 1) := by decide +kernel
theorem d_X1_variable_2 : decode b_X1_variable 2 = .ok (.iand, 1) := by decide +kernel
theorem d_X1_variable_3 : decode b_X1_variable 3 = .ok (.istore 4, 2) := by decide +kernel
theorem d_X1_variable_5 : decode b_X1_variable 5 = .ok (.iload_n 3, 1) := by decide +kernel
theorem d_X1_variable_6 : decode b_X1_variable 6 = .ok (.iconst 4, 1) := by decide +kernel
theorem d_X1_variable_7 : decode b_X1_variable 7 = .ok (.iand, 1) := by decide +kernel
theorem d_X1_variable_8 : decode b_X1_variable 8 = .ok (.ifCond .eq 7, 3) := by decide +kernel
theorem d_X1_variable_11 : decode b_X1_variable 11 = .ok (.iconst 1, 1) := by decide +kernel
theorem d_X1_variable_12 : decode b_X1_variable 12 = .ok (.goto 4, 3) := by decide +kernel
theorem d_X1_variable_15 : decode b_X1_variable 15 = .ok (.iconst 0, 1) := by decide +kernel
theorem d_X1_variable_16 : decode b_X1_variable 16 = .ok (.istore 5, 2) := by decide +kernel
theorem d_X1_variable_18 : decode b_X1_variable 18 = .ok (.aload_n 0, 1) := by decide +kernel
theorem d_X1_variable_19 : decode b_X1_variable 19 = .ok (.iload_n 2, 1) := by decide +kernel
theorem d_X1_variable_20 : decode b_X1_variable 20 = .ok (.putfield 95, 3) := by decide +kernel
theorem d_X1_variable_23 : decode b_X1_variable 23 = .ok (.aload_n 0, 1) := by decide +kernel
theorem d_X1_variable_24 : decode b_X1_variable 24 = .ok (.aload_n 0, 1) := by decide +kernel
theorem d_X1_variable_25 : decode b_X1_variable 25 = .ok (.getfield 46, 3) := by decide +kernel
theorem d_X1_variable_28 : decode b_X1_variable 28 = .ok (.ifCond .ge 7, 3) := by decide +kernel
theorem d_X1_variable_31 : decode b_X1_variable 31 = .ok (.iconst (-1), 1) := by decide +kernel
theorem d_X1_variable_32 : decode b_X1_variable 32 = .ok (.goto 29, 3) := by decide +kernel
theorem d_X1_variable_35 : decode b_X1_variable 35 = .ok (.aload_n 0, 1) := by decide +kernel
theorem d_X1_variable_36 : decode b_X1_variable 36 = .ok (.getfield 68, 3) := by decide +kernel
theorem d_X1_variable_39 : decode b_X1_variable 39 = .ok (.iconst 1, 1) := by decide +kernel
theorem d_X1_variable_40 : decode b_X1_variable 40 = .ok (.if_icmp .lt 20, 3) := by decide +kernel
theorem d_X1_variable_43 : decode b_X1_variable 43 = .ok (.aload_n 0, 1) := by decide +kernel
theorem d_X1_variable_44 : decode b_X1_variable 44 = .ok (.getfield 68, 3) := by decide +kernel
theorem d_X1_variable_47 : decode b_X1_variable 47 = .ok (.sipush 4000, 3) := by decide +kernel
theorem d_X1_variable_50 : decode b_X1_variable 50 = .ok (.if_icmp .gt 10, 3) := by decide +kernel
theorem d_X1_variable_53 : decode b_X1_variable 53 = .ok (.aload_n 0, 1) := by decide +kernel
theorem d_X1_variable_54 : decode b_X1_variable 54 = .ok (.getfield 68, 3) := by decide +kernel
theorem d_X1_variable_57 : decode b_X1_variable 57 = .ok (.goto 4, 3) := by decide +kernel
theorem d_X1_variable_60 : decode b_X1_variable 60 = .ok (.iconst 0, 1) := by decide +kernel
theorem d_X1_variable_61 : decode b_X1_variable 61 = .ok (.putfield 98, 3) := by decide +kernel
theorem d_X1_variable_64 : decode b_X1_variable 64 = .ok (.aload_n 0, 1) := by decide +kernel
theorem d_X1_variable_65 : decode b_X1_variable 65 = .ok (.iconst 0, 1) := by decide +kernel
theorem d_X1_variable_66 : decode b_X1_variable 66 = .ok (.putfield 101, 3) := by decide +kernel
theorem d_X1_variable_69 : decode b_X1_variable 69 = .ok (.aload_n 0, 1) := by decide +kernel
theorem d_X1_variable_70 : decode b_X1_variable 70 = .ok (.iconst 0, 1) := by decide +kernel
theorem d_X1_variable_71 : decode b_X1_variable 71 = .ok (.putfield 104, 3) := by decide +kernel
theorem d_X1_variable_74 : decode b_X1_variable 74 = .ok (.aload_n 0, 1) := by decide +kernel
theorem d_X1_variable_75 : decode b_X1_variable 75 = .ok (.aload_n 0, 1) := by decide +kernel
theorem d_X1_variable_76 : decode b_X1_variable 76 = .ok (.getfield 26, 3) := by decide +kernel
theorem d_X1_variable_79 : decode b_X1_variable 79 = .ok (.getfield 108, 3) := by decide +kernel
theorem d_X1_variable_82 : decode b_X1_variable 82 = .ok (.ifCond .lt 7, 3) := by decide +kernel
theorem d_X1_variable_85 : decode b_X1_variable 85 = .ok (.iconst 1, 1) := by decide +kernel
theorem d_X1_variable_86 : decode b_X1_variable 86 = .ok (.goto 4, 3) := by decide +kernel
theorem d_X1_variable_89 : decode b_X1_variable 89 = .ok (.iconst 0, 1) := by decide +kernel
theorem d_X1_variable_90 : decode b_X1_variable 90 = .ok (.putfield 110, 3) := by decide +kernel
theorem d_X1_variable_93 : decode b_X1_variable 93 = .ok (.aload_n 0, 1) := by decide +kernel
theorem d_X1_variable_94 : decode b_X1_variable 94 = .ok (.iload 4, 2) := by decide +kernel
theorem d_X1_variable_96 : decode b_X1_variable 96 = .ok (.iconst 2, 1) := by decide +kernel
theorem d_X1_variable_97 : decode b_X1_variable 97 = .ok (.if_icmp .ne 7, 3) := by decide +kernel
theorem d_X1_variable_100 : decode b_X1_variable 100 = .ok (.iconst 1, 1) := by decide +kernel
theorem d_X1_variable_101 : decode b_X1_variable 101 = .ok (.goto 4, 3) := by decide +kernel
theorem d_X1_variable_104 : decode b_X1_variable 104 = .ok (.iconst 0, 1) := by decide +kernel
theorem d_X1_variable_105 : decode b_X1_variable 105 = .ok (.putfield 113, 3) := by decide +kernel
theorem d_X1_variable_108 : decode b_X1_variable 108 = .ok (.aload_n 0, 1) := by decide +kernel
theorem d_X1_variable_109 : decode b_X1_variable 109 = .ok (.getfield 110, 3) := by decide +kernel
theorem d_X1_variable_112 : decode b_X1_variable 112 = .ok (.ifCond .eq 13, 3) := by decide +kernel
theorem d_X1_variable_115 : decode b_X1_variable 115 = .ok (.aload_n 0, 1) := by decide +kernel
theorem d_X1_variable_116 : decode b_X1_variable 116 = .ok (.iload_n 1, 1) := by decide +kernel
theorem d_X1_variable_117 : decode b_X1_variable 117 = .ok (.iload 5, 2) := by decide +kernel
theorem d_X1_variable_119 : decode b_X1_variable 119 = .ok (.invokevirtual 116, 3) := by decide +kernel
theorem d_X1_variable_122 : decode b_X1_variable 122 = .ok (.goto 12, 3) := by decide +kernel
theorem d_X1_variable_125 : decode b_X1_variable 125 = .ok (.aload_n 0, 1) := by decide +kernel
theorem d_X1_variable_126 : decode b_X1_variable 126 = .ok (.iload_n 1, 1) := by decide +kernel
theorem d_X1_variable_127 : decode b_X1_variable 127 = .ok (.iload 4, 2) := by decide +kernel
theorem d_X1_variable_129 : decode b_X1_variable 129 = .ok (.iload 5, 2) := by decide +kernel
theorem d_X1_variable_131 : decode b_X1_variable 131 = .ok (.invokevirtual 120, 3) := by decide +kernel
theorem d_X1_variable_134 : decode b_X1_variable 134 = .ok (.aload_n 0, 1) := by decide +kernel
theorem d_X1_variable_135 : decode b_X1_variable 135 = .ok (.iconst (-1), 1) := by decide +kernel
theorem d_X1_variable_136 : decode b_X1_variable 136 = .ok (.putfield 46, 3) := by decide +kernel
theorem d_X1_variable_139 : decode b_X1_variable 139 = .ok (.return_, 1) := by decide +kernel
theorem d_X2_init_0 : decode b_X2_init 0 = .ok (.aload_n 0, 1) := by decide +kernel
theorem d_X2_init_1 : decode b_X2_init 1 = .ok (.invokespecial 3, 3) := by decide +kernel
theorem d_X2_init_4 : decode b_X2_init 4 = .ok (.aload_n 0, 1) := by decide +kernel
theorem d_X2_init_5 : decode b_X2_init 5 = .ok (.sipush 500, 3) := by decide +kernel
theorem d_X2_init_8 : decode b_X2_init 8 = .ok (.anewarray 11, 3) := by decide +kernel
theorem d_X2_init_11 : decode b_X2_init 11 = .ok (.putfield 13, 3) := by decide +kernel
theorem d_X2_init_14 : decode b_X2_init 14 = .ok (.aload_n 0, 1) := by decide +kernel
theorem d_X2_init_15 : decode b_X2_init 15 = .ok (.new 11, 3) := by decide +kernel
theorem d_X2_init_18 : decode b_X2_init 18 = .ok (.dup, 1) := by decide +kernel
theorem d_X2_init_19 : decode b_X2_init 19 = .ok (.invokespecial 17, 3) := by decide +kernel
theorem d_X2_init_22 : decode b_X2_init 22 = .ok (.putfield 18, 3) := by decide +kernel
theorem d_X2_init_25 : decode b_X2_init 25 = .ok (.aload_n 0, 1) := by decide +kernel
theorem d_X2_init_26 : decode b_X2_init 26 = .ok (.iconst 0, 1) := by decide +kernel
theorem d_X2_init_27 : decode b_X2_init 27 = .ok (.putfield 22, 3) := by decide +kernel
theorem d_X2_init_30 : decode b_X2_init 30 = .ok (.aload_n 0, 1) := by decide +kernel
theorem d_X2_init_31 : decode b_X2_init 31 = .ok (.aload_n 1, 1) := by decide +kernel
theorem d_X2_init_32 : decode b_X2_init 32 = .ok (.putfield 26, 3) := by decide +kernel
theorem d_X2_init_35 : decode b_X2_init 35 = .ok (.aload_n 0, 1) := by decide +kernel
theorem d_X2_init_36 : decode b_X2_init 36 = .ok (.aload_n 2, 1) := by decide +kernel
theorem d_X2_init_37 : decode b_X2_init 37 = .ok (.getfield 30, 3) := by decide +kernel
theorem d_X2_init_40 : decode b_X2_init 40 = .ok (.putfield 36, 3) := by decide +kernel
theorem d_X2_init_43 : decode b_X2_init 43 = .ok (.aload_n 0, 1) := by decide +kernel
theorem d_X2_init_44 : decode b_X2_init 44 = .ok (.aload_n 2, 1) := by decide +kernel
theorem d_X2_init_45 : decode b_X2_init 45 = .ok (.putfield 37, 3) := by decide +kernel
theorem d_X2_init_48 : decode b_X2_init 48 = .ok (.aload_n 0, 1) := by decide +kernel
theorem d_X2_init_49 : decode b_X2_init 49 = .ok (.aload_n 2, 1) := by decide +kernel
theorem d_X2_init_50 : decode b_X2_init 50 = .ok (.getfield 41, 3) := by decide +kernel
theorem d_X2_init_53 : decode b_X2_init 53 = .ok (.putfield 45, 3) := by decide +kernel
theorem d_X2_init_56 : decode b_X2_init 56 = .ok (.aload_n 0, 1) := by decide +kernel
theorem d_X2_init_57 : decode b_X2_init 57 = .ok (.aload_n 3, 1) := by decide +kernel
theorem d_X2_init_58 : decode b_X2_init 58 = .ok (.putfield 46, 3) := by decide +kernel
theorem d_X2_init_61 : decode b_X2_init 61 = .ok (.iconst 0, 1) := by decide +kernel
theorem d_X2_init_62 : decode b_X2_init 62 = .ok (.istore 4, 2) := by decide +kernel
theorem d_X2_init_64 : decode b_X2_init 64 = .ok (.iload 4, 2) := by decide +kernel
theorem d_X2_init_66 : decode b_X2_init 66 = .ok (.aload_n 0, 1) := by decide +kernel
theorem d_X2_init_67 : decode b_X2_init 67 = .ok (.getfield 13, 3) := by decide +kernel
theorem d_X2_init_70 : decode b_X2_init 70 = .ok (.arraylength, 1) := by decide +kernel
theorem d_X2_init_71 : decode b_X2_init 71 = .ok (.if_icmp .ge 23, 3) := by decide +kernel
theorem d_X2_init_74 : decode b_X2_init 74 = .ok (.aload_n 0, 1) := by decide +kernel
theorem d_X2_init_75 : decode b_X2_init 75 = .ok (.getfield 13, 3) := by decide +kernel
theorem d_X2_init_78 : decode b_X2_init 78 = .ok (.iload 4, 2) := by decide +kernel
theorem d_X2_init_80 : decode b_X2_init 80 = .ok (.new 11, 3) := by decide +kernel
theorem d_X2_init_83 : decode b_X2_init 83 = .ok (.dup, 1) := by decide +kernel
theorem d_X2_init_84 : decode b_X2_init 84 = .ok (.invokespecial 17, 3) := by decide +kernel
theorem d_X2_init_87 : decode b_X2_init 87 = .ok (.aastore, 1) := by decide +kernel
theorem d_X2_init_88 : decode b_X2_init 88 = .ok (.iinc 4 1, 3) := by decide +kernel
theorem d_X2_init_91 : decode b_X2_init 91 = .ok (.goto (-27), 3) := by decide +kernel
theorem d_X2_init_94 : decode b_X2_init 94 = .ok (.return_, 1) := by decide +kernel
theorem d_X2_address_0 : decode b_X2_address 0 = .ok (.aload_n 1, 1) := by decide +kernel
theorem d_X2_address_1 : decode b_X2_address 1 = .ok (.getfield 149, 3) := by decide +kernel
theorem d_X2_address_4 : decode b_X2_address 4 = .ok (.iconst 2, 1) := by decide +kernel
theorem d_X2_address_5 : decode b_X2_address 5 = .ok (.if_icmp .ne 7, 3) := by decide +kernel
theorem d_X2_address_8 : decode b_X2_address 8 = .ok (.iconst 1, 1) := by decide +kernel
theorem d_X2_address_9 : decode b_X2_address 9 = .ok (.goto 4, 3) := by decide +kernel
theorem d_X2_address_12 : decode b_X2_address 12 = .ok (.iconst 0, 1) := by decide +kernel
theorem d_X2_address_13 : decode b_X2_address 13 = .ok (.istore_n 2, 1) := by decide +kernel
theorem d_X2_address_14 : decode b_X2_address 14 = .ok (.aload_n 1, 1) := by decide +kernel
theorem d_X2_address_15 : decode b_X2_address 15 = .ok (.getfield 149, 3) := by decide +kernel
theorem d_X2_address_18 : decode b_X2_address 18 = .ok (.iconst 1, 1) := by decide +kernel
theorem d_X2_address_19 : decode b_X2_address 19 = .ok (.if_icmp .ne 37, 3) := by decide +kernel
theorem d_X2_address_22 : decode b_X2_address 22 = .ok (.aload_n 0, 1) := by decide +kernel
theorem d_X2_address_23 : decode b_X2_address 23 = .ok (.getfield 37, 3) := by decide +kernel
theorem d_X2_address_26 : decode b_X2_address 26 = .ok (.getfield 249, 3) := by decide +kernel
theorem d_X2_address_29 : decode b_X2_address 29 = .ok (.aload_n 1, 1) := by decide +kernel
theorem d_X2_address_30 : decode b_X2_address 30 = .ok (.getfield 159, 3) := by decide +kernel
theorem d_X2_address_33 : decode b_X2_address 33 = .ok (.iconst 1, 1) := by decide +kernel
theorem d_X2_address_34 : decode b_X2_address 34 = .ok (.invokestatic 252, 3) := by decide +kernel
theorem d_X2_address_37 : decode b_X2_address 37 = .ok (.aload_n 0, 1) := by decide +kernel
theorem d_X2_address_38 : decode b_X2_address 38 = .ok (.getfield 46, 3) := by decide +kernel
theorem d_X2_address_41 : decode b_X2_address 41 = .ok (.bipush 14, 2) := by decide +kernel
theorem d_X2_address_43 : decode b_X2_address 43 = .ok (.aload_n 1, 1) := by decide +kernel
theorem d_X2_address_44 : decode b_X2_address 44 = .ok (.getfield 159, 3) := by decide +kernel
theorem d_X2_address_47 : decode b_X2_address 47 = .ok (.iconst 0, 1) := by decide +kernel
theorem d_X2_address_48 : decode b_X2_address 48 = .ok (.iconst 0, 1) := by decide +kernel
theorem d_X2_address_49 : decode b_X2_address 49 = .ok (.invokevirtual 155, 3) := by decide +kernel
theorem d_X2_address_52 : decode b_X2_address 52 = .ok (.pop, 1) := by decide +kernel
theorem d_X2_address_53 : decode b_X2_address 53 = .ok (.goto 22, 3) := by decide +kernel
theorem d_X2_address_56 : decode b_X2_address 56 = .ok (.iload_n 2, 1) := by decide +kernel
theorem d_X2_address_57 : decode b_X2_address 57 = .ok (.ifCond .eq 18, 3) := by decide +kernel
theorem d_X2_address_60 : decode b_X2_address 60 = .ok (.aload_n 0, 1) := by decide +kernel
theorem d_X2_address_61 : decode b_X2_address 61 = .ok (.getfield 46, 3) := by decide +kernel
theorem d_X2_address_64 : decode b_X2_address 64 = .ok (.iconst 4, 1) := by decide +kernel
theorem d_X2_address_65 : decode b_X2_address 65 = .ok (.aload_n 1, 1) := by decide +kernel
theorem d_X2_address_66 : decode b_X2_address 66 = .ok (.getfield 159, 3) := by decide +kernel
theorem d_X2_address_69 : decode b_X2_address 69 = .ok (.iconst 0, 1) := by decide +kernel
theorem d_X2_address_70 : decode b_X2_address 70 = .ok (.iconst 0, 1) := by decide +kernel
theorem d_X2_address_71 : decode b_X2_address 71 = .ok (.invokevirtual 155, 3) := by decide +kernel
theorem d_X2_address_74 : decode b_X2_address 74 = .ok (.pop, 1) := by decide +kernel
theorem d_X2_address_75 : decode b_X2_address 75 = .ok (.aload_n 1, 1) := by decide +kernel
theorem d_X2_address_76 : decode b_X2_address 76 = .ok (.aload_n 1, 1) := by decide +kernel
theorem d_X2_address_77 : decode b_X2_address 77 = .ok (.getfield 233, 3) := by decide +kernel
theorem d_X2_address_80 : decode b_X2_address 80 = .ok (.iconst 1, 1) := by decide +kernel
theorem d_X2_address_81 : decode b_X2_address 81 = .ok (.iadd, 1) := by decide +kernel
theorem d_X2_address_82 : decode b_X2_address 82 = .ok (.iload_n 2, 1) := by decide +kernel
theorem d_X2_address_83 : decode b_X2_address 83 = .ok (.ifCond .eq 7, 3) := by decide +kernel
theorem d_X2_address_86 : decode b_X2_address 86 = .ok (.iconst 2, 1) := by decide +kernel
theorem d_X2_address_87 : decode b_X2_address 87 = .ok (.goto 4, 3) := by decide +kernel
theorem d_X2_address_90 : decode b_X2_address 90 = .ok (.iconst 0, 1) := by decide +kernel
theorem d_X2_address_91 : decode b_X2_address 91 = .ok (.invokevirtual 199, 3) := by decide +kernel
theorem d_X2_address_94 : decode b_X2_address 94 = .ok (.aload_n 1, 1) := by decide +kernel
theorem d_X2_address_95 : decode b_X2_address 95 = .ok (.aload_n 1, 1) := by decide +kernel
theorem d_X2_address_96 : decode b_X2_address 96 = .ok (.getfield 159, 3) := by decide +kernel
theorem d_X2_address_99 : decode b_X2_address 99 = .ok (.putfield 202, 3) := by decide +kernel
theorem d_X2_address_102 : decode b_X2_address 102 = .ok (.aload_n 1, 1) := by decide +kernel
theorem d_X2_address_103 : decode b_X2_address 103 = .ok (.iconst 0, 1) := by decide +kernel
theorem d_X2_address_104 : decode b_X2_address 104 = .ok (.putfield 176, 3) := by decide +kernel
theorem d_X2_address_107 : decode b_X2_address 107 = .ok (.return_, 1) := by decide +kernel
theorem d_X2_argument_0 : decode b_X2_argument 0 = .ok (.aload_n 0, 1) := by decide +kernel
theorem d_X2_argument_1 : decode b_X2_argument 1 = .ok (.invokevirtual 259, 3) := by decide +kernel
theorem d_X2_argument_4 : decode b_X2_argument 4 = .ok (.astore_n 1, 1) := by decide +kernel
theorem d_X2_argument_5 : decode b_X2_argument 5 = .ok (.aload_n 0, 1) := by decide +kernel
theorem d_X2_argument_6 : decode b_X2_argument 6 = .ok (.invokevirtual 104, 3) := by decide +kernel
theorem d_X2_argument_9 : decode b_X2_argument 9 = .ok (.astore_n 2, 1) := by decide +kernel
theorem d_X2_argument_10 : decode b_X2_argument 10 = .ok (.aload_n 0, 1) := by decide +kernel
theorem d_X2_argument_11 : decode b_X2_argument 11 = .ok (.getfield 45, 3) := by decide +kernel
theorem d_X2_argument_14 : decode b_X2_argument 14 = .ok (.getfield 242, 3) := by decide +kernel
theorem d_X2_argument_17 : decode b_X2_argument 17 = .ok (.aload_n 2, 1) := by decide +kernel
theorem d_X2_argument_18 : decode b_X2_argument 18 = .ok (.getfield 159, 3) := by decide +kernel
theorem d_X2_argument_21 : decode b_X2_argument 21 = .ok (.invokestatic 56, 3) := by decide +kernel
theorem d_X2_argument_24 : decode b_X2_argument 24 = .ok (.istore_n 3, 1) := by decide +kernel
theorem d_X2_argument_25 : decode b_X2_argument 25 = .ok (.aload_n 2, 1) := by decide +kernel
theorem d_X2_argument_26 : decode b_X2_argument 26 = .ok (.getfield 262, 3) := by decide +kernel
theorem d_X2_argument_29 : decode b_X2_argument 29 = .ok (.istore 4, 2) := by decide +kernel
theorem d_X2_argument_31 : decode b_X2_argument 31 = .ok (.iload 4, 2) := by decide +kernel
theorem d_X2_argument_33 : decode b_X2_argument 33 = .ok (.iload_n 3, 1) := by decide +kernel
theorem d_X2_argument_34 : decode b_X2_argument 34 = .ok (.invokestatic 265, 3) := by decide +kernel
theorem d_X2_argument_37 : decode b_X2_argument 37 = .ok (.if_icmp .ge 16, 3) := by decide +kernel
theorem d_X2_argument_40 : decode b_X2_argument 40 = .ok (.aload_n 1, 1) := by decide +kernel
theorem d_X2_argument_41 : decode b_X2_argument 41 = .ok (.iload_n 3, 1) := by decide +kernel
theorem d_X2_argument_42 : decode b_X2_argument 42 = .ok (.iload 4, 2) := by decide +kernel
theorem d_X2_argument_44 : decode b_X2_argument 44 = .ok (.invokestatic 268, 3) := by decide +kernel
theorem d_X2_argument_47 : decode b_X2_argument 47 = .ok (.invokevirtual 271, 3) := by decide +kernel
theorem d_X2_argument_50 : decode b_X2_argument 50 = .ok (.ifCond .ne 8, 3) := by decide +kernel
theorem d_X2_argument_53 : decode b_X2_argument 53 = .ok (.aload_n 2, 1) := by decide +kernel
theorem d_X2_argument_54 : decode b_X2_argument 54 = .ok (.iconst 1, 1) := by decide +kernel
theorem d_X2_argument_55 : decode b_X2_argument 55 = .ok (.putfield 275, 3) := by decide +kernel
theorem d_X2_argument_58 : decode b_X2_argument 58 = .ok (.aload_n 2, 1) := by decide +kernel
theorem d_X2_argument_59 : decode b_X2_argument 59 = .ok (.dup, 1) := by decide +kernel
theorem d_X2_argument_60 : decode b_X2_argument 60 = .ok (.getfield 262, 3) := by decide +kernel
theorem d_X2_argument_63 : decode b_X2_argument 63 = .ok (.iconst 1, 1) := by decide +kernel
theorem d_X2_argument_64 : decode b_X2_argument 64 = .ok (.iadd, 1) := by decide +kernel
theorem d_X2_argument_65 : decode b_X2_argument 65 = .ok (.putfield 262, 3) := by decide +kernel
theorem d_X2_argument_68 : decode b_X2_argument 68 = .ok (.aload_n 2, 1) := by decide +kernel
theorem d_X2_argument_69 : decode b_X2_argument 69 = .ok (.aload_n 2, 1) := by decide +kernel
theorem d_X2_argument_70 : decode b_X2_argument 70 = .ok (.getfield 161, 3) := by decide +kernel
theorem d_X2_argument_73 : decode b_X2_argument 73 = .ok (.aload_n 1, 1) := by decide +kernel
theorem d_X2_argument_74 : decode b_X2_argument 74 = .ok (.getfield 161, 3) := by decide +kernel
theorem d_X2_argument_77 : decode b_X2_argument 77 = .ok (.invokestatic 222, 3) := by decide +kernel
theorem d_X2_argument_80 : decode b_X2_argument 80 = .ok (.putfield 161, 3) := by decide +kernel
theorem d_X2_argument_83 : decode b_X2_argument 83 = .ok (.return_, 1) := by decide +kernel
theorem d_X2_assign_0 : decode b_X2_assign 0 = .ok (.aload_n 0, 1) := by decide +kernel
theorem d_X2_assign_1 : decode b_X2_assign 1 = .ok (.iload_n 1, 1) := by decide +kernel
theorem d_X2_assign_2 : decode b_X2_assign 2 = .ok (.invokevirtual 285, 3) := by decide +kernel
theorem d_X2_assign_5 : decode b_X2_assign 5 = .ok (.istore_n 2, 1) := by decide +kernel
theorem d_X2_assign_6 : decode b_X2_assign 6 = .ok (.aload_n 0, 1) := by decide +kernel
theorem d_X2_assign_7 : decode b_X2_assign 7 = .ok (.invokevirtual 259, 3) := by decide +kernel
theorem d_X2_assign_10 : decode b_X2_assign 10 = .ok (.astore_n 3, 1) := by decide +kernel
theorem d_X2_assign_11 : decode b_X2_assign 11 = .ok (.aload_n 0, 1) := by decide +kernel
theorem d_X2_assign_12 : decode b_X2_assign 12 = .ok (.invokevirtual 104, 3) := by decide +kernel
theorem d_X2_assign_15 : decode b_X2_assign 15 = .ok (.astore 4, 2) := by decide +kernel
theorem d_X2_assign_17 : decode b_X2_assign 17 = .ok (.iload_n 2, 1) := by decide +kernel
theorem d_X2_assign_18 : decode b_X2_assign 18 = .ok (.bipush 33, 2) := by decide +kernel
theorem d_X2_assign_20 : decode b_X2_assign 20 = .ok (.if_icmp .eq 9, 3) := by decide +kernel
theorem d_X2_assign_23 : decode b_X2_assign 23 = .ok (.iload_n 2, 1) := by decide +kernel
theorem d_X2_assign_24 : decode b_X2_assign 24 = .ok (.bipush 34, 2) := by decide +kernel
theorem d_X2_assign_26 : decode b_X2_assign 26 = .ok (.if_icmp .ne 7, 3) := by decide +kernel
theorem d_X2_assign_29 : decode b_X2_assign 29 = .ok (.iconst 1, 1) := by decide +kernel
theorem d_X2_assign_30 : decode b_X2_assign 30 = .ok (.goto 4, 3) := by decide +kernel
theorem d_X2_assign_33 : decode b_X2_assign 33 = .ok (.iconst 0, 1) := by decide +kernel
theorem d_X2_assign_34 : decode b_X2_assign 34 = .ok (.istore 5, 2) := by decide +kernel
theorem d_X2_assign_36 : decode b_X2_assign 36 = .ok (.iload_n 2, 1) := by decide +kernel
theorem d_X2_assign_37 : decode b_X2_assign 37 = .ok (.bipush 30, 2) := by decide +kernel
theorem d_X2_assign_39 : decode b_X2_assign 39 = .ok (.if_icmp .ne 15, 3) := by decide +kernel
theorem d_X2_assign_42 : decode b_X2_assign 42 = .ok (.aload_n 3, 1) := by decide +kernel
theorem d_X2_assign_43 : decode b_X2_assign 43 = .ok (.aload 4, 2) := by decide +kernel
theorem d_X2_assign_45 : decode b_X2_assign 45 = .ok (.getfield 233, 3) := by decide +kernel
theorem d_X2_assign_48 : decode b_X2_assign 48 = .ok (.invokevirtual 271, 3) := by decide +kernel
theorem d_X2_assign_51 : decode b_X2_assign 51 = .ok (.goto 28, 3) := by decide +kernel
theorem d_X2_assign_54 : decode b_X2_assign 54 = .ok (.aload_n 3, 1) := by decide +kernel
theorem d_X2_assign_55 : decode b_X2_assign 55 = .ok (.getfield 233, 3) := by decide +kernel
theorem d_X2_assign_58 : decode b_X2_assign 58 = .ok (.ifCond .ne 20, 3) := by decide +kernel
theorem d_X2_assign_61 : decode b_X2_assign 61 = .ok (.iload 5, 2) := by decide +kernel
theorem d_X2_assign_63 : decode b_X2_assign 63 = .ok (.ifCond .ne 11, 3) := by decide +kernel
theorem d_X2_assign_66 : decode b_X2_assign 66 = .ok (.aload 4, 2) := by decide +kernel
theorem d_X2_assign_68 : decode b_X2_assign 68 = .ok (.getfield 233, 3) := by decide +kernel
theorem d_X2_assign_71 : decode b_X2_assign 71 = .ok (.ifCond .ne 7, 3) := by decide +kernel
theorem d_X2_assign_74 : decode b_X2_assign 74 = .ok (.iconst 1, 1) := by decide +kernel
theorem d_X2_assign_75 : decode b_X2_assign 75 = .ok (.goto 4, 3) := by decide +kernel
theorem d_X2_assign_78 : decode b_X2_assign 78 = .ok (.iconst 0, 1) := by decide +kernel
theorem d_X2_assign_79 : decode b_X2_assign 79 = .ok (.istore 6, 2) := by decide +kernel
theorem d_X2_assign_81 : decode b_X2_assign 81 = .ok (.aload 4, 2) := by decide +kernel
theorem d_X2_assign_83 : decode b_X2_assign 83 = .ok (.invokevirtual 145, 3) := by decide +kernel
theorem d_X2_assign_86 : decode b_X2_assign 86 = .ok (.ifCond .eq 8, 3) := by decide +kernel
theorem d_X2_assign_89 : decode b_X2_assign 89 = .ok (.iload 6, 2) := by decide +kernel
theorem d_X2_assign_91 : decode b_X2_assign 91 = .ok (.ifCond .ne 8, 3) := by decide +kernel
theorem d_X2_assign_94 : decode b_X2_assign 94 = .ok (.aload_n 0, 1) := by decide +kernel
theorem d_X2_assign_95 : decode b_X2_assign 95 = .ok (.iload_n 1, 1) := by decide +kernel
theorem d_X2_assign_96 : decode b_X2_assign 96 = .ok (.invokevirtual 219, 3) := by decide +kernel
theorem d_X2_assign_99 : decode b_X2_assign 99 = .ok (.iload_n 2, 1) := by decide +kernel
theorem d_X2_assign_100 : decode b_X2_assign 100 = .ok (.bipush 30, 2) := by decide +kernel
theorem d_X2_assign_102 : decode b_X2_assign 102 = .ok (.if_icmp .eq 17, 3) := by decide +kernel
theorem d_X2_assign_105 : decode b_X2_assign 105 = .ok (.aload_n 0, 1) := by decide +kernel
theorem d_X2_assign_106 : decode b_X2_assign 106 = .ok (.iload_n 2, 1) := by decide +kernel
theorem d_X2_assign_107 : decode b_X2_assign 107 = .ok (.bipush 10, 2) := by decide +kernel
theorem d_X2_assign_109 : decode b_X2_assign 109 = .ok (.iadd, 1) := by decide +kernel
theorem d_X2_assign_110 : decode b_X2_assign 110 = .ok (.iconst 0, 1) := by decide +kernel
theorem d_X2_assign_111 : decode b_X2_assign 111 = .ok (.aload_n 0, 1) := by decide +kernel
theorem d_X2_assign_112 : decode b_X2_assign 112 = .ok (.iload_n 1, 1) := by decide +kernel
theorem d_X2_assign_113 : decode b_X2_assign 113 = .ok (.invokevirtual 278, 3) := by decide +kernel
theorem d_X2_assign_116 : decode b_X2_assign 116 = .ok (.invokevirtual 299, 3) := by decide +kernel
theorem d_X2_assign_119 : decode b_X2_assign 119 = .ok (.aload 4, 2) := by decide +kernel
theorem d_X2_assign_121 : decode b_X2_assign 121 = .ok (.getfield 149, 3) := by decide +kernel
theorem d_X2_assign_124 : decode b_X2_assign 124 = .ok (.iconst 3, 1) := by decide +kernel
theorem d_X2_assign_125 : decode b_X2_assign 125 = .ok (.if_icmp .ne 23, 3) := by decide +kernel
theorem d_X2_assign_128 : decode b_X2_assign 128 = .ok (.aload_n 0, 1) := by decide +kernel
theorem d_X2_assign_129 : decode b_X2_assign 129 = .ok (.getfield 46, 3) := by decide +kernel
theorem d_X2_assign_132 : decode b_X2_assign 132 = .ok (.bipush 19, 2) := by decide +kernel
theorem d_X2_assign_134 : decode b_X2_assign 134 = .ok (.aload_n 0, 1) := by decide +kernel
theorem d_X2_assign_135 : decode b_X2_assign 135 = .ok (.iload_n 1, 1) := by decide +kernel
theorem d_X2_assign_136 : decode b_X2_assign 136 = .ok (.invokevirtual 278, 3) := by decide +kernel
theorem d_X2_assign_139 : decode b_X2_assign 139 = .ok (.iconst 0, 1) := by decide +kernel
theorem d_X2_assign_140 : decode b_X2_assign 140 = .ok (.iconst 0, 1) := by decide +kernel
theorem d_X2_assign_141 : decode b_X2_assign 141 = .ok (.invokevirtual 155, 3) := by decide +kernel
theorem d_X2_assign_144 : decode b_X2_assign 144 = .ok (.pop, 1) := by decide +kernel
theorem d_X2_assign_145 : decode b_X2_assign 145 = .ok (.goto 34, 3) := by decide +kernel
theorem d_X2_assign_148 : decode b_X2_assign 148 = .ok (.aload_n 0, 1) := by decide +kernel
theorem d_X2_assign_149 : decode b_X2_assign 149 = .ok (.getfield 46, 3) := by decide +kernel
theorem d_X2_assign_152 : decode b_X2_assign 152 = .ok (.aload 4, 2) := by decide +kernel
theorem d_X2_assign_154 : decode b_X2_assign 154 = .ok (.getfield 149, 3) := by decide +kernel
theorem d_X2_assign_157 : decode b_X2_assign 157 = .ok (.iconst 1, 1) := by decide +kernel
theorem d_X2_assign_158 : decode b_X2_assign 158 = .ok (.if_icmp .ne 8, 3) := by decide +kernel
theorem d_X2_assign_161 : decode b_X2_assign 161 = .ok (.bipush 9, 2) := by decide +kernel
theorem d_X2_assign_163 : decode b_X2_assign 163 = .ok (.goto 5, 3) := by decide +kernel
theorem d_X2_assign_166 : decode b_X2_assign 166 = .ok (.bipush 6, 2) := by decide +kernel
theorem d_X2_assign_168 : decode b_X2_assign 168 = .ok (.aload 4, 2) := by decide +kernel
theorem d_X2_assign_170 : decode b_X2_assign 170 = .ok (.getfield 159, 3) := by decide +kernel
theorem d_X2_assign_173 : decode b_X2_assign 173 = .ok (.iconst 0, 1) := by decide +kernel
theorem d_X2_assign_174 : decode b_X2_assign 174 = .ok (.iconst 0, 1) := by decide +kernel
theorem d_X2_assign_175 : decode b_X2_assign 175 = .ok (.invokevirtual 155, 3) := by decide +kernel
theorem d_X2_assign_178 : decode b_X2_assign 178 = .ok (.pop, 1) := by decide +kernel
theorem d_X2_assign_179 : decode b_X2_assign 179 = .ok (.aload 4, 2) := by decide +kernel
theorem d_X2_assign_181 : decode b_X2_assign 181 = .ok (.aload 4, 2) := by decide +kernel
theorem d_X2_assign_183 : decode b_X2_assign 183 = .ok (.getfield 233, 3) := by decide +kernel
theorem d_X2_assign_186 : decode b_X2_assign 186 = .ok (.iconst 0, 1) := by decide +kernel
theorem d_X2_assign_187 : decode b_X2_assign 187 = .ok (.invokevirtual 199, 3) := by decide +kernel
theorem d_X2_assign_190 : decode b_X2_assign 190 = .ok (.aload_n 0, 1) := by decide +kernel
theorem d_X2_assign_191 : decode b_X2_assign 191 = .ok (.aload 4, 2) := by decide +kernel
theorem d_X2_assign_193 : decode b_X2_assign 193 = .ok (.iconst 1, 1) := by decide +kernel
theorem d_X2_assign_194 : decode b_X2_assign 194 = .ok (.aload 4, 2) := by decide +kernel
theorem d_X2_assign_196 : decode b_X2_assign 196 = .ok (.getfield 161, 3) := by decide +kernel
theorem d_X2_assign_199 : decode b_X2_assign 199 = .ok (.aload_n 3, 1) := by decide +kernel
theorem d_X2_assign_200 : decode b_X2_assign 200 = .ok (.getfield 161, 3) := by decide +kernel
theorem d_X2_assign_203 : decode b_X2_assign 203 = .ok (.invokestatic 222, 3) := by decide +kernel
theorem d_X2_assign_206 : decode b_X2_assign 206 = .ok (.iadd, 1) := by decide +kernel
theorem d_X2_assign_207 : decode b_X2_assign 207 = .ok (.iload_n 1, 1) := by decide +kernel
theorem d_X2_assign_208 : decode b_X2_assign 208 = .ok (.invokevirtual 281, 3) := by decide +kernel
theorem d_X2_assign_211 : decode b_X2_assign 211 = .ok (.return_, 1) := by decide +kernel
theorem d_X2_binary_0 : decode b_X2_binary 0 = .ok (.aload_n 0, 1) := by decide +kernel
theorem d_X2_binary_1 : decode b_X2_binary 1 = .ok (.iload_n 1, 1) := by decide +kernel
theorem d_X2_binary_2 : decode b_X2_binary 2 = .ok (.invokevirtual 285, 3) := by decide +kernel
theorem d_X2_binary_5 : decode b_X2_binary 5 = .ok (.istore_n 2, 1) := by decide +kernel
theorem d_X2_binary_6 : decode b_X2_binary 6 = .ok (.aload_n 0, 1) := by decide +kernel
theorem d_X2_binary_7 : decode b_X2_binary 7 = .ok (.invokevirtual 259, 3) := by decide +kernel
theorem d_X2_binary_10 : decode b_X2_binary 10 = .ok (.astore_n 3, 1) := by decide +kernel
theorem d_X2_binary_11 : decode b_X2_binary 11 = .ok (.aload_n 0, 1) := by decide +kernel
theorem d_X2_binary_12 : decode b_X2_binary 12 = .ok (.invokevirtual 104, 3) := by decide +kernel
theorem d_X2_binary_15 : decode b_X2_binary 15 = .ok (.astore 4, 2) := by decide +kernel
theorem d_X2_binary_17 : decode b_X2_binary 17 = .ok (.iload_n 2, 1) := by decide +kernel
theorem d_X2_binary_18 : decode b_X2_binary 18 = .ok (.aload 4, 2) := by decide +kernel
theorem d_X2_binary_20 : decode b_X2_binary 20 = .ok (.aload_n 3, 1) := by decide +kernel
theorem d_X2_binary_21 : decode b_X2_binary 21 = .ok (.invokestatic 292, 3) := by decide +kernel
theorem d_X2_binary_24 : decode b_X2_binary 24 = .ok (.istore 5, 2) := by decide +kernel
theorem d_X2_binary_26 : decode b_X2_binary 26 = .ok (.iload 5, 2) := by decide +kernel
theorem d_X2_binary_28 : decode b_X2_binary 28 = .ok (.bipush (-2), 2) := by decide +kernel
theorem d_X2_binary_30 : decode b_X2_binary 30 = .ok (.if_icmp .ne 8, 3) := by decide +kernel
theorem d_X2_binary_33 : decode b_X2_binary 33 = .ok (.aload_n 0, 1) := by decide +kernel
theorem d_X2_binary_34 : decode b_X2_binary 34 = .ok (.iload_n 1, 1) := by decide +kernel
theorem d_X2_binary_35 : decode b_X2_binary 35 = .ok (.invokevirtual 219, 3) := by decide +kernel
theorem d_X2_binary_38 : decode b_X2_binary 38 = .ok (.iload_n 2, 1) := by decide +kernel
theorem d_X2_binary_39 : decode b_X2_binary 39 = .ok (.bipush 58, 2) := by decide +kernel
theorem d_X2_binary_41 : decode b_X2_binary 41 = .ok (.if_icmp .eq 9, 3) := by decide +kernel
theorem d_X2_binary_44 : decode b_X2_binary 44 = .ok (.iload_n 2, 1) := by decide +kernel
theorem d_X2_binary_45 : decode b_X2_binary 45 = .ok (.bipush 57, 2) := by decide +kernel
theorem d_X2_binary_47 : decode b_X2_binary 47 = .ok (.if_icmp .ne 38, 3) := by decide +kernel
theorem d_X2_binary_50 : decode b_X2_binary 50 = .ok (.aload_n 0, 1) := by decide +kernel
theorem d_X2_binary_51 : decode b_X2_binary 51 = .ok (.getfield 46, 3) := by decide +kernel
theorem d_X2_binary_54 : decode b_X2_binary 54 = .ok (.bipush 25, 2) := by decide +kernel
theorem d_X2_binary_56 : decode b_X2_binary 56 = .ok (.iconst 0, 1) := by decide +kernel
theorem d_X2_binary_57 : decode b_X2_binary 57 = .ok (.iconst 0, 1) := by decide +kernel
theorem d_X2_binary_58 : decode b_X2_binary 58 = .ok (.iconst 0, 1) := by decide +kernel
theorem d_X2_binary_59 : decode b_X2_binary 59 = .ok (.invokevirtual 155, 3) := by decide +kernel
theorem d_X2_binary_62 : decode b_X2_binary 62 = .ok (.pop, 1) := by decide +kernel
theorem d_X2_binary_63 : decode b_X2_binary 63 = .ok (.aload_n 0, 1) := by decide +kernel
theorem d_X2_binary_64 : decode b_X2_binary 64 = .ok (.getfield 46, 3) := by decide +kernel
theorem d_X2_binary_67 : decode b_X2_binary 67 = .ok (.aload 4, 2) := by decide +kernel
theorem d_X2_binary_69 : decode b_X2_binary 69 = .ok (.getfield 120, 3) := by decide +kernel
theorem d_X2_binary_72 : decode b_X2_binary 72 = .ok (.aload_n 0, 1) := by decide +kernel
theorem d_X2_binary_73 : decode b_X2_binary 73 = .ok (.getfield 46, 3) := by decide +kernel
theorem d_X2_binary_76 : decode b_X2_binary 76 = .ok (.getfield 137, 3) := by decide +kernel
theorem d_X2_binary_79 : decode b_X2_binary 79 = .ok (.invokevirtual 296, 3) := by decide +kernel
theorem d_X2_binary_82 : decode b_X2_binary 82 = .ok (.goto 26, 3) := by decide +kernel
theorem d_X2_binary_85 : decode b_X2_binary 85 = .ok (.aload_n 0, 1) := by decide +kernel
theorem d_X2_binary_86 : decode b_X2_binary 86 = .ok (.iload_n 2, 1) := by decide +kernel
theorem d_X2_binary_87 : decode b_X2_binary 87 = .ok (.aload 4, 2) := by decide +kernel
theorem d_X2_binary_89 : decode b_X2_binary 89 = .ok (.getfield 233, 3) := by decide +kernel
theorem d_X2_binary_92 : decode b_X2_binary 92 = .ok (.ifCond .le 7, 3) := by decide +kernel
theorem d_X2_binary_95 : decode b_X2_binary 95 = .ok (.iconst 1, 1) := by decide +kernel
theorem d_X2_binary_96 : decode b_X2_binary 96 = .ok (.goto 4, 3) := by decide +kernel
theorem d_X2_binary_99 : decode b_X2_binary 99 = .ok (.iconst 0, 1) := by decide +kernel
theorem d_X2_binary_100 : decode b_X2_binary 100 = .ok (.aload_n 0, 1) := by decide +kernel
theorem d_X2_binary_101 : decode b_X2_binary 101 = .ok (.iload_n 1, 1) := by decide +kernel
theorem d_X2_binary_102 : decode b_X2_binary 102 = .ok (.invokevirtual 278, 3) := by decide +kernel
theorem d_X2_binary_105 : decode b_X2_binary 105 = .ok (.invokevirtual 299, 3) := by decide +kernel
theorem d_X2_binary_108 : decode b_X2_binary 108 = .ok (.iload_n 2, 1) := by decide +kernel
theorem d_X2_binary_109 : decode b_X2_binary 109 = .ok (.aload 4, 2) := by decide +kernel
theorem d_X2_binary_111 : decode b_X2_binary 111 = .ok (.aload_n 3, 1) := by decide +kernel
theorem d_X2_binary_112 : decode b_X2_binary 112 = .ok (.invokestatic 303, 3) := by decide +kernel
theorem d_X2_binary_115 : decode b_X2_binary 115 = .ok (.aload 4, 2) := by decide +kernel
theorem d_X2_binary_117 : decode b_X2_binary 117 = .ok (.iload 5, 2) := by decide +kernel
theorem d_X2_binary_119 : decode b_X2_binary 119 = .ok (.aload 4, 2) := by decide +kernel
theorem d_X2_binary_121 : decode b_X2_binary 121 = .ok (.getfield 170, 3) := by decide +kernel
theorem d_X2_binary_124 : decode b_X2_binary 124 = .ok (.invokevirtual 199, 3) := by decide +kernel
theorem d_X2_binary_127 : decode b_X2_binary 127 = .ok (.aload_n 0, 1) := by decide +kernel
theorem d_X2_binary_128 : decode b_X2_binary 128 = .ok (.aload 4, 2) := by decide +kernel
theorem d_X2_binary_130 : decode b_X2_binary 130 = .ok (.invokevirtual 307, 3) := by decide +kernel
theorem d_X2_binary_133 : decode b_X2_binary 133 = .ok (.aload_n 0, 1) := by decide +kernel
theorem d_X2_binary_134 : decode b_X2_binary 134 = .ok (.aload 4, 2) := by decide +kernel
theorem d_X2_binary_136 : decode b_X2_binary 136 = .ok (.iconst 1, 1) := by decide +kernel
theorem d_X2_binary_137 : decode b_X2_binary 137 = .ok (.aload 4, 2) := by decide +kernel
theorem d_X2_binary_139 : decode b_X2_binary 139 = .ok (.getfield 161, 3) := by decide +kernel
theorem d_X2_binary_142 : decode b_X2_binary 142 = .ok (.aload_n 3, 1) := by decide +kernel
theorem d_X2_binary_143 : decode b_X2_binary 143 = .ok (.getfield 161, 3) := by decide +kernel
theorem d_X2_binary_146 : decode b_X2_binary 146 = .ok (.invokestatic 222, 3) := by decide +kernel
theorem d_X2_binary_149 : decode b_X2_binary 149 = .ok (.iadd, 1) := by decide +kernel
theorem d_X2_binary_150 : decode b_X2_binary 150 = .ok (.iload_n 1, 1) := by decide +kernel
theorem d_X2_binary_151 : decode b_X2_binary 151 = .ok (.invokevirtual 281, 3) := by decide +kernel
theorem d_X2_binary_154 : decode b_X2_binary 154 = .ok (.return_, 1) := by decide +kernel
theorem d_X2_call_0 : decode b_X2_call 0 = .ok (.aload_n 0, 1) := by decide +kernel
theorem d_X2_call_1 : decode b_X2_call 1 = .ok (.invokevirtual 104, 3) := by decide +kernel
theorem d_X2_call_4 : decode b_X2_call 4 = .ok (.astore_n 2, 1) := by decide +kernel
theorem d_X2_call_5 : decode b_X2_call 5 = .ok (.aload_n 2, 1) := by decide +kernel
theorem d_X2_call_6 : decode b_X2_call 6 = .ok (.getfield 275, 3) := by decide +kernel
theorem d_X2_call_9 : decode b_X2_call 9 = .ok (.ifCond .ne 27, 3) := by decide +kernel
theorem d_X2_call_12 : decode b_X2_call 12 = .ok (.aload_n 2, 1) := by decide +kernel
theorem d_X2_call_13 : decode b_X2_call 13 = .ok (.getfield 262, 3) := by decide +kernel
theorem d_X2_call_16 : decode b_X2_call 16 = .ok (.aload_n 0, 1) := by decide +kernel
theorem d_X2_call_17 : decode b_X2_call 17 = .ok (.getfield 45, 3) := by decide +kernel
theorem d_X2_call_20 : decode b_X2_call 20 = .ok (.getfield 242, 3) := by decide +kernel
theorem d_X2_call_23 : decode b_X2_call 23 = .ok (.aload_n 2, 1) := by decide +kernel
theorem d_X2_call_24 : decode b_X2_call 24 = .ok (.getfield 159, 3) := by decide +kernel
theorem d_X2_call_27 : decode b_X2_call 27 = .ok (.invokestatic 56, 3) := by decide +kernel
theorem d_X2_call_30 : decode b_X2_call 30 = .ok (.invokestatic 265, 3) := by decide +kernel
theorem d_X2_call_33 : decode b_X2_call 33 = .ok (.if_icmp .eq 8, 3) := by decide +kernel
theorem d_X2_call_36 : decode b_X2_call 36 = .ok (.aload_n 0, 1) := by decide +kernel
theorem d_X2_call_37 : decode b_X2_call 37 = .ok (.iload_n 1, 1) := by decide +kernel
theorem d_X2_call_38 : decode b_X2_call 38 = .ok (.invokevirtual 219, 3) := by decide +kernel
theorem d_X2_call_41 : decode b_X2_call 41 = .ok (.aload_n 0, 1) := by decide +kernel
theorem d_X2_call_42 : decode b_X2_call 42 = .ok (.getfield 46, 3) := by decide +kernel
theorem d_X2_call_45 : decode b_X2_call 45 = .ok (.bipush 32, 2) := by decide +kernel
theorem d_X2_call_47 : decode b_X2_call 47 = .ok (.aload_n 2, 1) := by decide +kernel
theorem d_X2_call_48 : decode b_X2_call 48 = .ok (.getfield 159, 3) := by decide +kernel
theorem d_X2_call_51 : decode b_X2_call 51 = .ok (.aload_n 0, 1) := by decide +kernel
theorem d_X2_call_52 : decode b_X2_call 52 = .ok (.iload_n 1, 1) := by decide +kernel
theorem d_X2_call_53 : decode b_X2_call 53 = .ok (.invokevirtual 278, 3) := by decide +kernel
theorem d_X2_call_56 : decode b_X2_call 56 = .ok (.iconst 0, 1) := by decide +kernel
theorem d_X2_call_57 : decode b_X2_call 57 = .ok (.invokevirtual 155, 3) := by decide +kernel
theorem d_X2_call_60 : decode b_X2_call 60 = .ok (.pop, 1) := by decide +kernel
theorem d_X2_call_61 : decode b_X2_call 61 = .ok (.aload_n 2, 1) := by decide +kernel
theorem d_X2_call_62 : decode b_X2_call 62 = .ok (.aload_n 2, 1) := by decide +kernel
theorem d_X2_call_63 : decode b_X2_call 63 = .ok (.getfield 233, 3) := by decide +kernel
theorem d_X2_call_66 : decode b_X2_call 66 = .ok (.iconst 0, 1) := by decide +kernel
theorem d_X2_call_67 : decode b_X2_call 67 = .ok (.invokevirtual 199, 3) := by decide +kernel
theorem d_X2_call_70 : decode b_X2_call 70 = .ok (.aload_n 0, 1) := by decide +kernel
theorem d_X2_call_71 : decode b_X2_call 71 = .ok (.aload_n 2, 1) := by decide +kernel
theorem d_X2_call_72 : decode b_X2_call 72 = .ok (.aload_n 2, 1) := by decide +kernel
theorem d_X2_call_73 : decode b_X2_call 73 = .ok (.getfield 161, 3) := by decide +kernel
theorem d_X2_call_76 : decode b_X2_call 76 = .ok (.iconst 1, 1) := by decide +kernel
theorem d_X2_call_77 : decode b_X2_call 77 = .ok (.iadd, 1) := by decide +kernel
theorem d_X2_call_78 : decode b_X2_call 78 = .ok (.iload_n 1, 1) := by decide +kernel
theorem d_X2_call_79 : decode b_X2_call 79 = .ok (.invokevirtual 281, 3) := by decide +kernel
theorem d_X2_call_82 : decode b_X2_call 82 = .ok (.return_, 1) := by decide +kernel
theorem d_X2_callee_0 : decode b_X2_callee 0 = .ok (.aload_n 0, 1) := by decide +kernel
theorem d_X2_callee_1 : decode b_X2_callee 1 = .ok (.getfield 37, 3) := by decide +kernel
theorem d_X2_callee_4 : decode b_X2_callee 4 = .ok (.iconst 0, 1) := by decide +kernel
theorem d_X2_callee_5 : decode b_X2_callee 5 = .ok (.iload_n 1, 1) := by decide +kernel
theorem d_X2_callee_6 : decode b_X2_callee 6 = .ok (.invokevirtual 208, 3) := by decide +kernel
theorem d_X2_callee_9 : decode b_X2_callee 9 = .ok (.ifCond .ge 14, 3) := by decide +kernel
theorem d_X2_callee_12 : decode b_X2_callee 12 = .ok (.aload_n 0, 1) := by decide +kernel
theorem d_X2_callee_13 : decode b_X2_callee 13 = .ok (.getfield 37, 3) := by decide +kernel
theorem d_X2_callee_16 : decode b_X2_callee 16 = .ok (.iload_n 1, 1) := by decide +kernel
theorem d_X2_callee_17 : decode b_X2_callee 17 = .ok (.invokevirtual 212, 3) := by decide +kernel
theorem d_X2_callee_20 : decode b_X2_callee 20 = .ok (.goto 4, 3) := by decide +kernel
theorem d_X2_callee_23 : decode b_X2_callee 23 = .ok (.iconst (-1), 1) := by decide +kernel
theorem d_X2_callee_24 : decode b_X2_callee 24 = .ok (.istore_n 2, 1) := by decide +kernel
theorem d_X2_callee_25 : decode b_X2_callee 25 = .ok (.iload_n 2, 1) := by decide +kernel
theorem d_X2_callee_26 : decode b_X2_callee 26 = .ok (.ifCond .lt 15, 3) := by decide +kernel
theorem d_X2_callee_29 : decode b_X2_callee 29 = .ok (.aload_n 0, 1) := by decide +kernel
theorem d_X2_callee_30 : decode b_X2_callee 30 = .ok (.getfield 45, 3) := by decide +kernel
theorem d_X2_callee_33 : decode b_X2_callee 33 = .ok (.iload_n 2, 1) := by decide +kernel
theorem d_X2_callee_34 : decode b_X2_callee 34 = .ok (.iconst 1, 1) := by decide +kernel
theorem d_X2_callee_35 : decode b_X2_callee 35 = .ok (.invokevirtual 215, 3) := by decide +kernel
theorem d_X2_callee_38 : decode b_X2_callee 38 = .ok (.ifCond .ne 9, 3) := by decide +kernel
theorem d_X2_callee_41 : decode b_X2_callee 41 = .ok (.aload_n 0, 1) := by decide +kernel
theorem d_X2_callee_42 : decode b_X2_callee 42 = .ok (.iload_n 1, 1) := by decide +kernel
theorem d_X2_callee_43 : decode b_X2_callee 43 = .ok (.invokevirtual 219, 3) := by decide +kernel
theorem d_X2_callee_46 : decode b_X2_callee 46 = .ok (.return_, 1) := by decide +kernel
theorem d_X2_callee_47 : decode b_X2_callee 47 = .ok (.aload_n 0, 1) := by decide +kernel
theorem d_X2_callee_48 : decode b_X2_callee 48 = .ok (.getfield 37, 3) := by decide +kernel
theorem d_X2_callee_51 : decode b_X2_callee 51 = .ok (.iload_n 2, 1) := by decide +kernel
theorem d_X2_callee_52 : decode b_X2_callee 52 = .ok (.iload_n 1, 1) := by decide +kernel
theorem d_X2_callee_53 : decode b_X2_callee 53 = .ok (.invokevirtual 256, 3) := by decide +kernel
theorem d_X2_callee_56 : decode b_X2_callee 56 = .ok (.aload_n 0, 1) := by decide +kernel
theorem d_X2_callee_57 : decode b_X2_callee 57 = .ok (.invokevirtual 167, 3) := by decide +kernel
theorem d_X2_callee_60 : decode b_X2_callee 60 = .ok (.astore_n 3, 1) := by decide +kernel
theorem d_X2_callee_61 : decode b_X2_callee 61 = .ok (.aload_n 3, 1) := by decide +kernel
theorem d_X2_callee_62 : decode b_X2_callee 62 = .ok (.iconst 4, 1) := by decide +kernel
theorem d_X2_callee_63 : decode b_X2_callee 63 = .ok (.putfield 149, 3) := by decide +kernel
theorem d_X2_callee_66 : decode b_X2_callee 66 = .ok (.aload_n 3, 1) := by decide +kernel
theorem d_X2_callee_67 : decode b_X2_callee 67 = .ok (.iload_n 2, 1) := by decide +kernel
theorem d_X2_callee_68 : decode b_X2_callee 68 = .ok (.putfield 159, 3) := by decide +kernel
theorem d_X2_callee_71 : decode b_X2_callee 71 = .ok (.aload_n 3, 1) := by decide +kernel
theorem d_X2_callee_72 : decode b_X2_callee 72 = .ok (.aload_n 0, 1) := by decide +kernel
theorem d_X2_callee_73 : decode b_X2_callee 73 = .ok (.getfield 45, 3) := by decide +kernel
theorem d_X2_callee_76 : decode b_X2_callee 76 = .ok (.getfield 230, 3) := by decide +kernel
theorem d_X2_callee_79 : decode b_X2_callee 79 = .ok (.iload_n 2, 1) := by decide +kernel
theorem d_X2_callee_80 : decode b_X2_callee 80 = .ok (.invokestatic 56, 3) := by decide +kernel
theorem d_X2_callee_83 : decode b_X2_callee 83 = .ok (.putfield 233, 3) := by decide +kernel
theorem d_X2_callee_86 : decode b_X2_callee 86 = .ok (.aload_n 3, 1) := by decide +kernel
theorem d_X2_callee_87 : decode b_X2_callee 87 = .ok (.iconst 0, 1) := by decide +kernel
theorem d_X2_callee_88 : decode b_X2_callee 88 = .ok (.putfield 161, 3) := by decide +kernel
theorem d_X2_callee_91 : decode b_X2_callee 91 = .ok (.return_, 1) := by decide +kernel
theorem d_X2_cast_0 : decode b_X2_cast 0 = .ok (.aload_n 0, 1) := by decide +kernel
theorem d_X2_cast_1 : decode b_X2_cast 1 = .ok (.aload_n 0, 1) := by decide +kernel
theorem d_X2_cast_2 : decode b_X2_cast 2 = .ok (.invokevirtual 104, 3) := by decide +kernel
theorem d_X2_cast_5 : decode b_X2_cast 5 = .ok (.invokevirtual 112, 3) := by decide +kernel
theorem d_X2_cast_8 : decode b_X2_cast 8 = .ok (.astore_n 3, 1) := by decide +kernel
theorem d_X2_cast_9 : decode b_X2_cast 9 = .ok (.aload_n 3, 1) := by decide +kernel
theorem d_X2_cast_10 : decode b_X2_cast 10 = .ok (.getfield 233, 3) := by decide +kernel
theorem d_X2_cast_13 : decode b_X2_cast 13 = .ok (.iconst (-1), 1) := by decide +kernel
theorem d_X2_cast_14 : decode b_X2_cast 14 = .ok (.if_icmp .ne 8, 3) := by decide +kernel
theorem d_X2_cast_17 : decode b_X2_cast 17 = .ok (.aload_n 0, 1) := by decide +kernel
theorem d_X2_cast_18 : decode b_X2_cast 18 = .ok (.iload_n 1, 1) := by decide +kernel
theorem d_X2_cast_19 : decode b_X2_cast 19 = .ok (.invokevirtual 219, 3) := by decide +kernel
theorem d_X2_cast_22 : decode b_X2_cast 22 = .ok (.aload_n 3, 1) := by decide +kernel
theorem d_X2_cast_23 : decode b_X2_cast 23 = .ok (.iload_n 2, 1) := by decide +kernel
theorem d_X2_cast_24 : decode b_X2_cast 24 = .ok (.iconst 0, 1) := by decide +kernel
theorem d_X2_cast_25 : decode b_X2_cast 25 = .ok (.invokevirtual 199, 3) := by decide +kernel
theorem d_X2_cast_28 : decode b_X2_cast 28 = .ok (.aload_n 0, 1) := by decide +kernel
theorem d_X2_cast_29 : decode b_X2_cast 29 = .ok (.aload_n 3, 1) := by decide +kernel
theorem d_X2_cast_30 : decode b_X2_cast 30 = .ok (.iconst 1, 1) := by decide +kernel
theorem d_X2_cast_31 : decode b_X2_cast 31 = .ok (.aload_n 3, 1) := by decide +kernel
theorem d_X2_cast_32 : decode b_X2_cast 32 = .ok (.getfield 161, 3) := by decide +kernel
theorem d_X2_cast_35 : decode b_X2_cast 35 = .ok (.iadd, 1) := by decide +kernel
theorem d_X2_cast_36 : decode b_X2_cast 36 = .ok (.iload_n 1, 1) := by decide +kernel
theorem d_X2_cast_37 : decode b_X2_cast 37 = .ok (.invokevirtual 281, 3) := by decide +kernel
theorem d_X2_cast_40 : decode b_X2_cast 40 = .ok (.return_, 1) := by decide +kernel
theorem d_X2_choice_0 : decode b_X2_choice 0 = .ok (.aload_n 0, 1) := by decide +kernel
theorem d_X2_choice_1 : decode b_X2_choice 1 = .ok (.invokevirtual 259, 3) := by decide +kernel
theorem d_X2_choice_4 : decode b_X2_choice 4 = .ok (.astore_n 2, 1) := by decide +kernel
theorem d_X2_choice_5 : decode b_X2_choice 5 = .ok (.aload_n 0, 1) := by decide +kernel
theorem d_X2_choice_6 : decode b_X2_choice 6 = .ok (.invokevirtual 259, 3) := by decide +kernel
theorem d_X2_choice_9 : decode b_X2_choice 9 = .ok (.astore_n 3, 1) := by decide +kernel
theorem d_X2_choice_10 : decode b_X2_choice 10 = .ok (.aload_n 0, 1) := by decide +kernel
theorem d_X2_choice_11 : decode b_X2_choice 11 = .ok (.invokevirtual 104, 3) := by decide +kernel
theorem d_X2_choice_14 : decode b_X2_choice 14 = .ok (.astore 4, 2) := by decide +kernel
theorem d_X2_choice_16 : decode b_X2_choice 16 = .ok (.aload_n 0, 1) := by decide +kernel
theorem d_X2_choice_17 : decode b_X2_choice 17 = .ok (.getfield 46, 3) := by decide +kernel
theorem d_X2_choice_20 : decode b_X2_choice 20 = .ok (.aload 4, 2) := by decide +kernel
theorem d_X2_choice_22 : decode b_X2_choice 22 = .ok (.getfield 120, 3) := by decide +kernel
theorem d_X2_choice_25 : decode b_X2_choice 25 = .ok (.aload_n 0, 1) := by decide +kernel
theorem d_X2_choice_26 : decode b_X2_choice 26 = .ok (.getfield 46, 3) := by decide +kernel
theorem d_X2_choice_29 : decode b_X2_choice 29 = .ok (.getfield 137, 3) := by decide +kernel
theorem d_X2_choice_32 : decode b_X2_choice 32 = .ok (.invokevirtual 296, 3) := by decide +kernel
theorem d_X2_choice_35 : decode b_X2_choice 35 = .ok (.aload 4, 2) := by decide +kernel
theorem d_X2_choice_37 : decode b_X2_choice 37 = .ok (.getfield 233, 3) := by decide +kernel
theorem d_X2_choice_40 : decode b_X2_choice 40 = .ok (.iconst (-1), 1) := by decide +kernel
theorem d_X2_choice_41 : decode b_X2_choice 41 = .ok (.if_icmp .eq 25, 3) := by decide +kernel
theorem d_X2_choice_44 : decode b_X2_choice 44 = .ok (.aload_n 2, 1) := by decide +kernel
theorem d_X2_choice_45 : decode b_X2_choice 45 = .ok (.aload_n 3, 1) := by decide +kernel
theorem d_X2_choice_46 : decode b_X2_choice 46 = .ok (.getfield 233, 3) := by decide +kernel
theorem d_X2_choice_49 : decode b_X2_choice 49 = .ok (.invokevirtual 271, 3) := by decide +kernel
theorem d_X2_choice_52 : decode b_X2_choice 52 = .ok (.ifCond .ne 19, 3) := by decide +kernel
theorem d_X2_choice_55 : decode b_X2_choice 55 = .ok (.aload_n 3, 1) := by decide +kernel
theorem d_X2_choice_56 : decode b_X2_choice 56 = .ok (.aload_n 2, 1) := by decide +kernel
theorem d_X2_choice_57 : decode b_X2_choice 57 = .ok (.getfield 233, 3) := by decide +kernel
theorem d_X2_choice_60 : decode b_X2_choice 60 = .ok (.invokevirtual 271, 3) := by decide +kernel
theorem d_X2_choice_63 : decode b_X2_choice 63 = .ok (.ifCond .ne 8, 3) := by decide +kernel
theorem d_X2_choice_66 : decode b_X2_choice 66 = .ok (.aload_n 0, 1) := by decide +kernel
theorem d_X2_choice_67 : decode b_X2_choice 67 = .ok (.iload_n 1, 1) := by decide +kernel
theorem d_X2_choice_68 : decode b_X2_choice 68 = .ok (.invokevirtual 219, 3) := by decide +kernel
theorem d_X2_choice_71 : decode b_X2_choice 71 = .ok (.aload 4, 2) := by decide +kernel
theorem d_X2_choice_73 : decode b_X2_choice 73 = .ok (.getfield 161, 3) := by decide +kernel
theorem d_X2_choice_76 : decode b_X2_choice 76 = .ok (.aload_n 3, 1) := by decide +kernel
theorem d_X2_choice_77 : decode b_X2_choice 77 = .ok (.getfield 161, 3) := by decide +kernel
theorem d_X2_choice_80 : decode b_X2_choice 80 = .ok (.aload_n 2, 1) := by decide +kernel
theorem d_X2_choice_81 : decode b_X2_choice 81 = .ok (.getfield 161, 3) := by decide +kernel
theorem d_X2_choice_84 : decode b_X2_choice 84 = .ok (.invokestatic 222, 3) := by decide +kernel
theorem d_X2_choice_87 : decode b_X2_choice 87 = .ok (.invokestatic 222, 3) := by decide +kernel
theorem d_X2_choice_90 : decode b_X2_choice 90 = .ok (.istore 5, 2) := by decide +kernel
theorem d_X2_choice_92 : decode b_X2_choice 92 = .ok (.aload 4, 2) := by decide +kernel
theorem d_X2_choice_94 : decode b_X2_choice 94 = .ok (.aload_n 3, 1) := by decide +kernel
theorem d_X2_choice_95 : decode b_X2_choice 95 = .ok (.getfield 233, 3) := by decide +kernel
theorem d_X2_choice_98 : decode b_X2_choice 98 = .ok (.aload_n 2, 1) := by decide +kernel
theorem d_X2_choice_99 : decode b_X2_choice 99 = .ok (.getfield 233, 3) := by decide +kernel
theorem d_X2_choice_102 : decode b_X2_choice 102 = .ok (.invokestatic 222, 3) := by decide +kernel
theorem d_X2_choice_105 : decode b_X2_choice 105 = .ok (.iconst 0, 1) := by decide +kernel
