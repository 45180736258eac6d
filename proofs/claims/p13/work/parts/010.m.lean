theorem d_X14_rowInitial_82 : decode b_X14_rowInitial 82 = .ok (.iload_n 2, 1) := by decide +kernel
theorem d_X14_rowInitial_83 : decode b_X14_rowInitial 83 = .ok (.if_icmp .gt 7, 3) := by decide +kernel
theorem d_X14_rowInitial_86 : decode b_X14_rowInitial 86 = .ok (.iconst 1, 1) := by decide +kernel
theorem d_X14_rowInitial_87 : decode b_X14_rowInitial 87 = .ok (.goto 4, 3) := by decide +kernel
theorem d_X14_rowInitial_90 : decode b_X14_rowInitial 90 = .ok (.iconst 0, 1) := by decide +kernel
theorem d_X14_rowInitial_91 : decode b_X14_rowInitial 91 = .ok (.ireturn, 1) := by decide +kernel
theorem d_X14_rowInitial_92 : decode b_X14_rowInitial 92 = .ok (.aload_n 0, 1) := by decide +kernel
theorem d_X14_rowInitial_93 : decode b_X14_rowInitial 93 = .ok (.bipush 22, 2) := by decide +kernel
theorem d_X14_rowInitial_95 : decode b_X14_rowInitial 95 = .ok (.invokevirtual 308, 3) := by decide +kernel
theorem d_X14_rowInitial_98 : decode b_X14_rowInitial 98 = .ok (.ifCond .eq 14, 3) := by decide +kernel
theorem d_X14_rowInitial_101 : decode b_X14_rowInitial 101 = .ok (.aload_n 0, 1) := by decide +kernel
theorem d_X14_rowInitial_102 : decode b_X14_rowInitial 102 = .ok (.iload_n 2, 1) := by decide +kernel
theorem d_X14_rowInitial_103 : decode b_X14_rowInitial 103 = .ok (.iload_n 1, 1) := by decide +kernel
theorem d_X14_rowInitial_104 : decode b_X14_rowInitial 104 = .ok (.iconst 0, 1) := by decide +kernel
theorem d_X14_rowInitial_105 : decode b_X14_rowInitial 105 = .ok (.iload_n 3, 1) := by decide +kernel
theorem d_X14_rowInitial_106 : decode b_X14_rowInitial 106 = .ok (.iload 4, 2) := by decide +kernel
theorem d_X14_rowInitial_108 : decode b_X14_rowInitial 108 = .ok (.invokevirtual 634, 3) := by decide +kernel
theorem d_X14_rowInitial_111 : decode b_X14_rowInitial 111 = .ok (.ireturn, 1) := by decide +kernel
theorem d_X14_rowInitial_112 : decode b_X14_rowInitial 112 = .ok (.aload_n 0, 1) := by decide +kernel
theorem d_X14_rowInitial_113 : decode b_X14_rowInitial 113 = .ok (.iconst 1, 1) := by decide +kernel
theorem d_X14_rowInitial_114 : decode b_X14_rowInitial 114 = .ok (.invokevirtual 395, 3) := by decide +kernel
theorem d_X14_rowInitial_117 : decode b_X14_rowInitial 117 = .ok (.astore 5, 2) := by decide +kernel
theorem d_X14_rowInitial_119 : decode b_X14_rowInitial 119 = .ok (.aload_n 0, 1) := by decide +kernel
theorem d_X14_rowInitial_120 : decode b_X14_rowInitial 120 = .ok (.aload 5, 2) := by decide +kernel
theorem d_X14_rowInitial_122 : decode b_X14_rowInitial 122 = .ok (.invokevirtual 398, 3) := by decide +kernel
theorem d_X14_rowInitial_125 : decode b_X14_rowInitial 125 = .ok (.iconst 0, 1) := by decide +kernel
theorem d_X14_rowInitial_126 : decode b_X14_rowInitial 126 = .ok (.ireturn, 1) := by decide +kernel
theorem d_X14_rowOf_0 : decode b_X14_rowOf 0 = .ok (.aload_n 0, 1) := by decide +kernel
theorem d_X14_rowOf_1 : decode b_X14_rowOf 1 = .ok (.getfield 108, 3) := by decide +kernel
theorem d_X14_rowOf_4 : decode b_X14_rowOf 4 = .ok (.aload_n 0, 1) := by decide +kernel
theorem d_X14_rowOf_5 : decode b_X14_rowOf 5 = .ok (.getfield 182, 3) := by decide +kernel
theorem d_X14_rowOf_8 : decode b_X14_rowOf 8 = .ok (.aload_n 0, 1) := by decide +kernel
theorem d_X14_rowOf_9 : decode b_X14_rowOf 9 = .ok (.getfield 771, 3) := by decide +kernel
theorem d_X14_rowOf_12 : decode b_X14_rowOf 12 = .ok (.iconst 1, 1) := by decide +kernel
theorem d_X14_rowOf_13 : decode b_X14_rowOf 13 = .ok (.isub, 1) := by decide +kernel
theorem d_X14_rowOf_14 : decode b_X14_rowOf 14 = .ok (.iaload, 1) := by decide +kernel
theorem d_X14_rowOf_15 : decode b_X14_rowOf 15 = .ok (.iaload, 1) := by decide +kernel
theorem d_X14_rowOf_16 : decode b_X14_rowOf 16 = .ok (.iconst 2, 1) := by decide +kernel
theorem d_X14_rowOf_17 : decode b_X14_rowOf 17 = .ok (.iload_n 1, 1) := by decide +kernel
theorem d_X14_rowOf_18 : decode b_X14_rowOf 18 = .ok (.imul, 1) := by decide +kernel
theorem d_X14_rowOf_19 : decode b_X14_rowOf 19 = .ok (.iadd, 1) := by decide +kernel
theorem d_X14_rowOf_20 : decode b_X14_rowOf 20 = .ok (.ireturn, 1) := by decide +kernel
theorem d_X14_run_0 : decode b_X14_run 0 = .ok (.aload_n 0, 1) := by decide +kernel
theorem d_X14_run_1 : decode b_X14_run 1 = .ok (.getfield 150, 3) := by decide +kernel
theorem d_X14_run_4 : decode b_X14_run 4 = .ok (.ifCond .ge 5, 3) := by decide +kernel
theorem d_X14_run_7 : decode b_X14_run 7 = .ok (.iconst (-1), 1) := by decide +kernel
theorem d_X14_run_8 : decode b_X14_run 8 = .ok (.ireturn, 1) := by decide +kernel
theorem d_X14_run_9 : decode b_X14_run 9 = .ok (.iload_n 1, 1) := by decide +kernel
theorem d_X14_run_10 : decode b_X14_run 10 = .ok (.ifCond .lt 10, 3) := by decide +kernel
theorem d_X14_run_13 : decode b_X14_run 13 = .ok (.iload_n 1, 1) := by decide +kernel
theorem d_X14_run_14 : decode b_X14_run 14 = .ok (.sipush 20000, 3) := by decide +kernel
theorem d_X14_run_17 : decode b_X14_run 17 = .ok (.if_icmp .le 6, 3) := by decide +kernel
theorem d_X14_run_20 : decode b_X14_run 20 = .ok (.bipush (-2), 2) := by decide +kernel
theorem d_X14_run_22 : decode b_X14_run 22 = .ok (.ireturn, 1) := by decide +kernel
theorem d_X14_run_23 : decode b_X14_run 23 = .ok (.iconst 0, 1) := by decide +kernel
theorem d_X14_run_24 : decode b_X14_run 24 = .ok (.istore_n 2, 1) := by decide +kernel
theorem d_X14_run_25 : decode b_X14_run 25 = .ok (.iload_n 2, 1) := by decide +kernel
theorem d_X14_run_26 : decode b_X14_run 26 = .ok (.ldc 168, 2) := by decide +kernel
theorem d_X14_run_28 : decode b_X14_run 28 = .ok (.if_icmp .ge 34, 3) := by decide +kernel
theorem d_X14_run_31 : decode b_X14_run 31 = .ok (.aload_n 0, 1) := by decide +kernel
theorem d_X14_run_32 : decode b_X14_run 32 = .ok (.getfield 169, 3) := by decide +kernel
theorem d_X14_run_35 : decode b_X14_run 35 = .ok (.iload_n 2, 1) := by decide +kernel
theorem d_X14_run_36 : decode b_X14_run 36 = .ok (.iload_n 2, 1) := by decide +kernel
theorem d_X14_run_37 : decode b_X14_run 37 = .ok (.aload_n 0, 1) := by decide +kernel
theorem d_X14_run_38 : decode b_X14_run 38 = .ok (.getfield 165, 3) := by decide +kernel
theorem d_X14_run_41 : decode b_X14_run 41 = .ok (.arraylength, 1) := by decide +kernel
theorem d_X14_run_42 : decode b_X14_run 42 = .ok (.if_icmp .ge 12, 3) := by decide +kernel
theorem d_X14_run_45 : decode b_X14_run 45 = .ok (.aload_n 0, 1) := by decide +kernel
theorem d_X14_run_46 : decode b_X14_run 46 = .ok (.getfield 165, 3) := by decide +kernel
theorem d_X14_run_49 : decode b_X14_run 49 = .ok (.iload_n 2, 1) := by decide +kernel
theorem d_X14_run_50 : decode b_X14_run 50 = .ok (.iaload, 1) := by decide +kernel
theorem d_X14_run_51 : decode b_X14_run 51 = .ok (.goto 4, 3) := by decide +kernel
theorem d_X14_run_54 : decode b_X14_run 54 = .ok (.iconst 0, 1) := by decide +kernel
theorem d_X14_run_55 : decode b_X14_run 55 = .ok (.iastore, 1) := by decide +kernel
theorem d_X14_run_56 : decode b_X14_run 56 = .ok (.iinc 2 1, 3) := by decide +kernel
theorem d_X14_run_59 : decode b_X14_run 59 = .ok (.goto (-34), 3) := by decide +kernel
theorem d_X14_run_62 : decode b_X14_run 62 = .ok (.aload_n 0, 1) := by decide +kernel
theorem d_X14_run_63 : decode b_X14_run 63 = .ok (.iconst 1, 1) := by decide +kernel
theorem d_X14_run_64 : decode b_X14_run 64 = .ok (.putfield 744, 3) := by decide +kernel
theorem d_X14_run_67 : decode b_X14_run 67 = .ok (.aload_n 0, 1) := by decide +kernel
theorem d_X14_run_68 : decode b_X14_run 68 = .ok (.iload_n 1, 1) := by decide +kernel
theorem d_X14_run_69 : decode b_X14_run 69 = .ok (.putfield 747, 3) := by decide +kernel
theorem d_X14_run_72 : decode b_X14_run 72 = .ok (.aload_n 0, 1) := by decide +kernel
theorem d_X14_run_73 : decode b_X14_run 73 = .ok (.iconst 0, 1) := by decide +kernel
theorem d_X14_run_74 : decode b_X14_run 74 = .ok (.putfield 750, 3) := by decide +kernel
theorem d_X14_run_77 : decode b_X14_run 77 = .ok (.aload_n 0, 1) := by decide +kernel
theorem d_X14_run_78 : decode b_X14_run 78 = .ok (.iconst 0, 1) := by decide +kernel
theorem d_X14_run_79 : decode b_X14_run 79 = .ok (.putfield 753, 3) := by decide +kernel
theorem d_X14_run_82 : decode b_X14_run 82 = .ok (.aload_n 0, 1) := by decide +kernel
theorem d_X14_run_83 : decode b_X14_run 83 = .ok (.iconst 0, 1) := by decide +kernel
theorem d_X14_run_84 : decode b_X14_run 84 = .ok (.putfield 756, 3) := by decide +kernel
theorem d_X14_run_87 : decode b_X14_run 87 = .ok (.aload_n 0, 1) := by decide +kernel
theorem d_X14_run_88 : decode b_X14_run 88 = .ok (.iconst 0, 1) := by decide +kernel
theorem d_X14_run_89 : decode b_X14_run 89 = .ok (.putfield 759, 3) := by decide +kernel
theorem d_X14_run_92 : decode b_X14_run 92 = .ok (.aload_n 0, 1) := by decide +kernel
theorem d_X14_run_93 : decode b_X14_run 93 = .ok (.iconst 0, 1) := by decide +kernel
theorem d_X14_run_94 : decode b_X14_run 94 = .ok (.putfield 762, 3) := by decide +kernel
theorem d_X14_run_97 : decode b_X14_run 97 = .ok (.aload_n 0, 1) := by decide +kernel
theorem d_X14_run_98 : decode b_X14_run 98 = .ok (.iconst 0, 1) := by decide +kernel
theorem d_X14_run_99 : decode b_X14_run 99 = .ok (.putfield 765, 3) := by decide +kernel
theorem d_X14_run_102 : decode b_X14_run 102 = .ok (.aload_n 0, 1) := by decide +kernel
theorem d_X14_run_103 : decode b_X14_run 103 = .ok (.iconst 0, 1) := by decide +kernel
theorem d_X14_run_104 : decode b_X14_run 104 = .ok (.putfield 768, 3) := by decide +kernel
theorem d_X14_run_107 : decode b_X14_run 107 = .ok (.aload_n 0, 1) := by decide +kernel
theorem d_X14_run_108 : decode b_X14_run 108 = .ok (.iconst 0, 1) := by decide +kernel
theorem d_X14_run_109 : decode b_X14_run 109 = .ok (.putfield 771, 3) := by decide +kernel
theorem d_X14_run_112 : decode b_X14_run 112 = .ok (.aload_n 0, 1) := by decide +kernel
theorem d_X14_run_113 : decode b_X14_run 113 = .ok (.iconst (-1), 1) := by decide +kernel
theorem d_X14_run_114 : decode b_X14_run 114 = .ok (.putfield 774, 3) := by decide +kernel
theorem d_X14_run_117 : decode b_X14_run 117 = .ok (.aload_n 0, 1) := by decide +kernel
theorem d_X14_run_118 : decode b_X14_run 118 = .ok (.aload_n 0, 1) := by decide +kernel
theorem d_X14_run_119 : decode b_X14_run 119 = .ok (.getfield 729, 3) := by decide +kernel
theorem d_X14_run_122 : decode b_X14_run 122 = .ok (.iconst 0, 1) := by decide +kernel
theorem d_X14_run_123 : decode b_X14_run 123 = .ok (.iconst 0, 1) := by decide +kernel
theorem d_X14_run_124 : decode b_X14_run 124 = .ok (.iconst 0, 1) := by decide +kernel
theorem d_X14_run_125 : decode b_X14_run 125 = .ok (.invokevirtual 777, 3) := by decide +kernel
theorem d_X14_run_128 : decode b_X14_run 128 = .ok (.aload_n 0, 1) := by decide +kernel
theorem d_X14_run_129 : decode b_X14_run 129 = .ok (.getfield 774, 3) := by decide +kernel
theorem d_X14_run_132 : decode b_X14_run 132 = .ok (.ifCond .ge 15, 3) := by decide +kernel
theorem d_X14_run_135 : decode b_X14_run 135 = .ok (.aload_n 0, 1) := by decide +kernel
theorem d_X14_run_136 : decode b_X14_run 136 = .ok (.getfield 99, 3) := by decide +kernel
theorem d_X14_run_139 : decode b_X14_run 139 = .ok (.aload_n 0, 1) := by decide +kernel
theorem d_X14_run_140 : decode b_X14_run 140 = .ok (.getfield 729, 3) := by decide +kernel
theorem d_X14_run_143 : decode b_X14_run 143 = .ok (.iaload, 1) := by decide +kernel
theorem d_X14_run_144 : decode b_X14_run 144 = .ok (.goto 4, 3) := by decide +kernel
theorem d_X14_run_147 : decode b_X14_run 147 = .ok (.iconst 0, 1) := by decide +kernel
theorem d_X14_run_148 : decode b_X14_run 148 = .ok (.istore_n 2, 1) := by decide +kernel
theorem d_X14_run_149 : decode b_X14_run 149 = .ok (.aload_n 0, 1) := by decide +kernel
theorem d_X14_run_150 : decode b_X14_run 150 = .ok (.getfield 774, 3) := by decide +kernel
theorem d_X14_run_153 : decode b_X14_run 153 = .ok (.ifCond .ge 12, 3) := by decide +kernel
theorem d_X14_run_156 : decode b_X14_run 156 = .ok (.aload_n 0, 1) := by decide +kernel
theorem d_X14_run_157 : decode b_X14_run 157 = .ok (.iload_n 2, 1) := by decide +kernel
theorem d_X14_run_158 : decode b_X14_run 158 = .ok (.invokevirtual 781, 3) := by decide +kernel
theorem d_X14_run_161 : decode b_X14_run 161 = .ok (.istore_n 2, 1) := by decide +kernel
theorem d_X14_run_162 : decode b_X14_run 162 = .ok (.goto (-13), 3) := by decide +kernel
theorem d_X14_run_165 : decode b_X14_run 165 = .ok (.aload_n 0, 1) := by decide +kernel
theorem d_X14_run_166 : decode b_X14_run 166 = .ok (.iconst 0, 1) := by decide +kernel
theorem d_X14_run_167 : decode b_X14_run 167 = .ok (.putfield 741, 3) := by decide +kernel
theorem d_X14_run_170 : decode b_X14_run 170 = .ok (.aload_n 0, 1) := by decide +kernel
theorem d_X14_run_171 : decode b_X14_run 171 = .ok (.getfield 774, 3) := by decide +kernel
theorem d_X14_run_174 : decode b_X14_run 174 = .ok (.ireturn, 1) := by decide +kernel
theorem d_X14_setLocal_0 : decode b_X14_setLocal 0 = .ok (.aload_n 0, 1) := by decide +kernel
theorem d_X14_setLocal_1 : decode b_X14_setLocal 1 = .ok (.getfield 41, 3) := by decide +kernel
theorem d_X14_setLocal_4 : decode b_X14_setLocal 4 = .ok (.aload_n 0, 1) := by decide +kernel
theorem d_X14_setLocal_5 : decode b_X14_setLocal 5 = .ok (.iload_n 1, 1) := by decide +kernel
theorem d_X14_setLocal_6 : decode b_X14_setLocal 6 = .ok (.invokevirtual 793, 3) := by decide +kernel
theorem d_X14_setLocal_9 : decode b_X14_setLocal 9 = .ok (.iaload, 1) := by decide +kernel
theorem d_X14_setLocal_10 : decode b_X14_setLocal 10 = .ok (.istore_n 3, 1) := by decide +kernel
theorem d_X14_setLocal_11 : decode b_X14_setLocal 11 = .ok (.iload_n 3, 1) := by decide +kernel
theorem d_X14_setLocal_12 : decode b_X14_setLocal 12 = .ok (.ifCond .lt 25, 3) := by decide +kernel
theorem d_X14_setLocal_15 : decode b_X14_setLocal 15 = .ok (.aload_n 0, 1) := by decide +kernel
theorem d_X14_setLocal_16 : decode b_X14_setLocal 16 = .ok (.getfield 169, 3) := by decide +kernel
theorem d_X14_setLocal_19 : decode b_X14_setLocal 19 = .ok (.aload_n 0, 1) := by decide +kernel
theorem d_X14_setLocal_20 : decode b_X14_setLocal 20 = .ok (.getfield 179, 3) := by decide +kernel
theorem d_X14_setLocal_23 : decode b_X14_setLocal 23 = .ok (.aload_n 0, 1) := by decide +kernel
theorem d_X14_setLocal_24 : decode b_X14_setLocal 24 = .ok (.getfield 771, 3) := by decide +kernel
theorem d_X14_setLocal_27 : decode b_X14_setLocal 27 = .ok (.iconst 1, 1) := by decide +kernel
theorem d_X14_setLocal_28 : decode b_X14_setLocal 28 = .ok (.isub, 1) := by decide +kernel
theorem d_X14_setLocal_29 : decode b_X14_setLocal 29 = .ok (.iaload, 1) := by decide +kernel
theorem d_X14_setLocal_30 : decode b_X14_setLocal 30 = .ok (.iload_n 3, 1) := by decide +kernel
theorem d_X14_setLocal_31 : decode b_X14_setLocal 31 = .ok (.iadd, 1) := by decide +kernel
theorem d_X14_setLocal_32 : decode b_X14_setLocal 32 = .ok (.iload_n 2, 1) := by decide +kernel
theorem d_X14_setLocal_33 : decode b_X14_setLocal 33 = .ok (.iastore, 1) := by decide +kernel
theorem d_X14_setLocal_34 : decode b_X14_setLocal 34 = .ok (.goto 20, 3) := by decide +kernel
theorem d_X14_setLocal_37 : decode b_X14_setLocal 37 = .ok (.aload_n 0, 1) := by decide +kernel
theorem d_X14_setLocal_38 : decode b_X14_setLocal 38 = .ok (.getfield 176, 3) := by decide +kernel
theorem d_X14_setLocal_41 : decode b_X14_setLocal 41 = .ok (.aload_n 0, 1) := by decide +kernel
theorem d_X14_setLocal_42 : decode b_X14_setLocal 42 = .ok (.getfield 771, 3) := by decide +kernel
theorem d_X14_setLocal_45 : decode b_X14_setLocal 45 = .ok (.iconst 1, 1) := by decide +kernel
theorem d_X14_setLocal_46 : decode b_X14_setLocal 46 = .ok (.isub, 1) := by decide +kernel
theorem d_X14_setLocal_47 : decode b_X14_setLocal 47 = .ok (.bipush 100, 2) := by decide +kernel
theorem d_X14_setLocal_49 : decode b_X14_setLocal 49 = .ok (.imul, 1) := by decide +kernel
theorem d_X14_setLocal_50 : decode b_X14_setLocal 50 = .ok (.iload_n 1, 1) := by decide +kernel
theorem d_X14_setLocal_51 : decode b_X14_setLocal 51 = .ok (.iadd, 1) := by decide +kernel
theorem d_X14_setLocal_52 : decode b_X14_setLocal 52 = .ok (.iload_n 2, 1) := by decide +kernel
theorem d_X14_setLocal_53 : decode b_X14_setLocal 53 = .ok (.iastore, 1) := by decide +kernel
theorem d_X14_setLocal_54 : decode b_X14_setLocal 54 = .ok (.return_, 1) := by decide +kernel
theorem d_X14_sign_0 : decode b_X14_sign 0 = .ok (.aload_n 0, 1) := by decide +kernel
theorem d_X14_sign_1 : decode b_X14_sign 1 = .ok (.getfield 13, 3) := by decide +kernel
theorem d_X14_sign_4 : decode b_X14_sign 4 = .ok (.aload_n 0, 1) := by decide +kernel
theorem d_X14_sign_5 : decode b_X14_sign 5 = .ok (.getfield 288, 3) := by decide +kernel
theorem d_X14_sign_8 : decode b_X14_sign 8 = .ok (.iaload, 1) := by decide +kernel
theorem d_X14_sign_9 : decode b_X14_sign 9 = .ok (.bipush 32, 2) := by decide +kernel
theorem d_X14_sign_11 : decode b_X14_sign 11 = .ok (.isub, 1) := by decide +kernel
theorem d_X14_sign_12 : decode b_X14_sign 12 = .ok (.ireturn, 1) := by decide +kernel
theorem d_X14_signEnd_0 : decode b_X14_signEnd 0 = .ok (.iconst 3, 1) := by decide +kernel
theorem d_X14_signEnd_1 : decode b_X14_signEnd 1 = .ok (.istore_n 3, 1) := by decide +kernel
theorem d_X14_signEnd_2 : decode b_X14_signEnd 2 = .ok (.iload_n 3, 1) := by decide +kernel
theorem d_X14_signEnd_3 : decode b_X14_signEnd 3 = .ok (.ifCond .le 63, 3) := by decide +kernel
theorem d_X14_signEnd_6 : decode b_X14_signEnd 6 = .ok (.iload_n 1, 1) := by decide +kernel
theorem d_X14_signEnd_7 : decode b_X14_signEnd 7 = .ok (.iload_n 3, 1) := by decide +kernel
theorem d_X14_signEnd_8 : decode b_X14_signEnd 8 = .ok (.iadd, 1) := by decide +kernel
theorem d_X14_signEnd_9 : decode b_X14_signEnd 9 = .ok (.aload_n 0, 1) := by decide +kernel
theorem d_X14_signEnd_10 : decode b_X14_signEnd 10 = .ok (.getfield 203, 3) := by decide +kernel
theorem d_X14_signEnd_13 : decode b_X14_signEnd 13 = .ok (.if_icmp .gt 17, 3) := by decide +kernel
theorem d_X14_signEnd_16 : decode b_X14_signEnd 16 = .ok (.aload_n 0, 1) := by decide +kernel
theorem d_X14_signEnd_17 : decode b_X14_signEnd 17 = .ok (.iload_n 1, 1) := by decide +kernel
theorem d_X14_signEnd_18 : decode b_X14_signEnd 18 = .ok (.iload_n 1, 1) := by decide +kernel
theorem d_X14_signEnd_19 : decode b_X14_signEnd 19 = .ok (.iload_n 3, 1) := by decide +kernel
theorem d_X14_signEnd_20 : decode b_X14_signEnd 20 = .ok (.iadd, 1) := by decide +kernel
theorem d_X14_signEnd_21 : decode b_X14_signEnd 21 = .ok (.ldc_w 286, 3) := by decide +kernel
theorem d_X14_signEnd_24 : decode b_X14_signEnd 24 = .ok (.invokevirtual 260, 3) := by decide +kernel
theorem d_X14_signEnd_27 : decode b_X14_signEnd 27 = .ok (.goto 4, 3) := by decide +kernel
theorem d_X14_signEnd_30 : decode b_X14_signEnd 30 = .ok (.iconst (-1), 1) := by decide +kernel
theorem d_X14_signEnd_31 : decode b_X14_signEnd 31 = .ok (.istore 4, 2) := by decide +kernel
theorem d_X14_signEnd_33 : decode b_X14_signEnd 33 = .ok (.iload 4, 2) := by decide +kernel
theorem d_X14_signEnd_35 : decode b_X14_signEnd 35 = .ok (.ifCond .ge 6, 3) := by decide +kernel
theorem d_X14_signEnd_38 : decode b_X14_signEnd 38 = .ok (.goto 22, 3) := by decide +kernel
theorem d_X14_signEnd_41 : decode b_X14_signEnd 41 = .ok (.aload_n 0, 1) := by decide +kernel
theorem d_X14_signEnd_42 : decode b_X14_signEnd 42 = .ok (.bipush 32, 2) := by decide +kernel
theorem d_X14_signEnd_44 : decode b_X14_signEnd 44 = .ok (.iload 4, 2) := by decide +kernel
theorem d_X14_signEnd_46 : decode b_X14_signEnd 46 = .ok (.iadd, 1) := by decide +kernel
theorem d_X14_signEnd_47 : decode b_X14_signEnd 47 = .ok (.iload_n 1, 1) := by decide +kernel
theorem d_X14_signEnd_48 : decode b_X14_signEnd 48 = .ok (.iload_n 1, 1) := by decide +kernel
theorem d_X14_signEnd_49 : decode b_X14_signEnd 49 = .ok (.iload_n 3, 1) := by decide +kernel
theorem d_X14_signEnd_50 : decode b_X14_signEnd 50 = .ok (.iadd, 1) := by decide +kernel
theorem d_X14_signEnd_51 : decode b_X14_signEnd 51 = .ok (.iload_n 2, 1) := by decide +kernel
theorem d_X14_signEnd_52 : decode b_X14_signEnd 52 = .ok (.iconst 0, 1) := by decide +kernel
theorem d_X14_signEnd_53 : decode b_X14_signEnd 53 = .ok (.invokevirtual 217, 3) := by decide +kernel
theorem d_X14_signEnd_56 : decode b_X14_signEnd 56 = .ok (.iload_n 1, 1) := by decide +kernel
theorem d_X14_signEnd_57 : decode b_X14_signEnd 57 = .ok (.iload_n 3, 1) := by decide +kernel
theorem d_X14_signEnd_58 : decode b_X14_signEnd 58 = .ok (.iadd, 1) := by decide +kernel
theorem d_X14_signEnd_59 : decode b_X14_signEnd 59 = .ok (.ireturn, 1) := by decide +kernel
theorem d_X14_signEnd_60 : decode b_X14_signEnd 60 = .ok (.iinc 3 (-1), 3) := by decide +kernel
theorem d_X14_signEnd_63 : decode b_X14_signEnd 63 = .ok (.goto (-61), 3) := by decide +kernel
theorem d_X14_signEnd_66 : decode b_X14_signEnd 66 = .ok (.aload_n 0, 1) := by decide +kernel
theorem d_X14_signEnd_67 : decode b_X14_signEnd 67 = .ok (.iload_n 1, 1) := by decide +kernel
theorem d_X14_signEnd_68 : decode b_X14_signEnd 68 = .ok (.invokevirtual 234, 3) := by decide +kernel
theorem d_X14_signEnd_71 : decode b_X14_signEnd 71 = .ok (.ireturn, 1) := by decide +kernel
theorem d_X14_sixteen_0 : decode b_X14_sixteen 0 = .ok (.iload_n 0, 1) := by decide +kernel
theorem d_X14_sixteen_1 : decode b_X14_sixteen 1 = .ok (.invokestatic 243, 3) := by decide +kernel
theorem d_X14_sixteen_4 : decode b_X14_sixteen 4 = .ok (.ifCond .eq 8, 3) := by decide +kernel
theorem d_X14_sixteen_7 : decode b_X14_sixteen 7 = .ok (.iload_n 0, 1) := by decide +kernel
theorem d_X14_sixteen_8 : decode b_X14_sixteen 8 = .ok (.bipush 48, 2) := by decide +kernel
theorem d_X14_sixteen_10 : decode b_X14_sixteen 10 = .ok (.isub, 1) := by decide +kernel
theorem d_X14_sixteen_11 : decode b_X14_sixteen 11 = .ok (.ireturn, 1) := by decide +kernel
theorem d_X14_sixteen_12 : decode b_X14_sixteen 12 = .ok (.iload_n 0, 1) := by decide +kernel
theorem d_X14_sixteen_13 : decode b_X14_sixteen 13 = .ok (.bipush 97, 2) := by decide +kernel
theorem d_X14_sixteen_15 : decode b_X14_sixteen 15 = .ok (.if_icmp .lt 17, 3) := by decide +kernel
theorem d_X14_sixteen_18 : decode b_X14_sixteen 18 = .ok (.iload_n 0, 1) := by decide +kernel
theorem d_X14_sixteen_19 : decode b_X14_sixteen 19 = .ok (.bipush 102, 2) := by decide +kernel
theorem d_X14_sixteen_21 : decode b_X14_sixteen 21 = .ok (.if_icmp .gt 11, 3) := by decide +kernel
theorem d_X14_sixteen_24 : decode b_X14_sixteen 24 = .ok (.iload_n 0, 1) := by decide +kernel
theorem d_X14_sixteen_25 : decode b_X14_sixteen 25 = .ok (.bipush 97, 2) := by decide +kernel
theorem d_X14_sixteen_27 : decode b_X14_sixteen 27 = .ok (.isub, 1) := by decide +kernel
theorem d_X14_sixteen_28 : decode b_X14_sixteen 28 = .ok (.bipush 10, 2) := by decide +kernel
theorem d_X14_sixteen_30 : decode b_X14_sixteen 30 = .ok (.iadd, 1) := by decide +kernel
theorem d_X14_sixteen_31 : decode b_X14_sixteen 31 = .ok (.ireturn, 1) := by decide +kernel
theorem d_X14_sixteen_32 : decode b_X14_sixteen 32 = .ok (.iload_n 0, 1) := by decide +kernel
theorem d_X14_sixteen_33 : decode b_X14_sixteen 33 = .ok (.bipush 65, 2) := by decide +kernel
theorem d_X14_sixteen_35 : decode b_X14_sixteen 35 = .ok (.if_icmp .lt 19, 3) := by decide +kernel
theorem d_X14_sixteen_38 : decode b_X14_sixteen 38 = .ok (.iload_n 0, 1) := by decide +kernel
theorem d_X14_sixteen_39 : decode b_X14_sixteen 39 = .ok (.bipush 70, 2) := by decide +kernel
theorem d_X14_sixteen_41 : decode b_X14_sixteen 41 = .ok (.if_icmp .gt 13, 3) := by decide +kernel
theorem d_X14_sixteen_44 : decode b_X14_sixteen 44 = .ok (.iload_n 0, 1) := by decide +kernel
theorem d_X14_sixteen_45 : decode b_X14_sixteen 45 = .ok (.bipush 65, 2) := by decide +kernel
theorem d_X14_sixteen_47 : decode b_X14_sixteen 47 = .ok (.isub, 1) := by decide +kernel
theorem d_X14_sixteen_48 : decode b_X14_sixteen 48 = .ok (.bipush 10, 2) := by decide +kernel
theorem d_X14_sixteen_50 : decode b_X14_sixteen 50 = .ok (.iadd, 1) := by decide +kernel
theorem d_X14_sixteen_51 : decode b_X14_sixteen 51 = .ok (.goto 4, 3) := by decide +kernel
theorem d_X14_sixteen_54 : decode b_X14_sixteen 54 = .ok (.iconst (-1), 1) := by decide +kernel
theorem d_X14_sixteen_55 : decode b_X14_sixteen 55 = .ok (.ireturn, 1) := by decide +kernel
theorem d_X14_sizeAt_0 : decode b_X14_sizeAt 0 = .ok (.aload_n 0, 1) := by decide +kernel
theorem d_X14_sizeAt_1 : decode b_X14_sizeAt 1 = .ok (.dup, 1) := by decide +kernel
theorem d_X14_sizeAt_2 : decode b_X14_sizeAt 2 = .ok (.getfield 298, 3) := by decide +kernel
theorem d_X14_sizeAt_5 : decode b_X14_sizeAt 5 = .ok (.iconst 1, 1) := by decide +kernel
theorem d_X14_sizeAt_6 : decode b_X14_sizeAt 6 = .ok (.iadd, 1) := by decide +kernel
theorem d_X14_sizeAt_7 : decode b_X14_sizeAt 7 = .ok (.putfield 298, 3) := by decide +kernel
theorem d_X14_sizeAt_10 : decode b_X14_sizeAt 10 = .ok (.aload_n 0, 1) := by decide +kernel
theorem d_X14_sizeAt_11 : decode b_X14_sizeAt 11 = .ok (.getfield 315, 3) := by decide +kernel
theorem d_X14_sizeAt_14 : decode b_X14_sizeAt 14 = .ok (.istore_n 1, 1) := by decide +kernel
theorem d_X14_sizeAt_15 : decode b_X14_sizeAt 15 = .ok (.aload_n 0, 1) := by decide +kernel
theorem d_X14_sizeAt_16 : decode b_X14_sizeAt 16 = .ok (.iconst 1, 1) := by decide +kernel
theorem d_X14_sizeAt_17 : decode b_X14_sizeAt 17 = .ok (.invokevirtual 395, 3) := by decide +kernel
theorem d_X14_sizeAt_20 : decode b_X14_sizeAt 20 = .ok (.astore_n 2, 1) := by decide +kernel
theorem d_X14_sizeAt_21 : decode b_X14_sizeAt 21 = .ok (.aload_n 0, 1) := by decide +kernel
theorem d_X14_sizeAt_22 : decode b_X14_sizeAt 22 = .ok (.dup, 1) := by decide +kernel
theorem d_X14_sizeAt_23 : decode b_X14_sizeAt 23 = .ok (.getfield 298, 3) := by decide +kernel
theorem d_X14_sizeAt_26 : decode b_X14_sizeAt 26 = .ok (.iconst 1, 1) := by decide +kernel
theorem d_X14_sizeAt_27 : decode b_X14_sizeAt 27 = .ok (.isub, 1) := by decide +kernel
theorem d_X14_sizeAt_28 : decode b_X14_sizeAt 28 = .ok (.putfield 298, 3) := by decide +kernel
theorem d_X14_sizeAt_31 : decode b_X14_sizeAt 31 = .ok (.aload_n 0, 1) := by decide +kernel
theorem d_X14_sizeAt_32 : decode b_X14_sizeAt 32 = .ok (.iload_n 1, 1) := by decide +kernel
theorem d_X14_sizeAt_33 : decode b_X14_sizeAt 33 = .ok (.putfield 315, 3) := by decide +kernel
theorem d_X14_sizeAt_36 : decode b_X14_sizeAt 36 = .ok (.aload_n 2, 1) := by decide +kernel
theorem d_X14_sizeAt_37 : decode b_X14_sizeAt 37 = .ok (.getfield 454, 3) := by decide +kernel
theorem d_X14_sizeAt_40 : decode b_X14_sizeAt 40 = .ok (.iconst 1, 1) := by decide +kernel
theorem d_X14_sizeAt_41 : decode b_X14_sizeAt 41 = .ok (.if_icmp .ne 25, 3) := by decide +kernel
theorem d_X14_sizeAt_44 : decode b_X14_sizeAt 44 = .ok (.aload_n 2, 1) := by decide +kernel
theorem d_X14_sizeAt_45 : decode b_X14_sizeAt 45 = .ok (.invokestatic 406, 3) := by decide +kernel
theorem d_X14_sizeAt_48 : decode b_X14_sizeAt 48 = .ok (.ifCond .eq 18, 3) := by decide +kernel
theorem d_X14_sizeAt_51 : decode b_X14_sizeAt 51 = .ok (.aload_n 2, 1) := by decide +kernel
theorem d_X14_sizeAt_52 : decode b_X14_sizeAt 52 = .ok (.getfield 457, 3) := by decide +kernel
theorem d_X14_sizeAt_55 : decode b_X14_sizeAt 55 = .ok (.iconst 1, 1) := by decide +kernel
theorem d_X14_sizeAt_56 : decode b_X14_sizeAt 56 = .ok (.if_icmp .lt 10, 3) := by decide +kernel
theorem d_X14_sizeAt_59 : decode b_X14_sizeAt 59 = .ok (.aload_n 2, 1) := by decide +kernel
theorem d_X14_sizeAt_60 : decode b_X14_sizeAt 60 = .ok (.getfield 457, 3) := by decide +kernel
theorem d_X14_sizeAt_63 : decode b_X14_sizeAt 63 = .ok (.goto 4, 3) := by decide +kernel
theorem d_X14_sizeAt_66 : decode b_X14_sizeAt 66 = .ok (.iconst (-1), 1) := by decide +kernel
theorem d_X14_sizeAt_67 : decode b_X14_sizeAt 67 = .ok (.ireturn, 1) := by decide +kernel
theorem d_X14_stars_0 : decode b_X14_stars 0 = .ok (.iconst 0, 1) := by decide +kernel
theorem d_X14_stars_1 : decode b_X14_stars 1 = .ok (.istore_n 1, 1) := by decide +kernel
theorem d_X14_stars_2 : decode b_X14_stars 2 = .ok (.aload_n 0, 1) := by decide +kernel
theorem d_X14_stars_3 : decode b_X14_stars 3 = .ok (.bipush 38, 2) := by decide +kernel
theorem d_X14_stars_5 : decode b_X14_stars 5 = .ok (.invokevirtual 308, 3) := by decide +kernel
theorem d_X14_stars_8 : decode b_X14_stars 8 = .ok (.ifCond .eq 29, 3) := by decide +kernel
theorem d_X14_stars_11 : decode b_X14_stars 11 = .ok (.iload_n 1, 1) := by decide +kernel
theorem d_X14_stars_12 : decode b_X14_stars 12 = .ok (.iconst 5, 1) := by decide +kernel
theorem d_X14_stars_13 : decode b_X14_stars 13 = .ok (.if_icmp .ne 8, 3) := by decide +kernel
theorem d_X14_stars_16 : decode b_X14_stars 16 = .ok (.aload_n 0, 1) := by decide +kernel
theorem d_X14_stars_17 : decode b_X14_stars 17 = .ok (.invokevirtual 311, 3) := by decide +kernel
theorem d_X14_stars_20 : decode b_X14_stars 20 = .ok (.athrow, 1) := by decide +kernel
theorem d_X14_stars_21 : decode b_X14_stars 21 = .ok (.iinc 1 1, 3) := by decide +kernel
theorem d_X14_stars_24 : decode b_X14_stars 24 = .ok (.aload_n 0, 1) := by decide +kernel
theorem d_X14_stars_25 : decode b_X14_stars 25 = .ok (.dup, 1) := by decide +kernel
theorem d_X14_stars_26 : decode b_X14_stars 26 = .ok (.getfield 288, 3) := by decide +kernel
theorem d_X14_stars_29 : decode b_X14_stars 29 = .ok (.iconst 1, 1) := by decide +kernel
theorem d_X14_stars_30 : decode b_X14_stars 30 = .ok (.iadd, 1) := by decide +kernel
theorem d_X14_stars_31 : decode b_X14_stars 31 = .ok (.putfield 288, 3) := by decide +kernel
theorem d_X14_stars_34 : decode b_X14_stars 34 = .ok (.goto (-32), 3) := by decide +kernel
theorem d_X14_stars_37 : decode b_X14_stars 37 = .ok (.iload_n 1, 1) := by decide +kernel
theorem d_X14_stars_38 : decode b_X14_stars 38 = .ok (.ireturn, 1) := by decide +kernel
theorem d_X14_statement_0 : decode b_X14_statement 0 = .ok (.iload_n 1, 1) := by decide +kernel
theorem d_X14_statement_1 : decode b_X14_statement 1 = .ok (.bipush 25, 2) := by decide +kernel
theorem d_X14_statement_3 : decode b_X14_statement 3 = .ok (.if_icmp .le 8, 3) := by decide +kernel
theorem d_X14_statement_6 : decode b_X14_statement 6 = .ok (.aload_n 0, 1) := by decide +kernel
theorem d_X14_statement_7 : decode b_X14_statement 7 = .ok (.invokevirtual 311, 3) := by decide +kernel
theorem d_X14_statement_10 : decode b_X14_statement 10 = .ok (.athrow, 1) := by decide +kernel
theorem d_X14_statement_11 : decode b_X14_statement 11 = .ok (.aload_n 0, 1) := by decide +kernel
theorem d_X14_statement_12 : decode b_X14_statement 12 = .ok (.getfield 288, 3) := by decide +kernel
theorem d_X14_statement_15 : decode b_X14_statement 15 = .ok (.istore_n 2, 1) := by decide +kernel
theorem d_X14_statement_16 : decode b_X14_statement 16 = .ok (.aload_n 0, 1) := by decide +kernel
theorem d_X14_statement_17 : decode b_X14_statement 17 = .ok (.getfield 13, 3) := by decide +kernel
theorem d_X14_statement_20 : decode b_X14_statement 20 = .ok (.aload_n 0, 1) := by decide +kernel
theorem d_X14_statement_21 : decode b_X14_statement 21 = .ok (.getfield 288, 3) := by decide +kernel
theorem d_X14_statement_24 : decode b_X14_statement 24 = .ok (.iaload, 1) := by decide +kernel
theorem d_X14_statement_25 : decode b_X14_statement 25 = .ok (.tableswitch 369 5 16 #[63, 369, 369, 369, 83, 369, 164, 239, 248, 257, 257, 361], 63) := by decide +kernel
theorem d_X14_statement_88 : decode b_X14_statement 88 = .ok (.aload_n 0, 1) := by decide +kernel
theorem d_X14_statement_89 : decode b_X14_statement 89 = .ok (.dup, 1) := by decide +kernel
theorem d_X14_statement_90 : decode b_X14_statement 90 = .ok (.getfield 288, 3) := by decide +kernel
theorem d_X14_statement_93 : decode b_X14_statement 93 = .ok (.iconst 1, 1) := by decide +kernel
theorem d_X14_statement_94 : decode b_X14_statement 94 = .ok (.iadd, 1) := by decide +kernel
theorem d_X14_statement_95 : decode b_X14_statement 95 = .ok (.putfield 288, 3) := by decide +kernel
theorem d_X14_statement_98 : decode b_X14_statement 98 = .ok (.aload_n 0, 1) := by decide +kernel
theorem d_X14_statement_99 : decode b_X14_statement 99 = .ok (.iconst 0, 1) := by decide +kernel
theorem d_X14_statement_100 : decode b_X14_statement 100 = .ok (.iconst 0, 1) := by decide +kernel
theorem d_X14_statement_101 : decode b_X14_statement 101 = .ok (.iconst 1, 1) := by decide +kernel
theorem d_X14_statement_102 : decode b_X14_statement 102 = .ok (.invokevirtual 542, 3) := by decide +kernel
theorem d_X14_statement_105 : decode b_X14_statement 105 = .ok (.goto 325, 3) := by decide +kernel
theorem d_X14_statement_108 : decode b_X14_statement 108 = .ok (.aload_n 0, 1) := by decide +kernel
theorem d_X14_statement_109 : decode b_X14_statement 109 = .ok (.dup, 1) := by decide +kernel
theorem d_X14_statement_110 : decode b_X14_statement 110 = .ok (.getfield 288, 3) := by decide +kernel
theorem d_X14_statement_113 : decode b_X14_statement 113 = .ok (.iconst 1, 1) := by decide +kernel
theorem d_X14_statement_114 : decode b_X14_statement 114 = .ok (.iadd, 1) := by decide +kernel
theorem d_X14_statement_115 : decode b_X14_statement 115 = .ok (.putfield 288, 3) := by decide +kernel
theorem d_X14_statement_118 : decode b_X14_statement 118 = .ok (.aload_n 0, 1) := by decide +kernel
theorem d_X14_statement_119 : decode b_X14_statement 119 = .ok (.iload_n 2, 1) := by decide +kernel
theorem d_X14_statement_120 : decode b_X14_statement 120 = .ok (.invokevirtual 546, 3) := by decide +kernel
theorem d_X14_statement_123 : decode b_X14_statement 123 = .ok (.aload_n 0, 1) := by decide +kernel
theorem d_X14_statement_124 : decode b_X14_statement 124 = .ok (.bipush 16, 2) := by decide +kernel
theorem d_X14_statement_126 : decode b_X14_statement 126 = .ok (.invokevirtual 425, 3) := by decide +kernel
theorem d_X14_statement_129 : decode b_X14_statement 129 = .ok (.istore_n 3, 1) := by decide +kernel
theorem d_X14_statement_130 : decode b_X14_statement 130 = .ok (.aload_n 0, 1) := by decide +kernel
theorem d_X14_statement_131 : decode b_X14_statement 131 = .ok (.iload_n 1, 1) := by decide +kernel
theorem d_X14_statement_132 : decode b_X14_statement 132 = .ok (.invokevirtual 549, 3) := by decide +kernel
theorem d_X14_statement_135 : decode b_X14_statement 135 = .ok (.aload_n 0, 1) := by decide +kernel
theorem d_X14_statement_136 : decode b_X14_statement 136 = .ok (.bipush 10, 2) := by decide +kernel
theorem d_X14_statement_138 : decode b_X14_statement 138 = .ok (.invokevirtual 552, 3) := by decide +kernel
theorem d_X14_statement_141 : decode b_X14_statement 141 = .ok (.ifCond .ne 11, 3) := by decide +kernel
theorem d_X14_statement_144 : decode b_X14_statement 144 = .ok (.aload_n 0, 1) := by decide +kernel
theorem d_X14_statement_145 : decode b_X14_statement 145 = .ok (.iload_n 3, 1) := by decide +kernel
theorem d_X14_statement_146 : decode b_X14_statement 146 = .ok (.invokevirtual 428, 3) := by decide +kernel
theorem d_X14_statement_149 : decode b_X14_statement 149 = .ok (.goto 281, 3) := by decide +kernel
theorem d_X14_statement_152 : decode b_X14_statement 152 = .ok (.aload_n 0, 1) := by decide +kernel
theorem d_X14_statement_153 : decode b_X14_statement 153 = .ok (.dup, 1) := by decide +kernel
theorem d_X14_statement_154 : decode b_X14_statement 154 = .ok (.getfield 288, 3) := by decide +kernel
theorem d_X14_statement_157 : decode b_X14_statement 157 = .ok (.iconst 1, 1) := by decide +kernel
theorem d_X14_statement_158 : decode b_X14_statement 158 = .ok (.iadd, 1) := by decide +kernel
theorem d_X14_statement_159 : decode b_X14_statement 159 = .ok (.putfield 288, 3) := by decide +kernel
theorem d_X14_statement_162 : decode b_X14_statement 162 = .ok (.aload_n 0, 1) := by decide +kernel
theorem d_X14_statement_163 : decode b_X14_statement 163 = .ok (.bipush 15, 2) := by decide +kernel
theorem d_X14_statement_165 : decode b_X14_statement 165 = .ok (.invokevirtual 425, 3) := by decide +kernel
theorem d_X14_statement_168 : decode b_X14_statement 168 = .ok (.istore 4, 2) := by decide +kernel
theorem d_X14_statement_170 : decode b_X14_statement 170 = .ok (.aload_n 0, 1) := by decide +kernel
theorem d_X14_statement_171 : decode b_X14_statement 171 = .ok (.iload_n 3, 1) := by decide +kernel
theorem d_X14_statement_172 : decode b_X14_statement 172 = .ok (.invokevirtual 428, 3) := by decide +kernel
theorem d_X14_statement_175 : decode b_X14_statement 175 = .ok (.aload_n 0, 1) := by decide +kernel
theorem d_X14_statement_176 : decode b_X14_statement 176 = .ok (.iload_n 1, 1) := by decide +kernel
theorem d_X14_statement_177 : decode b_X14_statement 177 = .ok (.invokevirtual 549, 3) := by decide +kernel
theorem d_X14_statement_180 : decode b_X14_statement 180 = .ok (.aload_n 0, 1) := by decide +kernel
theorem d_X14_statement_181 : decode b_X14_statement 181 = .ok (.iload 4, 2) := by decide +kernel
theorem d_X14_statement_183 : decode b_X14_statement 183 = .ok (.invokevirtual 428, 3) := by decide +kernel
theorem d_X14_statement_186 : decode b_X14_statement 186 = .ok (.goto 244, 3) := by decide +kernel
theorem d_X14_statement_189 : decode b_X14_statement 189 = .ok (.aload_n 0, 1) := by decide +kernel
theorem d_X14_statement_190 : decode b_X14_statement 190 = .ok (.dup, 1) := by decide +kernel
theorem d_X14_statement_191 : decode b_X14_statement 191 = .ok (.getfield 288, 3) := by decide +kernel
theorem d_X14_statement_194 : decode b_X14_statement 194 = .ok (.iconst 1, 1) := by decide +kernel
theorem d_X14_statement_195 : decode b_X14_statement 195 = .ok (.iadd, 1) := by decide +kernel
theorem d_X14_statement_196 : decode b_X14_statement 196 = .ok (.putfield 288, 3) := by decide +kernel
theorem d_X14_statement_199 : decode b_X14_statement 199 = .ok (.aload_n 0, 1) := by decide +kernel
theorem d_X14_statement_200 : decode b_X14_statement 200 = .ok (.getfield 315, 3) := by decide +kernel
theorem d_X14_statement_203 : decode b_X14_statement 203 = .ok (.istore_n 3, 1) := by decide +kernel
theorem d_X14_statement_204 : decode b_X14_statement 204 = .ok (.aload_n 0, 1) := by decide +kernel
theorem d_X14_statement_205 : decode b_X14_statement 205 = .ok (.iload_n 2, 1) := by decide +kernel
theorem d_X14_statement_206 : decode b_X14_statement 206 = .ok (.invokevirtual 546, 3) := by decide +kernel
theorem d_X14_statement_209 : decode b_X14_statement 209 = .ok (.aload_n 0, 1) := by decide +kernel
theorem d_X14_statement_210 : decode b_X14_statement 210 = .ok (.bipush 16, 2) := by decide +kernel
theorem d_X14_statement_212 : decode b_X14_statement 212 = .ok (.invokevirtual 425, 3) := by decide +kernel
theorem d_X14_statement_215 : decode b_X14_statement 215 = .ok (.istore 4, 2) := by decide +kernel
theorem d_X14_statement_217 : decode b_X14_statement 217 = .ok (.aload_n 0, 1) := by decide +kernel
theorem d_X14_statement_218 : decode b_X14_statement 218 = .ok (.iload_n 1, 1) := by decide +kernel
theorem d_X14_statement_219 : decode b_X14_statement 219 = .ok (.iload_n 2, 1) := by decide +kernel
theorem d_X14_statement_220 : decode b_X14_statement 220 = .ok (.iload_n 3, 1) := by decide +kernel
theorem d_X14_statement_221 : decode b_X14_statement 221 = .ok (.invokevirtual 555, 3) := by decide +kernel
theorem d_X14_statement_224 : decode b_X14_statement 224 = .ok (.aload_n 0, 1) := by decide +kernel
theorem d_X14_statement_225 : decode b_X14_statement 225 = .ok (.getfield 558, 3) := by decide +kernel
theorem d_X14_statement_228 : decode b_X14_statement 228 = .ok (.istore 5, 2) := by decide +kernel
theorem d_X14_statement_230 : decode b_X14_statement 230 = .ok (.aload_n 0, 1) := by decide +kernel
theorem d_X14_statement_231 : decode b_X14_statement 231 = .ok (.aload_n 0, 1) := by decide +kernel
theorem d_X14_statement_232 : decode b_X14_statement 232 = .ok (.getfield 561, 3) := by decide +kernel
theorem d_X14_statement_235 : decode b_X14_statement 235 = .ok (.putfield 558, 3) := by decide +kernel
theorem d_X14_statement_238 : decode b_X14_statement 238 = .ok (.aload_n 0, 1) := by decide +kernel
theorem d_X14_statement_239 : decode b_X14_statement 239 = .ok (.bipush 15, 2) := by decide +kernel
theorem d_X14_statement_241 : decode b_X14_statement 241 = .ok (.iload_n 3, 1) := by decide +kernel
theorem d_X14_statement_242 : decode b_X14_statement 242 = .ok (.invokevirtual 322, 3) := by decide +kernel
theorem d_X14_statement_245 : decode b_X14_statement 245 = .ok (.aload_n 0, 1) := by decide +kernel
theorem d_X14_statement_246 : decode b_X14_statement 246 = .ok (.iload 4, 2) := by decide +kernel
theorem d_X14_statement_248 : decode b_X14_statement 248 = .ok (.invokevirtual 428, 3) := by decide +kernel
theorem d_X14_statement_251 : decode b_X14_statement 251 = .ok (.aload_n 0, 1) := by decide +kernel
theorem d_X14_statement_252 : decode b_X14_statement 252 = .ok (.iload 5, 2) := by decide +kernel
theorem d_X14_statement_254 : decode b_X14_statement 254 = .ok (.aload_n 0, 1) := by decide +kernel
theorem d_X14_statement_255 : decode b_X14_statement 255 = .ok (.getfield 315, 3) := by decide +kernel
theorem d_X14_statement_258 : decode b_X14_statement 258 = .ok (.invokevirtual 564, 3) := by decide +kernel
theorem d_X14_statement_261 : decode b_X14_statement 261 = .ok (.goto 169, 3) := by decide +kernel
theorem d_X14_statement_264 : decode b_X14_statement 264 = .ok (.aload_n 0, 1) := by decide +kernel
theorem d_X14_statement_265 : decode b_X14_statement 265 = .ok (.iload_n 1, 1) := by decide +kernel
theorem d_X14_statement_266 : decode b_X14_statement 266 = .ok (.iload_n 2, 1) := by decide +kernel
theorem d_X14_statement_267 : decode b_X14_statement 267 = .ok (.invokevirtual 567, 3) := by decide +kernel
theorem d_X14_statement_270 : decode b_X14_statement 270 = .ok (.goto 160, 3) := by decide +kernel
theorem d_X14_statement_273 : decode b_X14_statement 273 = .ok (.aload_n 0, 1) := by decide +kernel
theorem d_X14_statement_274 : decode b_X14_statement 274 = .ok (.iload_n 1, 1) := by decide +kernel
theorem d_X14_statement_275 : decode b_X14_statement 275 = .ok (.iload_n 2, 1) := by decide +kernel
theorem d_X14_statement_276 : decode b_X14_statement 276 = .ok (.invokevirtual 570, 3) := by decide +kernel
theorem d_X14_statement_279 : decode b_X14_statement 279 = .ok (.goto 151, 3) := by decide +kernel
theorem d_X14_statement_282 : decode b_X14_statement 282 = .ok (.aload_n 0, 1) := by decide +kernel
theorem d_X14_statement_283 : decode b_X14_statement 283 = .ok (.getfield 13, 3) := by decide +kernel
theorem d_X14_statement_286 : decode b_X14_statement 286 = .ok (.aload_n 0, 1) := by decide +kernel
theorem d_X14_statement_287 : decode b_X14_statement 287 = .ok (.getfield 288, 3) := by decide +kernel
theorem d_X14_statement_290 : decode b_X14_statement 290 = .ok (.iaload, 1) := by decide +kernel
theorem d_X14_statement_291 : decode b_X14_statement 291 = .ok (.bipush 14, 2) := by decide +kernel
theorem d_X14_statement_293 : decode b_X14_statement 293 = .ok (.if_icmp .ne 7, 3) := by decide +kernel
theorem d_X14_statement_296 : decode b_X14_statement 296 = .ok (.iconst 1, 1) := by decide +kernel
theorem d_X14_statement_297 : decode b_X14_statement 297 = .ok (.goto 4, 3) := by decide +kernel
theorem d_X14_statement_300 : decode b_X14_statement 300 = .ok (.iconst 0, 1) := by decide +kernel
theorem d_X14_statement_301 : decode b_X14_statement 301 = .ok (.istore_n 3, 1) := by decide +kernel
theorem d_X14_statement_302 : decode b_X14_statement 302 = .ok (.aload_n 0, 1) := by decide +kernel
theorem d_X14_statement_303 : decode b_X14_statement 303 = .ok (.dup, 1) := by decide +kernel
theorem d_X14_statement_304 : decode b_X14_statement 304 = .ok (.getfield 288, 3) := by decide +kernel
theorem d_X14_statement_307 : decode b_X14_statement 307 = .ok (.iconst 1, 1) := by decide +kernel
theorem d_X14_statement_308 : decode b_X14_statement 308 = .ok (.iadd, 1) := by decide +kernel
theorem d_X14_statement_309 : decode b_X14_statement 309 = .ok (.putfield 288, 3) := by decide +kernel
theorem d_X14_statement_312 : decode b_X14_statement 312 = .ok (.aload_n 0, 1) := by decide +kernel
theorem d_X14_statement_313 : decode b_X14_statement 313 = .ok (.bipush 27, 2) := by decide +kernel
theorem d_X14_statement_315 : decode b_X14_statement 315 = .ok (.invokevirtual 497, 3) := by decide +kernel
theorem d_X14_statement_318 : decode b_X14_statement 318 = .ok (.aload_n 0, 1) := by decide +kernel
theorem d_X14_statement_319 : decode b_X14_statement 319 = .ok (.aload_n 0, 1) := by decide +kernel
theorem d_X14_statement_320 : decode b_X14_statement 320 = .ok (.getfield 573, 3) := by decide +kernel
theorem d_X14_statement_323 : decode b_X14_statement 323 = .ok (.ifCond .le 7, 3) := by decide +kernel
theorem d_X14_statement_326 : decode b_X14_statement 326 = .ok (.iconst 1, 1) := by decide +kernel
theorem d_X14_statement_327 : decode b_X14_statement 327 = .ok (.goto 4, 3) := by decide +kernel
theorem d_X14_statement_330 : decode b_X14_statement 330 = .ok (.iconst 0, 1) := by decide +kernel
theorem d_X14_statement_331 : decode b_X14_statement 331 = .ok (.iload_n 2, 1) := by decide +kernel
theorem d_X14_statement_332 : decode b_X14_statement 332 = .ok (.invokevirtual 410, 3) := by decide +kernel
theorem d_X14_statement_335 : decode b_X14_statement 335 = .ok (.aload_n 0, 1) := by decide +kernel
theorem d_X14_statement_336 : decode b_X14_statement 336 = .ok (.bipush 15, 2) := by decide +kernel
theorem d_X14_statement_338 : decode b_X14_statement 338 = .ok (.iload_n 3, 1) := by decide +kernel
theorem d_X14_statement_339 : decode b_X14_statement 339 = .ok (.ifCond .eq 10, 3) := by decide +kernel
theorem d_X14_statement_342 : decode b_X14_statement 342 = .ok (.aload_n 0, 1) := by decide +kernel
theorem d_X14_statement_343 : decode b_X14_statement 343 = .ok (.getfield 558, 3) := by decide +kernel
theorem d_X14_statement_346 : decode b_X14_statement 346 = .ok (.goto 7, 3) := by decide +kernel
theorem d_X14_statement_349 : decode b_X14_statement 349 = .ok (.aload_n 0, 1) := by decide +kernel
theorem d_X14_statement_350 : decode b_X14_statement 350 = .ok (.getfield 576, 3) := by decide +kernel
theorem d_X14_statement_353 : decode b_X14_statement 353 = .ok (.invokevirtual 322, 3) := by decide +kernel
theorem d_X14_statement_356 : decode b_X14_statement 356 = .ok (.iload_n 3, 1) := by decide +kernel
theorem d_X14_statement_357 : decode b_X14_statement 357 = .ok (.ifCond .eq 16, 3) := by decide +kernel
theorem d_X14_statement_360 : decode b_X14_statement 360 = .ok (.aload_n 0, 1) := by decide +kernel
theorem d_X14_statement_361 : decode b_X14_statement 361 = .ok (.aload_n 0, 1) := by decide +kernel
theorem d_X14_statement_362 : decode b_X14_statement 362 = .ok (.getfield 315, 3) := by decide +kernel
theorem d_X14_statement_365 : decode b_X14_statement 365 = .ok (.iconst 1, 1) := by decide +kernel
theorem d_X14_statement_366 : decode b_X14_statement 366 = .ok (.isub, 1) := by decide +kernel
theorem d_X14_statement_367 : decode b_X14_statement 367 = .ok (.putfield 558, 3) := by decide +kernel
theorem d_X14_statement_370 : decode b_X14_statement 370 = .ok (.goto 60, 3) := by decide +kernel
theorem d_X14_statement_373 : decode b_X14_statement 373 = .ok (.aload_n 0, 1) := by decide +kernel
theorem d_X14_statement_374 : decode b_X14_statement 374 = .ok (.aload_n 0, 1) := by decide +kernel
theorem d_X14_statement_375 : decode b_X14_statement 375 = .ok (.getfield 315, 3) := by decide +kernel
theorem d_X14_statement_378 : decode b_X14_statement 378 = .ok (.iconst 1, 1) := by decide +kernel
theorem d_X14_statement_379 : decode b_X14_statement 379 = .ok (.isub, 1) := by decide +kernel
theorem d_X14_statement_380 : decode b_X14_statement 380 = .ok (.putfield 576, 3) := by decide +kernel
theorem d_X14_statement_383 : decode b_X14_statement 383 = .ok (.goto 47, 3) := by decide +kernel
theorem d_X14_statement_386 : decode b_X14_statement 386 = .ok (.aload_n 0, 1) := by decide +kernel
theorem d_X14_statement_387 : decode b_X14_statement 387 = .ok (.iload_n 2, 1) := by decide +kernel
theorem d_X14_statement_388 : decode b_X14_statement 388 = .ok (.invokevirtual 579, 3) := by decide +kernel
theorem d_X14_statement_391 : decode b_X14_statement 391 = .ok (.goto 39, 3) := by decide +kernel
theorem d_X14_statement_394 : decode b_X14_statement 394 = .ok (.aload_n 0, 1) := by decide +kernel
theorem d_X14_statement_395 : decode b_X14_statement 395 = .ok (.bipush 22, 2) := by decide +kernel
theorem d_X14_statement_397 : decode b_X14_statement 397 = .ok (.invokevirtual 308, 3) := by decide +kernel
theorem d_X14_statement_400 : decode b_X14_statement 400 = .ok (.ifCond .eq 11, 3) := by decide +kernel
theorem d_X14_statement_403 : decode b_X14_statement 403 = .ok (.aload_n 0, 1) := by decide +kernel
theorem d_X14_statement_404 : decode b_X14_statement 404 = .ok (.iload_n 1, 1) := by decide +kernel
theorem d_X14_statement_405 : decode b_X14_statement 405 = .ok (.invokevirtual 582, 3) := by decide +kernel
theorem d_X14_statement_408 : decode b_X14_statement 408 = .ok (.goto 22, 3) := by decide +kernel
theorem d_X14_statement_411 : decode b_X14_statement 411 = .ok (.aload_n 0, 1) := by decide +kernel
theorem d_X14_statement_412 : decode b_X14_statement 412 = .ok (.bipush 27, 2) := by decide +kernel
theorem d_X14_statement_414 : decode b_X14_statement 414 = .ok (.invokevirtual 308, 3) := by decide +kernel
theorem d_X14_statement_417 : decode b_X14_statement 417 = .ok (.ifCond .ne 7, 3) := by decide +kernel
theorem d_X14_statement_420 : decode b_X14_statement 420 = .ok (.aload_n 0, 1) := by decide +kernel
theorem d_X14_statement_421 : decode b_X14_statement 421 = .ok (.invokevirtual 585, 3) := by decide +kernel
theorem d_X14_statement_424 : decode b_X14_statement 424 = .ok (.aload_n 0, 1) := by decide +kernel
theorem d_X14_statement_425 : decode b_X14_statement 425 = .ok (.bipush 27, 2) := by decide +kernel
theorem d_X14_statement_427 : decode b_X14_statement 427 = .ok (.invokevirtual 497, 3) := by decide +kernel
theorem d_X14_statement_430 : decode b_X14_statement 430 = .ok (.return_, 1) := by decide +kernel
theorem d_X14_step_0 : decode b_X14_step 0 = .ok (.aload_n 0, 1) := by decide +kernel
theorem d_X14_step_1 : decode b_X14_step 1 = .ok (.getfield 41, 3) := by decide +kernel
theorem d_X14_step_4 : decode b_X14_step 4 = .ok (.iload_n 1, 1) := by decide +kernel
theorem d_X14_step_5 : decode b_X14_step 5 = .ok (.iconst 1, 1) := by decide +kernel
theorem d_X14_step_6 : decode b_X14_step 6 = .ok (.iadd, 1) := by decide +kernel
theorem d_X14_step_7 : decode b_X14_step 7 = .ok (.iaload, 1) := by decide +kernel
theorem d_X14_step_8 : decode b_X14_step 8 = .ok (.istore_n 2, 1) := by decide +kernel
theorem d_X14_step_9 : decode b_X14_step 9 = .ok (.aload_n 0, 1) := by decide +kernel
theorem d_X14_step_10 : decode b_X14_step 10 = .ok (.getfield 41, 3) := by decide +kernel
theorem d_X14_step_13 : decode b_X14_step 13 = .ok (.iload_n 1, 1) := by decide +kernel
theorem d_X14_step_14 : decode b_X14_step 14 = .ok (.iaload, 1) := by decide +kernel
theorem d_X14_step_15 : decode b_X14_step 15 = .ok (.tableswitch 427 0 24 #[113, 122, 158, 189, 202, 427, 427, 232, 252, 261, 280, 427, 294, 307, 321, 361, 363, 378, 393, 427, 427, 427, 427, 427, 341], 113) := by decide +kernel
theorem d_X14_step_128 : decode b_X14_step 128 = .ok (.aload_n 0, 1) := by decide +kernel
theorem d_X14_step_129 : decode b_X14_step 129 = .ok (.iload_n 2, 1) := by decide +kernel
theorem d_X14_step_130 : decode b_X14_step 130 = .ok (.invokevirtual 796, 3) := by decide +kernel
theorem d_X14_step_133 : decode b_X14_step 133 = .ok (.iload_n 1, 1) := by decide +kernel
theorem d_X14_step_134 : decode b_X14_step 134 = .ok (.iconst 2, 1) := by decide +kernel
theorem d_X14_step_135 : decode b_X14_step 135 = .ok (.iadd, 1) := by decide +kernel
theorem d_X14_step_136 : decode b_X14_step 136 = .ok (.ireturn, 1) := by decide +kernel
theorem d_X14_step_137 : decode b_X14_step 137 = .ok (.aload_n 0, 1) := by decide +kernel
theorem d_X14_step_138 : decode b_X14_step 138 = .ok (.aload_n 0, 1) := by decide +kernel
theorem d_X14_step_139 : decode b_X14_step 139 = .ok (.getfield 159, 3) := by decide +kernel
theorem d_X14_step_142 : decode b_X14_step 142 = .ok (.aload_n 0, 1) := by decide +kernel
theorem d_X14_step_143 : decode b_X14_step 143 = .ok (.getfield 86, 3) := by decide +kernel
theorem d_X14_step_146 : decode b_X14_step 146 = .ok (.aload_n 0, 1) := by decide +kernel
theorem d_X14_step_147 : decode b_X14_step 147 = .ok (.getfield 102, 3) := by decide +kernel
theorem d_X14_step_150 : decode b_X14_step 150 = .ok (.aload_n 0, 1) := by decide +kernel
theorem d_X14_step_151 : decode b_X14_step 151 = .ok (.getfield 182, 3) := by decide +kernel
theorem d_X14_step_154 : decode b_X14_step 154 = .ok (.aload_n 0, 1) := by decide +kernel
theorem d_X14_step_155 : decode b_X14_step 155 = .ok (.getfield 771, 3) := by decide +kernel
theorem d_X14_step_158 : decode b_X14_step 158 = .ok (.iconst 1, 1) := by decide +kernel
theorem d_X14_step_159 : decode b_X14_step 159 = .ok (.isub, 1) := by decide +kernel
theorem d_X14_step_160 : decode b_X14_step 160 = .ok (.iaload, 1) := by decide +kernel
theorem d_X14_step_161 : decode b_X14_step 161 = .ok (.iaload, 1) := by decide +kernel
theorem d_X14_step_162 : decode b_X14_step 162 = .ok (.iaload, 1) := by decide +kernel
theorem d_X14_step_163 : decode b_X14_step 163 = .ok (.iload_n 2, 1) := by decide +kernel
theorem d_X14_step_164 : decode b_X14_step 164 = .ok (.iadd, 1) := by decide +kernel
theorem d_X14_step_165 : decode b_X14_step 165 = .ok (.iaload, 1) := by decide +kernel
theorem d_X14_step_166 : decode b_X14_step 166 = .ok (.invokevirtual 796, 3) := by decide +kernel
theorem d_X14_step_169 : decode b_X14_step 169 = .ok (.iload_n 1, 1) := by decide +kernel
theorem d_X14_step_170 : decode b_X14_step 170 = .ok (.iconst 2, 1) := by decide +kernel
theorem d_X14_step_171 : decode b_X14_step 171 = .ok (.iadd, 1) := by decide +kernel
theorem d_X14_step_172 : decode b_X14_step 172 = .ok (.ireturn, 1) := by decide +kernel
theorem d_X14_step_173 : decode b_X14_step 173 = .ok (.aload_n 0, 1) := by decide +kernel
theorem d_X14_step_174 : decode b_X14_step 174 = .ok (.aload_n 0, 1) := by decide +kernel
theorem d_X14_step_175 : decode b_X14_step 175 = .ok (.getfield 162, 3) := by decide +kernel
theorem d_X14_step_178 : decode b_X14_step 178 = .ok (.aload_n 0, 1) := by decide +kernel
theorem d_X14_step_179 : decode b_X14_step 179 = .ok (.getfield 102, 3) := by decide +kernel
theorem d_X14_step_182 : decode b_X14_step 182 = .ok (.aload_n 0, 1) := by decide +kernel
theorem d_X14_step_183 : decode b_X14_step 183 = .ok (.getfield 182, 3) := by decide +kernel
theorem d_X14_step_186 : decode b_X14_step 186 = .ok (.aload_n 0, 1) := by decide +kernel
theorem d_X14_step_187 : decode b_X14_step 187 = .ok (.getfield 771, 3) := by decide +kernel
theorem d_X14_step_190 : decode b_X14_step 190 = .ok (.iconst 1, 1) := by decide +kernel
theorem d_X14_step_191 : decode b_X14_step 191 = .ok (.isub, 1) := by decide +kernel
theorem d_X14_step_192 : decode b_X14_step 192 = .ok (.iaload, 1) := by decide +kernel
theorem d_X14_step_193 : decode b_X14_step 193 = .ok (.iaload, 1) := by decide +kernel
theorem d_X14_step_194 : decode b_X14_step 194 = .ok (.iaload, 1) := by decide +kernel
theorem d_X14_step_195 : decode b_X14_step 195 = .ok (.iload_n 2, 1) := by decide +kernel
theorem d_X14_step_196 : decode b_X14_step 196 = .ok (.iadd, 1) := by decide +kernel
theorem d_X14_step_197 : decode b_X14_step 197 = .ok (.invokevirtual 796, 3) := by decide +kernel
theorem d_X14_step_200 : decode b_X14_step 200 = .ok (.iload_n 1, 1) := by decide +kernel
theorem d_X14_step_201 : decode b_X14_step 201 = .ok (.iconst 2, 1) := by decide +kernel
theorem d_X14_step_202 : decode b_X14_step 202 = .ok (.iadd, 1) := by decide +kernel
theorem d_X14_step_203 : decode b_X14_step 203 = .ok (.ireturn, 1) := by decide +kernel
theorem d_X14_step_204 : decode b_X14_step 204 = .ok (.aload_n 0, 1) := by decide +kernel
theorem d_X14_step_205 : decode b_X14_step 205 = .ok (.aload_n 0, 1) := by decide +kernel
theorem d_X14_step_206 : decode b_X14_step 206 = .ok (.iload_n 2, 1) := by decide +kernel
theorem d_X14_step_207 : decode b_X14_step 207 = .ok (.invokevirtual 799, 3) := by decide +kernel
theorem d_X14_step_210 : decode b_X14_step 210 = .ok (.invokevirtual 796, 3) := by decide +kernel
theorem d_X14_step_213 : decode b_X14_step 213 = .ok (.iload_n 1, 1) := by decide +kernel
theorem d_X14_step_214 : decode b_X14_step 214 = .ok (.iconst 2, 1) := by decide +kernel
theorem d_X14_step_215 : decode b_X14_step 215 = .ok (.iadd, 1) := by decide +kernel
theorem d_X14_step_216 : decode b_X14_step 216 = .ok (.ireturn, 1) := by decide +kernel
theorem d_X14_step_217 : decode b_X14_step 217 = .ok (.aload_n 0, 1) := by decide +kernel
theorem d_X14_step_218 : decode b_X14_step 218 = .ok (.aload_n 0, 1) := by decide +kernel
theorem d_X14_step_219 : decode b_X14_step 219 = .ok (.getfield 179, 3) := by decide +kernel
theorem d_X14_step_222 : decode b_X14_step 222 = .ok (.aload_n 0, 1) := by decide +kernel
theorem d_X14_step_223 : decode b_X14_step 223 = .ok (.getfield 771, 3) := by decide +kernel
theorem d_X14_step_226 : decode b_X14_step 226 = .ok (.iconst 1, 1) := by decide +kernel
theorem d_X14_step_227 : decode b_X14_step 227 = .ok (.isub, 1) := by decide +kernel
theorem d_X14_step_228 : decode b_X14_step 228 = .ok (.iaload, 1) := by decide +kernel
theorem d_X14_step_229 : decode b_X14_step 229 = .ok (.aload_n 0, 1) := by decide +kernel
theorem d_X14_step_230 : decode b_X14_step 230 = .ok (.getfield 41, 3) := by decide +kernel
theorem d_X14_step_233 : decode b_X14_step 233 = .ok (.aload_n 0, 1) := by decide +kernel
theorem d_X14_step_234 : decode b_X14_step 234 = .ok (.iload_n 2, 1) := by decide +kernel
theorem d_X14_step_235 : decode b_X14_step 235 = .ok (.invokevirtual 793, 3) := by decide +kernel
theorem d_X14_step_238 : decode b_X14_step 238 = .ok (.iaload, 1) := by decide +kernel
theorem d_X14_step_239 : decode b_X14_step 239 = .ok (.iadd, 1) := by decide +kernel
theorem d_X14_step_240 : decode b_X14_step 240 = .ok (.invokevirtual 796, 3) := by decide +kernel
theorem d_X14_step_243 : decode b_X14_step 243 = .ok (.iload_n 1, 1) := by decide +kernel
theorem d_X14_step_244 : decode b_X14_step 244 = .ok (.iconst 2, 1) := by decide +kernel
theorem d_X14_step_245 : decode b_X14_step 245 = .ok (.iadd, 1) := by decide +kernel
theorem d_X14_step_246 : decode b_X14_step 246 = .ok (.ireturn, 1) := by decide +kernel
theorem d_X14_step_247 : decode b_X14_step 247 = .ok (.aload_n 0, 1) := by decide +kernel
theorem d_X14_step_248 : decode b_X14_step 248 = .ok (.iload_n 2, 1) := by decide +kernel
theorem d_X14_step_249 : decode b_X14_step 249 = .ok (.aload_n 0, 1) := by decide +kernel
theorem d_X14_step_250 : decode b_X14_step 250 = .ok (.getfield 173, 3) := by decide +kernel
theorem d_X14_step_253 : decode b_X14_step 253 = .ok (.aload_n 0, 1) := by decide +kernel
theorem d_X14_step_254 : decode b_X14_step 254 = .ok (.getfield 768, 3) := by decide +kernel
theorem d_X14_step_257 : decode b_X14_step 257 = .ok (.iconst 1, 1) := by decide +kernel
theorem d_X14_step_258 : decode b_X14_step 258 = .ok (.isub, 1) := by decide +kernel
theorem d_X14_step_259 : decode b_X14_step 259 = .ok (.iaload, 1) := by decide +kernel
theorem d_X14_step_260 : decode b_X14_step 260 = .ok (.invokevirtual 790, 3) := by decide +kernel
theorem d_X14_step_263 : decode b_X14_step 263 = .ok (.iload_n 1, 1) := by decide +kernel
theorem d_X14_step_264 : decode b_X14_step 264 = .ok (.iconst 2, 1) := by decide +kernel
theorem d_X14_step_265 : decode b_X14_step 265 = .ok (.iadd, 1) := by decide +kernel
theorem d_X14_step_266 : decode b_X14_step 266 = .ok (.ireturn, 1) := by decide +kernel
theorem d_X14_step_267 : decode b_X14_step 267 = .ok (.aload_n 0, 1) := by decide +kernel
theorem d_X14_step_268 : decode b_X14_step 268 = .ok (.iload_n 2, 1) := by decide +kernel
theorem d_X14_step_269 : decode b_X14_step 269 = .ok (.invokevirtual 802, 3) := by decide +kernel
theorem d_X14_step_272 : decode b_X14_step 272 = .ok (.iload_n 1, 1) := by decide +kernel
theorem d_X14_step_273 : decode b_X14_step 273 = .ok (.iconst 2, 1) := by decide +kernel
theorem d_X14_step_274 : decode b_X14_step 274 = .ok (.iadd, 1) := by decide +kernel
theorem d_X14_step_275 : decode b_X14_step 275 = .ok (.ireturn, 1) := by decide +kernel
theorem d_X14_step_276 : decode b_X14_step 276 = .ok (.aload_n 0, 1) := by decide +kernel
theorem d_X14_step_277 : decode b_X14_step 277 = .ok (.aload_n 0, 1) := by decide +kernel
theorem d_X14_step_278 : decode b_X14_step 278 = .ok (.getfield 173, 3) := by decide +kernel
theorem d_X14_step_281 : decode b_X14_step 281 = .ok (.aload_n 0, 1) := by decide +kernel
theorem d_X14_step_282 : decode b_X14_step 282 = .ok (.getfield 768, 3) := by decide +kernel
theorem d_X14_step_285 : decode b_X14_step 285 = .ok (.iconst 1, 1) := by decide +kernel
theorem d_X14_step_286 : decode b_X14_step 286 = .ok (.isub, 1) := by decide +kernel
theorem d_X14_step_287 : decode b_X14_step 287 = .ok (.iaload, 1) := by decide +kernel
theorem d_X14_step_288 : decode b_X14_step 288 = .ok (.invokevirtual 796, 3) := by decide +kernel
theorem d_X14_step_291 : decode b_X14_step 291 = .ok (.iload_n 1, 1) := by decide +kernel
theorem d_X14_step_292 : decode b_X14_step 292 = .ok (.iconst 1, 1) := by decide +kernel
theorem d_X14_step_293 : decode b_X14_step 293 = .ok (.iadd, 1) := by decide +kernel
theorem d_X14_step_294 : decode b_X14_step 294 = .ok (.ireturn, 1) := by decide +kernel
theorem d_X14_step_295 : decode b_X14_step 295 = .ok (.aload_n 0, 1) := by decide +kernel
theorem d_X14_step_296 : decode b_X14_step 296 = .ok (.dup, 1) := by decide +kernel
theorem d_X14_step_297 : decode b_X14_step 297 = .ok (.getfield 768, 3) := by decide +kernel
theorem d_X14_step_300 : decode b_X14_step 300 = .ok (.iconst 1, 1) := by decide +kernel
theorem d_X14_step_301 : decode b_X14_step 301 = .ok (.isub, 1) := by decide +kernel
theorem d_X14_step_302 : decode b_X14_step 302 = .ok (.putfield 768, 3) := by decide +kernel
theorem d_X14_step_305 : decode b_X14_step 305 = .ok (.iload_n 1, 1) := by decide +kernel
theorem d_X14_step_306 : decode b_X14_step 306 = .ok (.iconst 1, 1) := by decide +kernel
theorem d_X14_step_307 : decode b_X14_step 307 = .ok (.iadd, 1) := by decide +kernel
theorem d_X14_step_308 : decode b_X14_step 308 = .ok (.ireturn, 1) := by decide +kernel
theorem d_X14_step_309 : decode b_X14_step 309 = .ok (.aload_n 0, 1) := by decide +kernel
theorem d_X14_step_310 : decode b_X14_step 310 = .ok (.aload_n 0, 1) := by decide +kernel
theorem d_X14_step_311 : decode b_X14_step 311 = .ok (.invokevirtual 805, 3) := by decide +kernel
theorem d_X14_step_314 : decode b_X14_step 314 = .ok (.ineg, 1) := by decide +kernel
theorem d_X14_step_315 : decode b_X14_step 315 = .ok (.invokevirtual 796, 3) := by decide +kernel
theorem d_X14_step_318 : decode b_X14_step 318 = .ok (.iload_n 1, 1) := by decide +kernel
theorem d_X14_step_319 : decode b_X14_step 319 = .ok (.iconst 1, 1) := by decide +kernel
theorem d_X14_step_320 : decode b_X14_step 320 = .ok (.iadd, 1) := by decide +kernel
theorem d_X14_step_321 : decode b_X14_step 321 = .ok (.ireturn, 1) := by decide +kernel
theorem d_X14_step_322 : decode b_X14_step 322 = .ok (.aload_n 0, 1) := by decide +kernel
theorem d_X14_step_323 : decode b_X14_step 323 = .ok (.aload_n 0, 1) := by decide +kernel
theorem d_X14_step_324 : decode b_X14_step 324 = .ok (.invokevirtual 805, 3) := by decide +kernel
theorem d_X14_step_327 : decode b_X14_step 327 = .ok (.iconst (-1), 1) := by decide +kernel
theorem d_X14_step_328 : decode b_X14_step 328 = .ok (.ixor, 1) := by decide +kernel
theorem d_X14_step_329 : decode b_X14_step 329 = .ok (.invokevirtual 796, 3) := by decide +kernel
theorem d_X14_step_332 : decode b_X14_step 332 = .ok (.iload_n 1, 1) := by decide +kernel
theorem d_X14_step_333 : decode b_X14_step 333 = .ok (.iconst 1, 1) := by decide +kernel
theorem d_X14_step_334 : decode b_X14_step 334 = .ok (.iadd, 1) := by decide +kernel
theorem d_X14_step_335 : decode b_X14_step 335 = .ok (.ireturn, 1) := by decide +kernel
theorem d_X14_step_336 : decode b_X14_step 336 = .ok (.aload_n 0, 1) := by decide +kernel
theorem d_X14_step_337 : decode b_X14_step 337 = .ok (.aload_n 0, 1) := by decide +kernel
theorem d_X14_step_338 : decode b_X14_step 338 = .ok (.invokevirtual 805, 3) := by decide +kernel
theorem d_X14_step_341 : decode b_X14_step 341 = .ok (.ifCond .ne 7, 3) := by decide +kernel
theorem d_X14_step_344 : decode b_X14_step 344 = .ok (.iconst 1, 1) := by decide +kernel
theorem d_X14_step_345 : decode b_X14_step 345 = .ok (.goto 4, 3) := by decide +kernel
theorem d_X14_step_348 : decode b_X14_step 348 = .ok (.iconst 0, 1) := by decide +kernel
theorem d_X14_step_349 : decode b_X14_step 349 = .ok (.invokevirtual 796, 3) := by decide +kernel
theorem d_X14_step_352 : decode b_X14_step 352 = .ok (.iload_n 1, 1) := by decide +kernel
theorem d_X14_step_353 : decode b_X14_step 353 = .ok (.iconst 1, 1) := by decide +kernel
theorem d_X14_step_354 : decode b_X14_step 354 = .ok (.iadd, 1) := by decide +kernel
theorem d_X14_step_355 : decode b_X14_step 355 = .ok (.ireturn, 1) := by decide +kernel
theorem d_X14_step_356 : decode b_X14_step 356 = .ok (.aload_n 0, 1) := by decide +kernel
theorem d_X14_step_357 : decode b_X14_step 357 = .ok (.aload_n 0, 1) := by decide +kernel
theorem d_X14_step_358 : decode b_X14_step 358 = .ok (.invokevirtual 805, 3) := by decide +kernel
theorem d_X14_step_361 : decode b_X14_step 361 = .ok (.ifCond .ne 7, 3) := by decide +kernel
theorem d_X14_step_364 : decode b_X14_step 364 = .ok (.iconst 0, 1) := by decide +kernel
theorem d_X14_step_365 : decode b_X14_step 365 = .ok (.goto 4, 3) := by decide +kernel
theorem d_X14_step_368 : decode b_X14_step 368 = .ok (.iconst 1, 1) := by decide +kernel
theorem d_X14_step_369 : decode b_X14_step 369 = .ok (.invokevirtual 796, 3) := by decide +kernel
theorem d_X14_step_372 : decode b_X14_step 372 = .ok (.iload_n 1, 1) := by decide +kernel
theorem d_X14_step_373 : decode b_X14_step 373 = .ok (.iconst 1, 1) := by decide +kernel
theorem d_X14_step_374 : decode b_X14_step 374 = .ok (.iadd, 1) := by decide +kernel
theorem d_X14_step_375 : decode b_X14_step 375 = .ok (.ireturn, 1) := by decide +kernel
theorem d_X14_step_376 : decode b_X14_step 376 = .ok (.iload_n 2, 1) := by decide +kernel
theorem d_X14_step_377 : decode b_X14_step 377 = .ok (.ireturn, 1) := by decide +kernel
theorem d_X14_step_378 : decode b_X14_step 378 = .ok (.aload_n 0, 1) := by decide +kernel
theorem d_X14_step_379 : decode b_X14_step 379 = .ok (.invokevirtual 805, 3) := by decide +kernel
theorem d_X14_step_382 : decode b_X14_step 382 = .ok (.ifCond .ne 7, 3) := by decide +kernel
theorem d_X14_step_385 : decode b_X14_step 385 = .ok (.iload_n 2, 1) := by decide +kernel
theorem d_X14_step_386 : decode b_X14_step 386 = .ok (.goto 6, 3) := by decide +kernel
theorem d_X14_step_389 : decode b_X14_step 389 = .ok (.iload_n 1, 1) := by decide +kernel
theorem d_X14_step_390 : decode b_X14_step 390 = .ok (.iconst 2, 1) := by decide +kernel
theorem d_X14_step_391 : decode b_X14_step 391 = .ok (.iadd, 1) := by decide +kernel
theorem d_X14_step_392 : decode b_X14_step 392 = .ok (.ireturn, 1) := by decide +kernel
theorem d_X14_step_393 : decode b_X14_step 393 = .ok (.aload_n 0, 1) := by decide +kernel
theorem d_X14_step_394 : decode b_X14_step 394 = .ok (.invokevirtual 805, 3) := by decide +kernel
theorem d_X14_step_397 : decode b_X14_step 397 = .ok (.ifCond .eq 7, 3) := by decide +kernel
theorem d_X14_step_400 : decode b_X14_step 400 = .ok (.iload_n 2, 1) := by decide +kernel
theorem d_X14_step_401 : decode b_X14_step 401 = .ok (.goto 6, 3) := by decide +kernel
theorem d_X14_step_404 : decode b_X14_step 404 = .ok (.iload_n 1, 1) := by decide +kernel
theorem d_X14_step_405 : decode b_X14_step 405 = .ok (.iconst 2, 1) := by decide +kernel
theorem d_X14_step_406 : decode b_X14_step 406 = .ok (.iadd, 1) := by decide +kernel
theorem d_X14_step_407 : decode b_X14_step 407 = .ok (.ireturn, 1) := by decide +kernel
theorem d_X14_step_408 : decode b_X14_step 408 = .ok (.aload_n 0, 1) := by decide +kernel
theorem d_X14_step_409 : decode b_X14_step 409 = .ok (.getfield 756, 3) := by decide +kernel
theorem d_X14_step_412 : decode b_X14_step 412 = .ok (.aload_n 0, 1) := by decide +kernel
theorem d_X14_step_413 : decode b_X14_step 413 = .ok (.getfield 747, 3) := by decide +kernel
theorem d_X14_step_416 : decode b_X14_step 416 = .ok (.if_icmp .ne 12, 3) := by decide +kernel
theorem d_X14_step_419 : decode b_X14_step 419 = .ok (.aload_n 0, 1) := by decide +kernel
theorem d_X14_step_420 : decode b_X14_step 420 = .ok (.iconst 4, 1) := by decide +kernel
theorem d_X14_step_421 : decode b_X14_step 421 = .ok (.iload_n 2, 1) := by decide +kernel
theorem d_X14_step_422 : decode b_X14_step 422 = .ok (.invokevirtual 808, 3) := by decide +kernel
theorem d_X14_step_425 : decode b_X14_step 425 = .ok (.goto 13, 3) := by decide +kernel
theorem d_X14_step_428 : decode b_X14_step 428 = .ok (.aload_n 0, 1) := by decide +kernel
theorem d_X14_step_429 : decode b_X14_step 429 = .ok (.dup, 1) := by decide +kernel
theorem d_X14_step_430 : decode b_X14_step 430 = .ok (.getfield 756, 3) := by decide +kernel
theorem d_X14_step_433 : decode b_X14_step 433 = .ok (.iconst 1, 1) := by decide +kernel
theorem d_X14_step_434 : decode b_X14_step 434 = .ok (.iadd, 1) := by decide +kernel
theorem d_X14_step_435 : decode b_X14_step 435 = .ok (.putfield 756, 3) := by decide +kernel
theorem d_X14_step_438 : decode b_X14_step 438 = .ok (.iload_n 1, 1) := by decide +kernel
theorem d_X14_step_439 : decode b_X14_step 439 = .ok (.iconst 2, 1) := by decide +kernel
theorem d_X14_step_440 : decode b_X14_step 440 = .ok (.iadd, 1) := by decide +kernel
theorem d_X14_step_441 : decode b_X14_step 441 = .ok (.ireturn, 1) := by decide +kernel
theorem d_X14_step_442 : decode b_X14_step 442 = .ok (.aload_n 0, 1) := by decide +kernel
theorem d_X14_step_443 : decode b_X14_step 443 = .ok (.iload_n 1, 1) := by decide +kernel
theorem d_X14_step_444 : decode b_X14_step 444 = .ok (.iload_n 2, 1) := by decide +kernel
theorem d_X14_step_445 : decode b_X14_step 445 = .ok (.invokevirtual 811, 3) := by decide +kernel
theorem d_X14_step_448 : decode b_X14_step 448 = .ok (.ireturn, 1) := by decide +kernel
theorem d_X14_stepMore_0 : decode b_X14_stepMore 0 = .ok (.aload_n 0, 1) := by decide +kernel
theorem d_X14_stepMore_1 : decode b_X14_stepMore 1 = .ok (.getfield 41, 3) := by decide +kernel
theorem d_X14_stepMore_4 : decode b_X14_stepMore 4 = .ok (.iload_n 1, 1) := by decide +kernel
theorem d_X14_stepMore_5 : decode b_X14_stepMore 5 = .ok (.iaload, 1) := by decide +kernel
theorem d_X14_stepMore_6 : decode b_X14_stepMore 6 = .ok (.tableswitch 378 5 23 #[90, 125, 378, 378, 378, 378, 170, 378, 378, 378, 378, 378, 378, 378, 363, 378, 378, 228, 309], 90) := by decide +kernel
theorem d_X14_stepMore_96 : decode b_X14_stepMore 96 = .ok (.aload_n 0, 1) := by decide +kernel
theorem d_X14_stepMore_97 : decode b_X14_stepMore 97 = .ok (.invokevirtual 805, 3) := by decide +kernel
theorem d_X14_stepMore_100 : decode b_X14_stepMore 100 = .ok (.istore_n 3, 1) := by decide +kernel
theorem d_X14_stepMore_101 : decode b_X14_stepMore 101 = .ok (.iload_n 3, 1) := by decide +kernel
theorem d_X14_stepMore_102 : decode b_X14_stepMore 102 = .ok (.invokestatic 814, 3) := by decide +kernel
theorem d_X14_stepMore_105 : decode b_X14_stepMore 105 = .ok (.ifCond .eq 16, 3) := by decide +kernel
theorem d_X14_stepMore_108 : decode b_X14_stepMore 108 = .ok (.aload_n 0, 1) := by decide +kernel
theorem d_X14_stepMore_109 : decode b_X14_stepMore 109 = .ok (.aload_n 0, 1) := by decide +kernel
theorem d_X14_stepMore_110 : decode b_X14_stepMore 110 = .ok (.getfield 169, 3) := by decide +kernel
theorem d_X14_stepMore_113 : decode b_X14_stepMore 113 = .ok (.iload_n 3, 1) := by decide +kernel
theorem d_X14_stepMore_114 : decode b_X14_stepMore 114 = .ok (.iaload, 1) := by decide +kernel
theorem d_X14_stepMore_115 : decode b_X14_stepMore 115 = .ok (.invokevirtual 796, 3) := by decide +kernel
theorem d_X14_stepMore_118 : decode b_X14_stepMore 118 = .ok (.goto 9, 3) := by decide +kernel
theorem d_X14_stepMore_121 : decode b_X14_stepMore 121 = .ok (.aload_n 0, 1) := by decide +kernel
theorem d_X14_stepMore_122 : decode b_X14_stepMore 122 = .ok (.iconst 2, 1) := by decide +kernel
theorem d_X14_stepMore_123 : decode b_X14_stepMore 123 = .ok (.iload_n 2, 1) := by decide +kernel
theorem d_X14_stepMore_124 : decode b_X14_stepMore 124 = .ok (.invokevirtual 808, 3) := by decide +kernel
theorem d_X14_stepMore_127 : decode b_X14_stepMore 127 = .ok (.iload_n 1, 1) := by decide +kernel
theorem d_X14_stepMore_128 : decode b_X14_stepMore 128 = .ok (.iconst 2, 1) := by decide +kernel
theorem d_X14_stepMore_129 : decode b_X14_stepMore 129 = .ok (.iadd, 1) := by decide +kernel
theorem d_X14_stepMore_130 : decode b_X14_stepMore 130 = .ok (.ireturn, 1) := by decide +kernel
theorem d_X14_stepMore_131 : decode b_X14_stepMore 131 = .ok (.aload_n 0, 1) := by decide +kernel
theorem d_X14_stepMore_132 : decode b_X14_stepMore 132 = .ok (.invokevirtual 805, 3) := by decide +kernel
theorem d_X14_stepMore_135 : decode b_X14_stepMore 135 = .ok (.istore_n 3, 1) := by decide +kernel
theorem d_X14_stepMore_136 : decode b_X14_stepMore 136 = .ok (.aload_n 0, 1) := by decide +kernel
theorem d_X14_stepMore_137 : decode b_X14_stepMore 137 = .ok (.invokevirtual 805, 3) := by decide +kernel
theorem d_X14_stepMore_140 : decode b_X14_stepMore 140 = .ok (.istore 4, 2) := by decide +kernel
theorem d_X14_stepMore_142 : decode b_X14_stepMore 142 = .ok (.iload 4, 2) := by decide +kernel
theorem d_X14_stepMore_144 : decode b_X14_stepMore 144 = .ok (.invokestatic 814, 3) := by decide +kernel
theorem d_X14_stepMore_147 : decode b_X14_stepMore 147 = .ok (.ifCond .eq 14, 3) := by decide +kernel
theorem d_X14_stepMore_150 : decode b_X14_stepMore 150 = .ok (.aload_n 0, 1) := by decide +kernel
theorem d_X14_stepMore_151 : decode b_X14_stepMore 151 = .ok (.getfield 169, 3) := by decide +kernel
theorem d_X14_stepMore_154 : decode b_X14_stepMore 154 = .ok (.iload 4, 2) := by decide +kernel
theorem d_X14_stepMore_156 : decode b_X14_stepMore 156 = .ok (.iload_n 3, 1) := by decide +kernel
theorem d_X14_stepMore_157 : decode b_X14_stepMore 157 = .ok (.iastore, 1) := by decide +kernel
theorem d_X14_stepMore_158 : decode b_X14_stepMore 158 = .ok (.goto 9, 3) := by decide +kernel
theorem d_X14_stepMore_161 : decode b_X14_stepMore 161 = .ok (.aload_n 0, 1) := by decide +kernel
theorem d_X14_stepMore_162 : decode b_X14_stepMore 162 = .ok (.iconst 2, 1) := by decide +kernel
theorem d_X14_stepMore_163 : decode b_X14_stepMore 163 = .ok (.iload_n 2, 1) := by decide +kernel
theorem d_X14_stepMore_164 : decode b_X14_stepMore 164 = .ok (.invokevirtual 808, 3) := by decide +kernel
theorem d_X14_stepMore_167 : decode b_X14_stepMore 167 = .ok (.aload_n 0, 1) := by decide +kernel
theorem d_X14_stepMore_168 : decode b_X14_stepMore 168 = .ok (.iload_n 3, 1) := by decide +kernel
theorem d_X14_stepMore_169 : decode b_X14_stepMore 169 = .ok (.invokevirtual 796, 3) := by decide +kernel
theorem d_X14_stepMore_172 : decode b_X14_stepMore 172 = .ok (.iload_n 1, 1) := by decide +kernel
theorem d_X14_stepMore_173 : decode b_X14_stepMore 173 = .ok (.iconst 2, 1) := by decide +kernel
theorem d_X14_stepMore_174 : decode b_X14_stepMore 174 = .ok (.iadd, 1) := by decide +kernel
theorem d_X14_stepMore_175 : decode b_X14_stepMore 175 = .ok (.ireturn, 1) := by decide +kernel
theorem d_X14_stepMore_176 : decode b_X14_stepMore 176 = .ok (.aload_n 0, 1) := by decide +kernel
theorem d_X14_stepMore_177 : decode b_X14_stepMore 177 = .ok (.invokevirtual 805, 3) := by decide +kernel
theorem d_X14_stepMore_180 : decode b_X14_stepMore 180 = .ok (.istore_n 3, 1) := by decide +kernel
theorem d_X14_stepMore_181 : decode b_X14_stepMore 181 = .ok (.aload_n 0, 1) := by decide +kernel
theorem d_X14_stepMore_182 : decode b_X14_stepMore 182 = .ok (.invokevirtual 805, 3) := by decide +kernel
theorem d_X14_stepMore_185 : decode b_X14_stepMore 185 = .ok (.istore 4, 2) := by decide +kernel
theorem d_X14_stepMore_187 : decode b_X14_stepMore 187 = .ok (.iload_n 2, 1) := by decide +kernel
theorem d_X14_stepMore_188 : decode b_X14_stepMore 188 = .ok (.bipush 39, 2) := by decide +kernel
theorem d_X14_stepMore_190 : decode b_X14_stepMore 190 = .ok (.if_icmp .eq 9, 3) := by decide +kernel
theorem d_X14_stepMore_193 : decode b_X14_stepMore 193 = .ok (.iload_n 2, 1) := by decide +kernel
theorem d_X14_stepMore_194 : decode b_X14_stepMore 194 = .ok (.bipush 40, 2) := by decide +kernel
theorem d_X14_stepMore_196 : decode b_X14_stepMore 196 = .ok (.if_icmp .ne 23, 3) := by decide +kernel
theorem d_X14_stepMore_199 : decode b_X14_stepMore 199 = .ok (.iload_n 3, 1) := by decide +kernel
theorem d_X14_stepMore_200 : decode b_X14_stepMore 200 = .ok (.ifCond .ne 19, 3) := by decide +kernel
theorem d_X14_stepMore_203 : decode b_X14_stepMore 203 = .ok (.aload_n 0, 1) := by decide +kernel
theorem d_X14_stepMore_204 : decode b_X14_stepMore 204 = .ok (.iconst 1, 1) := by decide +kernel
theorem d_X14_stepMore_205 : decode b_X14_stepMore 205 = .ok (.aload_n 0, 1) := by decide +kernel
theorem d_X14_stepMore_206 : decode b_X14_stepMore 206 = .ok (.getfield 41, 3) := by decide +kernel
theorem d_X14_stepMore_209 : decode b_X14_stepMore 209 = .ok (.iload_n 1, 1) := by decide +kernel
theorem d_X14_stepMore_210 : decode b_X14_stepMore 210 = .ok (.iconst 2, 1) := by decide +kernel
theorem d_X14_stepMore_211 : decode b_X14_stepMore 211 = .ok (.iadd, 1) := by decide +kernel
theorem d_X14_stepMore_212 : decode b_X14_stepMore 212 = .ok (.iaload, 1) := by decide +kernel
theorem d_X14_stepMore_213 : decode b_X14_stepMore 213 = .ok (.invokevirtual 808, 3) := by decide +kernel
theorem d_X14_stepMore_216 : decode b_X14_stepMore 216 = .ok (.goto 14, 3) := by decide +kernel
theorem d_X14_stepMore_219 : decode b_X14_stepMore 219 = .ok (.aload_n 0, 1) := by decide +kernel
theorem d_X14_stepMore_220 : decode b_X14_stepMore 220 = .ok (.iload_n 2, 1) := by decide +kernel
theorem d_X14_stepMore_221 : decode b_X14_stepMore 221 = .ok (.iload 4, 2) := by decide +kernel
theorem d_X14_stepMore_223 : decode b_X14_stepMore 223 = .ok (.iload_n 3, 1) := by decide +kernel
theorem d_X14_stepMore_224 : decode b_X14_stepMore 224 = .ok (.invokestatic 460, 3) := by decide +kernel
theorem d_X14_stepMore_227 : decode b_X14_stepMore 227 = .ok (.invokevirtual 796, 3) := by decide +kernel
theorem d_X14_stepMore_230 : decode b_X14_stepMore 230 = .ok (.iload_n 1, 1) := by decide +kernel
theorem d_X14_stepMore_231 : decode b_X14_stepMore 231 = .ok (.iconst 3, 1) := by decide +kernel
theorem d_X14_stepMore_232 : decode b_X14_stepMore 232 = .ok (.iadd, 1) := by decide +kernel
theorem d_X14_stepMore_233 : decode b_X14_stepMore 233 = .ok (.ireturn, 1) := by decide +kernel
theorem d_X14_stepMore_234 : decode b_X14_stepMore 234 = .ok (.aload_n 0, 1) := by decide +kernel
theorem d_X14_stepMore_235 : decode b_X14_stepMore 235 = .ok (.invokevirtual 805, 3) := by decide +kernel
theorem d_X14_stepMore_238 : decode b_X14_stepMore 238 = .ok (.istore_n 3, 1) := by decide +kernel
theorem d_X14_stepMore_239 : decode b_X14_stepMore 239 = .ok (.iload_n 3, 1) := by decide +kernel
theorem d_X14_stepMore_240 : decode b_X14_stepMore 240 = .ok (.invokestatic 814, 3) := by decide +kernel
theorem d_X14_stepMore_243 : decode b_X14_stepMore 243 = .ok (.ifCond .ne 12, 3) := by decide +kernel
theorem d_X14_stepMore_246 : decode b_X14_stepMore 246 = .ok (.aload_n 0, 1) := by decide +kernel
theorem d_X14_stepMore_247 : decode b_X14_stepMore 247 = .ok (.iconst 2, 1) := by decide +kernel
theorem d_X14_stepMore_248 : decode b_X14_stepMore 248 = .ok (.iload_n 2, 1) := by decide +kernel
theorem d_X14_stepMore_249 : decode b_X14_stepMore 249 = .ok (.invokevirtual 808, 3) := by decide +kernel
theorem d_X14_stepMore_252 : decode b_X14_stepMore 252 = .ok (.goto 59, 3) := by decide +kernel
theorem d_X14_stepMore_255 : decode b_X14_stepMore 255 = .ok (.aload_n 0, 1) := by decide +kernel
theorem d_X14_stepMore_256 : decode b_X14_stepMore 256 = .ok (.getfield 169, 3) := by decide +kernel
theorem d_X14_stepMore_259 : decode b_X14_stepMore 259 = .ok (.iload_n 3, 1) := by decide +kernel
theorem d_X14_stepMore_260 : decode b_X14_stepMore 260 = .ok (.dup2, 1) := by decide +kernel
theorem d_X14_stepMore_261 : decode b_X14_stepMore 261 = .ok (.iaload, 1) := by decide +kernel
theorem d_X14_stepMore_262 : decode b_X14_stepMore 262 = .ok (.aload_n 0, 1) := by decide +kernel
theorem d_X14_stepMore_263 : decode b_X14_stepMore 263 = .ok (.getfield 41, 3) := by decide +kernel
theorem d_X14_stepMore_266 : decode b_X14_stepMore 266 = .ok (.iload_n 1, 1) := by decide +kernel
theorem d_X14_stepMore_267 : decode b_X14_stepMore 267 = .ok (.iconst 2, 1) := by decide +kernel
theorem d_X14_stepMore_268 : decode b_X14_stepMore 268 = .ok (.iadd, 1) := by decide +kernel
theorem d_X14_stepMore_269 : decode b_X14_stepMore 269 = .ok (.iaload, 1) := by decide +kernel
theorem d_X14_stepMore_270 : decode b_X14_stepMore 270 = .ok (.iadd, 1) := by decide +kernel
theorem d_X14_stepMore_271 : decode b_X14_stepMore 271 = .ok (.iastore, 1) := by decide +kernel
theorem d_X14_stepMore_272 : decode b_X14_stepMore 272 = .ok (.aload_n 0, 1) := by decide +kernel
theorem d_X14_stepMore_273 : decode b_X14_stepMore 273 = .ok (.aload_n 0, 1) := by decide +kernel
theorem d_X14_stepMore_274 : decode b_X14_stepMore 274 = .ok (.getfield 41, 3) := by decide +kernel
theorem d_X14_stepMore_277 : decode b_X14_stepMore 277 = .ok (.iload_n 1, 1) := by decide +kernel
theorem d_X14_stepMore_278 : decode b_X14_stepMore 278 = .ok (.iconst 3, 1) := by decide +kernel
theorem d_X14_stepMore_279 : decode b_X14_stepMore 279 = .ok (.iadd, 1) := by decide +kernel
theorem d_X14_stepMore_280 : decode b_X14_stepMore 280 = .ok (.iaload, 1) := by decide +kernel
theorem d_X14_stepMore_281 : decode b_X14_stepMore 281 = .ok (.ifCond .ne 12, 3) := by decide +kernel
theorem d_X14_stepMore_284 : decode b_X14_stepMore 284 = .ok (.aload_n 0, 1) := by decide +kernel
theorem d_X14_stepMore_285 : decode b_X14_stepMore 285 = .ok (.getfield 169, 3) := by decide +kernel
theorem d_X14_stepMore_288 : decode b_X14_stepMore 288 = .ok (.iload_n 3, 1) := by decide +kernel
theorem d_X14_stepMore_289 : decode b_X14_stepMore 289 = .ok (.iaload, 1) := by decide +kernel
theorem d_X14_stepMore_290 : decode b_X14_stepMore 290 = .ok (.goto 18, 3) := by decide +kernel
theorem d_X14_stepMore_293 : decode b_X14_stepMore 293 = .ok (.aload_n 0, 1) := by decide +kernel
theorem d_X14_stepMore_294 : decode b_X14_stepMore 294 = .ok (.getfield 169, 3) := by decide +kernel
theorem d_X14_stepMore_297 : decode b_X14_stepMore 297 = .ok (.iload_n 3, 1) := by decide +kernel
theorem d_X14_stepMore_298 : decode b_X14_stepMore 298 = .ok (.iaload, 1) := by decide +kernel
theorem d_X14_stepMore_299 : decode b_X14_stepMore 299 = .ok (.aload_n 0, 1) := by decide +kernel
theorem d_X14_stepMore_300 : decode b_X14_stepMore 300 = .ok (.getfield 41, 3) := by decide +kernel
theorem d_X14_stepMore_303 : decode b_X14_stepMore 303 = .ok (.iload_n 1, 1) := by decide +kernel
theorem d_X14_stepMore_304 : decode b_X14_stepMore 304 = .ok (.iconst 2, 1) := by decide +kernel
theorem d_X14_stepMore_305 : decode b_X14_stepMore 305 = .ok (.iadd, 1) := by decide +kernel
theorem d_X14_stepMore_306 : decode b_X14_stepMore 306 = .ok (.iaload, 1) := by decide +kernel
theorem d_X14_stepMore_307 : decode b_X14_stepMore 307 = .ok (.isub, 1) := by decide +kernel
theorem d_X14_stepMore_308 : decode b_X14_stepMore 308 = .ok (.invokevirtual 796, 3) := by decide +kernel
theorem d_X14_stepMore_311 : decode b_X14_stepMore 311 = .ok (.iload_n 1, 1) := by decide +kernel
theorem d_X14_stepMore_312 : decode b_X14_stepMore 312 = .ok (.iconst 4, 1) := by decide +kernel
theorem d_X14_stepMore_313 : decode b_X14_stepMore 313 = .ok (.iadd, 1) := by decide +kernel
theorem d_X14_stepMore_314 : decode b_X14_stepMore 314 = .ok (.ireturn, 1) := by decide +kernel
theorem d_X14_stepMore_315 : decode b_X14_stepMore 315 = .ok (.aload_n 0, 1) := by decide +kernel
theorem d_X14_stepMore_316 : decode b_X14_stepMore 316 = .ok (.iload_n 2, 1) := by decide +kernel
theorem d_X14_stepMore_317 : decode b_X14_stepMore 317 = .ok (.invokevirtual 799, 3) := by decide +kernel
theorem d_X14_stepMore_320 : decode b_X14_stepMore 320 = .ok (.aload_n 0, 1) := by decide +kernel
theorem d_X14_stepMore_321 : decode b_X14_stepMore 321 = .ok (.getfield 41, 3) := by decide +kernel
theorem d_X14_stepMore_324 : decode b_X14_stepMore 324 = .ok (.iload_n 1, 1) := by decide +kernel
theorem d_X14_stepMore_325 : decode b_X14_stepMore 325 = .ok (.iconst 2, 1) := by decide +kernel
theorem d_X14_stepMore_326 : decode b_X14_stepMore 326 = .ok (.iadd, 1) := by decide +kernel
theorem d_X14_stepMore_327 : decode b_X14_stepMore 327 = .ok (.iaload, 1) := by decide +kernel
theorem d_X14_stepMore_328 : decode b_X14_stepMore 328 = .ok (.iadd, 1) := by decide +kernel
theorem d_X14_stepMore_329 : decode b_X14_stepMore 329 = .ok (.istore_n 3, 1) := by decide +kernel
theorem d_X14_stepMore_330 : decode b_X14_stepMore 330 = .ok (.aload_n 0, 1) := by decide +kernel
theorem d_X14_stepMore_331 : decode b_X14_stepMore 331 = .ok (.iload_n 2, 1) := by decide +kernel
theorem d_X14_stepMore_332 : decode b_X14_stepMore 332 = .ok (.iload_n 3, 1) := by decide +kernel
theorem d_X14_stepMore_333 : decode b_X14_stepMore 333 = .ok (.invokevirtual 790, 3) := by decide +kernel
theorem d_X14_stepMore_336 : decode b_X14_stepMore 336 = .ok (.aload_n 0, 1) := by decide +kernel
theorem d_X14_stepMore_337 : decode b_X14_stepMore 337 = .ok (.aload_n 0, 1) := by decide +kernel
theorem d_X14_stepMore_338 : decode b_X14_stepMore 338 = .ok (.getfield 41, 3) := by decide +kernel
theorem d_X14_stepMore_341 : decode b_X14_stepMore 341 = .ok (.iload_n 1, 1) := by decide +kernel
theorem d_X14_stepMore_342 : decode b_X14_stepMore 342 = .ok (.iconst 3, 1) := by decide +kernel
theorem d_X14_stepMore_343 : decode b_X14_stepMore 343 = .ok (.iadd, 1) := by decide +kernel
theorem d_X14_stepMore_344 : decode b_X14_stepMore 344 = .ok (.iaload, 1) := by decide +kernel
theorem d_X14_stepMore_345 : decode b_X14_stepMore 345 = .ok (.ifCond .ne 7, 3) := by decide +kernel
theorem d_X14_stepMore_348 : decode b_X14_stepMore 348 = .ok (.iload_n 3, 1) := by decide +kernel
theorem d_X14_stepMore_349 : decode b_X14_stepMore 349 = .ok (.goto 13, 3) := by decide +kernel
theorem d_X14_stepMore_352 : decode b_X14_stepMore 352 = .ok (.iload_n 3, 1) := by decide +kernel
theorem d_X14_stepMore_353 : decode b_X14_stepMore 353 = .ok (.aload_n 0, 1) := by decide +kernel
theorem d_X14_stepMore_354 : decode b_X14_stepMore 354 = .ok (.getfield 41, 3) := by decide +kernel
theorem d_X14_stepMore_357 : decode b_X14_stepMore 357 = .ok (.iload_n 1, 1) := by decide +kernel
theorem d_X14_stepMore_358 : decode b_X14_stepMore 358 = .ok (.iconst 2, 1) := by decide +kernel
theorem d_X14_stepMore_359 : decode b_X14_stepMore 359 = .ok (.iadd, 1) := by decide +kernel
theorem d_X14_stepMore_360 : decode b_X14_stepMore 360 = .ok (.iaload, 1) := by decide +kernel
theorem d_X14_stepMore_361 : decode b_X14_stepMore 361 = .ok (.isub, 1) := by decide +kernel
theorem d_X14_stepMore_362 : decode b_X14_stepMore 362 = .ok (.invokevirtual 796, 3) := by decide +kernel
theorem d_X14_stepMore_365 : decode b_X14_stepMore 365 = .ok (.iload_n 1, 1) := by decide +kernel
theorem d_X14_stepMore_366 : decode b_X14_stepMore 366 = .ok (.iconst 4, 1) := by decide +kernel
theorem d_X14_stepMore_367 : decode b_X14_stepMore 367 = .ok (.iadd, 1) := by decide +kernel
theorem d_X14_stepMore_368 : decode b_X14_stepMore 368 = .ok (.ireturn, 1) := by decide +kernel
theorem d_X14_stepMore_369 : decode b_X14_stepMore 369 = .ok (.aload_n 0, 1) := by decide +kernel
theorem d_X14_stepMore_370 : decode b_X14_stepMore 370 = .ok (.iload_n 1, 1) := by decide +kernel
theorem d_X14_stepMore_371 : decode b_X14_stepMore 371 = .ok (.iload_n 2, 1) := by decide +kernel
theorem d_X14_stepMore_372 : decode b_X14_stepMore 372 = .ok (.aload_n 0, 1) := by decide +kernel
theorem d_X14_stepMore_373 : decode b_X14_stepMore 373 = .ok (.getfield 41, 3) := by decide +kernel
theorem d_X14_stepMore_376 : decode b_X14_stepMore 376 = .ok (.iload_n 1, 1) := by decide +kernel
theorem d_X14_stepMore_377 : decode b_X14_stepMore 377 = .ok (.iconst 2, 1) := by decide +kernel
theorem d_X14_stepMore_378 : decode b_X14_stepMore 378 = .ok (.iadd, 1) := by decide +kernel
theorem d_X14_stepMore_379 : decode b_X14_stepMore 379 = .ok (.iaload, 1) := by decide +kernel
theorem d_X14_stepMore_380 : decode b_X14_stepMore 380 = .ok (.invokevirtual 817, 3) := by decide +kernel
theorem d_X14_stepMore_383 : decode b_X14_stepMore 383 = .ok (.ireturn, 1) := by decide +kernel
theorem d_X14_stepMore_384 : decode b_X14_stepMore 384 = .ok (.aload_n 0, 1) := by decide +kernel
theorem d_X14_stepMore_385 : decode b_X14_stepMore 385 = .ok (.aload_n 0, 1) := by decide +kernel
theorem d_X14_stepMore_386 : decode b_X14_stepMore 386 = .ok (.getfield 41, 3) := by decide +kernel
theorem d_X14_stepMore_389 : decode b_X14_stepMore 389 = .ok (.iload_n 1, 1) := by decide +kernel
theorem d_X14_stepMore_390 : decode b_X14_stepMore 390 = .ok (.iaload, 1) := by decide +kernel
theorem d_X14_stepMore_391 : decode b_X14_stepMore 391 = .ok (.bipush 21, 2) := by decide +kernel
theorem d_X14_stepMore_393 : decode b_X14_stepMore 393 = .ok (.if_icmp .ne 7, 3) := by decide +kernel
theorem d_X14_stepMore_396 : decode b_X14_stepMore 396 = .ok (.iconst 1, 1) := by decide +kernel
theorem d_X14_stepMore_397 : decode b_X14_stepMore 397 = .ok (.goto 4, 3) := by decide +kernel
theorem d_X14_stepMore_400 : decode b_X14_stepMore 400 = .ok (.iconst 0, 1) := by decide +kernel
theorem d_X14_stepMore_401 : decode b_X14_stepMore 401 = .ok (.invokevirtual 819, 3) := by decide +kernel
theorem d_X14_stepMore_404 : decode b_X14_stepMore 404 = .ok (.ireturn, 1) := by decide +kernel
theorem d_X14_stepped_0 : decode b_X14_stepped 0 = .ok (.aload_n 1, 1) := by decide +kernel
theorem d_X14_stepped_1 : decode b_X14_stepped 1 = .ok (.getfield 361, 3) := by decide +kernel
theorem d_X14_stepped_4 : decode b_X14_stepped 4 = .ok (.ifCond .eq 14, 3) := by decide +kernel
theorem d_X14_stepped_7 : decode b_X14_stepped 7 = .ok (.aload_n 1, 1) := by decide +kernel
theorem d_X14_stepped_8 : decode b_X14_stepped 8 = .ok (.getfield 352, 3) := by decide +kernel
theorem d_X14_stepped_11 : decode b_X14_stepped 11 = .ok (.ifCond .lt 7, 3) := by decide +kernel
theorem d_X14_stepped_14 : decode b_X14_stepped 14 = .ok (.iconst 1, 1) := by decide +kernel
theorem d_X14_stepped_15 : decode b_X14_stepped 15 = .ok (.goto 4, 3) := by decide +kernel
theorem d_X14_stepped_18 : decode b_X14_stepped 18 = .ok (.iconst 0, 1) := by decide +kernel
theorem d_X14_stepped_19 : decode b_X14_stepped 19 = .ok (.istore 5, 2) := by decide +kernel
theorem d_X14_stepped_21 : decode b_X14_stepped 21 = .ok (.aload_n 0, 1) := by decide +kernel
theorem d_X14_stepped_22 : decode b_X14_stepped 22 = .ok (.iload 5, 2) := by decide +kernel
theorem d_X14_stepped_24 : decode b_X14_stepped 24 = .ok (.iload 4, 2) := by decide +kernel
theorem d_X14_stepped_26 : decode b_X14_stepped 26 = .ok (.invokevirtual 410, 3) := by decide +kernel
theorem d_X14_stepped_29 : decode b_X14_stepped 29 = .ok (.aload_n 0, 1) := by decide +kernel
theorem d_X14_stepped_30 : decode b_X14_stepped 30 = .ok (.iload 5, 2) := by decide +kernel
theorem d_X14_stepped_32 : decode b_X14_stepped 32 = .ok (.ifCond .eq 10, 3) := by decide +kernel
theorem d_X14_stepped_35 : decode b_X14_stepped 35 = .ok (.aload_n 1, 1) := by decide +kernel
theorem d_X14_stepped_36 : decode b_X14_stepped 36 = .ok (.getfield 352, 3) := by decide +kernel
theorem d_X14_stepped_39 : decode b_X14_stepped 39 = .ok (.goto 5, 3) := by decide +kernel
theorem d_X14_stepped_42 : decode b_X14_stepped 42 = .ok (.bipush (-2), 2) := by decide +kernel
theorem d_X14_stepped_44 : decode b_X14_stepped 44 = .ok (.aload_n 1, 1) := by decide +kernel
theorem d_X14_stepped_45 : decode b_X14_stepped 45 = .ok (.aload_n 1, 1) := by decide +kernel
theorem d_X14_stepped_46 : decode b_X14_stepped 46 = .ok (.iload 4, 2) := by decide +kernel
theorem d_X14_stepped_48 : decode b_X14_stepped 48 = .ok (.invokevirtual 414, 3) := by decide +kernel
theorem d_X14_stepped_51 : decode b_X14_stepped 51 = .ok (.astore 6, 2) := by decide +kernel
theorem d_X14_stepped_53 : decode b_X14_stepped 53 = .ok (.iload_n 2, 1) := by decide +kernel
theorem d_X14_stepped_54 : decode b_X14_stepped 54 = .ok (.bipush 18, 2) := by decide +kernel
theorem d_X14_stepped_56 : decode b_X14_stepped 56 = .ok (.if_icmp .ne 7, 3) := by decide +kernel
theorem d_X14_stepped_59 : decode b_X14_stepped 59 = .ok (.iconst 1, 1) := by decide +kernel
theorem d_X14_stepped_60 : decode b_X14_stepped 60 = .ok (.goto 4, 3) := by decide +kernel
theorem d_X14_stepped_63 : decode b_X14_stepped 63 = .ok (.iconst (-1), 1) := by decide +kernel
theorem d_X14_stepped_64 : decode b_X14_stepped 64 = .ok (.istore 7, 2) := by decide +kernel
theorem d_X14_stepped_66 : decode b_X14_stepped 66 = .ok (.aload_n 1, 1) := by decide +kernel
theorem d_X14_stepped_67 : decode b_X14_stepped 67 = .ok (.getfield 361, 3) := by decide +kernel
theorem d_X14_stepped_70 : decode b_X14_stepped 70 = .ok (.iconst 2, 1) := by decide +kernel
theorem d_X14_stepped_71 : decode b_X14_stepped 71 = .ok (.if_icmp .ne 12, 3) := by decide +kernel
theorem d_X14_stepped_74 : decode b_X14_stepped 74 = .ok (.aload_n 0, 1) := by decide +kernel
theorem d_X14_stepped_75 : decode b_X14_stepped 75 = .ok (.iconst 1, 1) := by decide +kernel
theorem d_X14_stepped_76 : decode b_X14_stepped 76 = .ok (.aload_n 1, 1) := by decide +kernel
theorem d_X14_stepped_77 : decode b_X14_stepped 77 = .ok (.getfield 364, 3) := by decide +kernel
theorem d_X14_stepped_80 : decode b_X14_stepped 80 = .ok (.invokevirtual 322, 3) := by decide +kernel
theorem d_X14_stepped_83 : decode b_X14_stepped 83 = .ok (.aload_n 1, 1) := by decide +kernel
theorem d_X14_stepped_84 : decode b_X14_stepped 84 = .ok (.getfield 361, 3) := by decide +kernel
theorem d_X14_stepped_87 : decode b_X14_stepped 87 = .ok (.iconst 1, 1) := by decide +kernel
theorem d_X14_stepped_88 : decode b_X14_stepped 88 = .ok (.if_icmp .ne 18, 3) := by decide +kernel
theorem d_X14_stepped_91 : decode b_X14_stepped 91 = .ok (.aload_n 0, 1) := by decide +kernel
theorem d_X14_stepped_92 : decode b_X14_stepped 92 = .ok (.bipush 23, 2) := by decide +kernel
theorem d_X14_stepped_94 : decode b_X14_stepped 94 = .ok (.aload_n 1, 1) := by decide +kernel
theorem d_X14_stepped_95 : decode b_X14_stepped 95 = .ok (.getfield 364, 3) := by decide +kernel
theorem d_X14_stepped_98 : decode b_X14_stepped 98 = .ok (.iload 7, 2) := by decide +kernel
theorem d_X14_stepped_100 : decode b_X14_stepped 100 = .ok (.invokevirtual 418, 3) := by decide +kernel
theorem d_X14_stepped_103 : decode b_X14_stepped 103 = .ok (.goto 18, 3) := by decide +kernel
theorem d_X14_stepped_106 : decode b_X14_stepped 106 = .ok (.aload_n 0, 1) := by decide +kernel
theorem d_X14_stepped_107 : decode b_X14_stepped 107 = .ok (.bipush 22, 2) := by decide +kernel
theorem d_X14_stepped_109 : decode b_X14_stepped 109 = .ok (.aload_n 0, 1) := by decide +kernel
theorem d_X14_stepped_110 : decode b_X14_stepped 110 = .ok (.getfield 23, 3) := by decide +kernel
theorem d_X14_stepped_113 : decode b_X14_stepped 113 = .ok (.iload 4, 2) := by decide +kernel
theorem d_X14_stepped_115 : decode b_X14_stepped 115 = .ok (.iaload, 1) := by decide +kernel
theorem d_X14_stepped_116 : decode b_X14_stepped 116 = .ok (.iload 7, 2) := by decide +kernel
theorem d_X14_stepped_118 : decode b_X14_stepped 118 = .ok (.invokevirtual 418, 3) := by decide +kernel
theorem d_X14_stepped_121 : decode b_X14_stepped 121 = .ok (.aload_n 0, 1) := by decide +kernel
theorem d_X14_stepped_122 : decode b_X14_stepped 122 = .ok (.iload_n 3, 1) := by decide +kernel
theorem d_X14_stepped_123 : decode b_X14_stepped 123 = .ok (.invokevirtual 318, 3) := by decide +kernel
theorem d_X14_stepped_126 : decode b_X14_stepped 126 = .ok (.aload 6, 2) := by decide +kernel
theorem d_X14_stepped_128 : decode b_X14_stepped 128 = .ok (.areturn, 1) := by decide +kernel
theorem d_X14_strays_0 : decode b_X14_strays 0 = .ok (.iconst 0, 1) := by decide +kernel
theorem d_X14_strays_1 : decode b_X14_strays 1 = .ok (.ireturn, 1) := by decide +kernel
theorem d_X14_stringEnd_0 : decode b_X14_stringEnd 0 = .ok (.iload_n 1, 1) := by decide +kernel
theorem d_X14_stringEnd_1 : decode b_X14_stringEnd 1 = .ok (.iconst 1, 1) := by decide +kernel
theorem d_X14_stringEnd_2 : decode b_X14_stringEnd 2 = .ok (.iadd, 1) := by decide +kernel
theorem d_X14_stringEnd_3 : decode b_X14_stringEnd 3 = .ok (.istore_n 3, 1) := by decide +kernel
theorem d_X14_stringEnd_4 : decode b_X14_stringEnd 4 = .ok (.iconst 0, 1) := by decide +kernel
theorem d_X14_stringEnd_5 : decode b_X14_stringEnd 5 = .ok (.istore 4, 2) := by decide +kernel
theorem d_X14_stringEnd_7 : decode b_X14_stringEnd 7 = .ok (.aload_n 0, 1) := by decide +kernel
theorem d_X14_stringEnd_8 : decode b_X14_stringEnd 8 = .ok (.iload_n 3, 1) := by decide +kernel
theorem d_X14_stringEnd_9 : decode b_X14_stringEnd 9 = .ok (.invokevirtual 209, 3) := by decide +kernel
theorem d_X14_stringEnd_12 : decode b_X14_stringEnd 12 = .ok (.bipush 34, 2) := by decide +kernel
theorem d_X14_stringEnd_14 : decode b_X14_stringEnd 14 = .ok (.if_icmp .eq 51, 3) := by decide +kernel
theorem d_X14_stringEnd_17 : decode b_X14_stringEnd 17 = .ok (.aload_n 0, 1) := by decide +kernel
theorem d_X14_stringEnd_18 : decode b_X14_stringEnd 18 = .ok (.iload_n 3, 1) := by decide +kernel
theorem d_X14_stringEnd_19 : decode b_X14_stringEnd 19 = .ok (.bipush 34, 2) := by decide +kernel
theorem d_X14_stringEnd_21 : decode b_X14_stringEnd 21 = .ok (.invokevirtual 283, 3) := by decide +kernel
theorem d_X14_stringEnd_24 : decode b_X14_stringEnd 24 = .ok (.ifCond .lt 11, 3) := by decide +kernel
theorem d_X14_stringEnd_27 : decode b_X14_stringEnd 27 = .ok (.iload 4, 2) := by decide +kernel
theorem d_X14_stringEnd_29 : decode b_X14_stringEnd 29 = .ok (.sipush 200, 3) := by decide +kernel
theorem d_X14_stringEnd_32 : decode b_X14_stringEnd 32 = .ok (.if_icmp .ne 9, 3) := by decide +kernel
theorem d_X14_stringEnd_35 : decode b_X14_stringEnd 35 = .ok (.aload_n 0, 1) := by decide +kernel
theorem d_X14_stringEnd_36 : decode b_X14_stringEnd 36 = .ok (.iload_n 1, 1) := by decide +kernel
theorem d_X14_stringEnd_37 : decode b_X14_stringEnd 37 = .ok (.invokevirtual 234, 3) := by decide +kernel
theorem d_X14_stringEnd_40 : decode b_X14_stringEnd 40 = .ok (.ireturn, 1) := by decide +kernel
theorem d_X14_stringEnd_41 : decode b_X14_stringEnd 41 = .ok (.iload_n 3, 1) := by decide +kernel
theorem d_X14_stringEnd_42 : decode b_X14_stringEnd 42 = .ok (.aload_n 0, 1) := by decide +kernel
theorem d_X14_stringEnd_43 : decode b_X14_stringEnd 43 = .ok (.iload_n 3, 1) := by decide +kernel
theorem d_X14_stringEnd_44 : decode b_X14_stringEnd 44 = .ok (.invokevirtual 209, 3) := by decide +kernel
theorem d_X14_stringEnd_47 : decode b_X14_stringEnd 47 = .ok (.bipush 92, 2) := by decide +kernel
theorem d_X14_stringEnd_49 : decode b_X14_stringEnd 49 = .ok (.if_icmp .ne 7, 3) := by decide +kernel
theorem d_X14_stringEnd_52 : decode b_X14_stringEnd 52 = .ok (.iconst 2, 1) := by decide +kernel
theorem d_X14_stringEnd_53 : decode b_X14_stringEnd 53 = .ok (.goto 4, 3) := by decide +kernel
theorem d_X14_stringEnd_56 : decode b_X14_stringEnd 56 = .ok (.iconst 1, 1) := by decide +kernel
theorem d_X14_stringEnd_57 : decode b_X14_stringEnd 57 = .ok (.iadd, 1) := by decide +kernel
theorem d_X14_stringEnd_58 : decode b_X14_stringEnd 58 = .ok (.istore_n 3, 1) := by decide +kernel
theorem d_X14_stringEnd_59 : decode b_X14_stringEnd 59 = .ok (.iinc 4 1, 3) := by decide +kernel
theorem d_X14_stringEnd_62 : decode b_X14_stringEnd 62 = .ok (.goto (-55), 3) := by decide +kernel
theorem d_X14_stringEnd_65 : decode b_X14_stringEnd 65 = .ok (.aload_n 0, 1) := by decide +kernel
theorem d_X14_stringEnd_66 : decode b_X14_stringEnd 66 = .ok (.iconst 4, 1) := by decide +kernel
theorem d_X14_stringEnd_67 : decode b_X14_stringEnd 67 = .ok (.iload_n 1, 1) := by decide +kernel
theorem d_X14_stringEnd_68 : decode b_X14_stringEnd 68 = .ok (.iload_n 3, 1) := by decide +kernel
theorem d_X14_stringEnd_69 : decode b_X14_stringEnd 69 = .ok (.iconst 1, 1) := by decide +kernel
theorem d_X14_stringEnd_70 : decode b_X14_stringEnd 70 = .ok (.iadd, 1) := by decide +kernel
theorem d_X14_stringEnd_71 : decode b_X14_stringEnd 71 = .ok (.iload_n 2, 1) := by decide +kernel
theorem d_X14_stringEnd_72 : decode b_X14_stringEnd 72 = .ok (.iload 4, 2) := by decide +kernel
theorem d_X14_stringEnd_74 : decode b_X14_stringEnd 74 = .ok (.invokevirtual 217, 3) := by decide +kernel
theorem d_X14_stringEnd_77 : decode b_X14_stringEnd 77 = .ok (.iload_n 3, 1) := by decide +kernel
theorem d_X14_stringEnd_78 : decode b_X14_stringEnd 78 = .ok (.iconst 1, 1) := by decide +kernel
theorem d_X14_stringEnd_79 : decode b_X14_stringEnd 79 = .ok (.iadd, 1) := by decide +kernel
theorem d_X14_stringEnd_80 : decode b_X14_stringEnd 80 = .ok (.ireturn, 1) := by decide +kernel
theorem d_X14_symbol_0 : decode b_X14_symbol 0 = .ok (.aload_n 0, 1) := by decide +kernel
theorem d_X14_symbol_1 : decode b_X14_symbol 1 = .ok (.iload_n 1, 1) := by decide +kernel
theorem d_X14_symbol_2 : decode b_X14_symbol 2 = .ok (.iload_n 2, 1) := by decide +kernel
theorem d_X14_symbol_3 : decode b_X14_symbol 3 = .ok (.invokevirtual 686, 3) := by decide +kernel
theorem d_X14_symbol_6 : decode b_X14_symbol 6 = .ok (.istore_n 3, 1) := by decide +kernel
theorem d_X14_symbol_7 : decode b_X14_symbol 7 = .ok (.iload_n 3, 1) := by decide +kernel
theorem d_X14_symbol_8 : decode b_X14_symbol 8 = .ok (.ifCond .ge 5, 3) := by decide +kernel
theorem d_X14_symbol_11 : decode b_X14_symbol 11 = .ok (.iconst (-1), 1) := by decide +kernel
theorem d_X14_symbol_12 : decode b_X14_symbol 12 = .ok (.ireturn, 1) := by decide +kernel
theorem d_X14_symbol_13 : decode b_X14_symbol 13 = .ok (.aload_n 0, 1) := by decide +kernel
theorem d_X14_symbol_14 : decode b_X14_symbol 14 = .ok (.getfield 44, 3) := by decide +kernel
theorem d_X14_symbol_17 : decode b_X14_symbol 17 = .ok (.iload_n 3, 1) := by decide +kernel
theorem d_X14_symbol_18 : decode b_X14_symbol 18 = .ok (.iaload, 1) := by decide +kernel
theorem d_X14_symbol_19 : decode b_X14_symbol 19 = .ok (.aload_n 0, 1) := by decide +kernel
theorem d_X14_symbol_20 : decode b_X14_symbol 20 = .ok (.getfield 57, 3) := by decide +kernel
theorem d_X14_symbol_23 : decode b_X14_symbol 23 = .ok (.iload_n 3, 1) := by decide +kernel
theorem d_X14_symbol_24 : decode b_X14_symbol 24 = .ok (.baload, 1) := by decide +kernel
theorem d_X14_symbol_25 : decode b_X14_symbol 25 = .ok (.ifCond .eq 7, 3) := by decide +kernel
theorem d_X14_symbol_28 : decode b_X14_symbol 28 = .ok (.iconst 4, 1) := by decide +kernel
theorem d_X14_symbol_29 : decode b_X14_symbol 29 = .ok (.goto 4, 3) := by decide +kernel
theorem d_X14_symbol_32 : decode b_X14_symbol 32 = .ok (.iconst 0, 1) := by decide +kernel
theorem d_X14_symbol_33 : decode b_X14_symbol 33 = .ok (.iadd, 1) := by decide +kernel
theorem d_X14_symbol_34 : decode b_X14_symbol 34 = .ok (.aload_n 0, 1) := by decide +kernel
theorem d_X14_symbol_35 : decode b_X14_symbol 35 = .ok (.getfield 57, 3) := by decide +kernel
theorem d_X14_symbol_38 : decode b_X14_symbol 38 = .ok (.iload_n 3, 1) := by decide +kernel
theorem d_X14_symbol_39 : decode b_X14_symbol 39 = .ok (.baload, 1) := by decide +kernel
theorem d_X14_symbol_40 : decode b_X14_symbol 40 = .ok (.ifCond .ne 17, 3) := by decide +kernel
theorem d_X14_symbol_43 : decode b_X14_symbol 43 = .ok (.aload_n 0, 1) := by decide +kernel
theorem d_X14_symbol_44 : decode b_X14_symbol 44 = .ok (.getfield 60, 3) := by decide +kernel
theorem d_X14_symbol_47 : decode b_X14_symbol 47 = .ok (.iload_n 3, 1) := by decide +kernel
theorem d_X14_symbol_48 : decode b_X14_symbol 48 = .ok (.baload, 1) := by decide +kernel
theorem d_X14_symbol_49 : decode b_X14_symbol 49 = .ok (.ifCond .eq 8, 3) := by decide +kernel
theorem d_X14_symbol_52 : decode b_X14_symbol 52 = .ok (.bipush 8, 2) := by decide +kernel
theorem d_X14_symbol_54 : decode b_X14_symbol 54 = .ok (.goto 4, 3) := by decide +kernel
theorem d_X14_symbol_57 : decode b_X14_symbol 57 = .ok (.iconst 0, 1) := by decide +kernel
theorem d_X14_symbol_58 : decode b_X14_symbol 58 = .ok (.iadd, 1) := by decide +kernel
theorem d_X14_symbol_59 : decode b_X14_symbol 59 = .ok (.ireturn, 1) := by decide +kernel
theorem d_X14_symbolAt_0 : decode b_X14_symbolAt 0 = .ok (.aload_n 0, 1) := by decide +kernel
theorem d_X14_symbolAt_1 : decode b_X14_symbolAt 1 = .ok (.iload_n 1, 1) := by decide +kernel
theorem d_X14_symbolAt_2 : decode b_X14_symbolAt 2 = .ok (.invokevirtual 680, 3) := by decide +kernel
theorem d_X14_symbolAt_5 : decode b_X14_symbolAt 5 = .ok (.ifCond .eq 7, 3) := by decide +kernel
theorem d_X14_symbolAt_8 : decode b_X14_symbolAt 8 = .ok (.iload_n 2, 1) := by decide +kernel
theorem d_X14_symbolAt_9 : decode b_X14_symbolAt 9 = .ok (.ifCond .ge 5, 3) := by decide +kernel
theorem d_X14_symbolAt_12 : decode b_X14_symbolAt 12 = .ok (.iconst (-1), 1) := by decide +kernel
theorem d_X14_symbolAt_13 : decode b_X14_symbolAt 13 = .ok (.ireturn, 1) := by decide +kernel
theorem d_X14_symbolAt_14 : decode b_X14_symbolAt 14 = .ok (.iload_n 2, 1) := by decide +kernel
theorem d_X14_symbolAt_15 : decode b_X14_symbolAt 15 = .ok (.istore_n 3, 1) := by decide +kernel
theorem d_X14_symbolAt_16 : decode b_X14_symbolAt 16 = .ok (.aload_n 0, 1) := by decide +kernel
theorem d_X14_symbolAt_17 : decode b_X14_symbolAt 17 = .ok (.getfield 86, 3) := by decide +kernel
theorem d_X14_symbolAt_20 : decode b_X14_symbolAt 20 = .ok (.iload_n 1, 1) := by decide +kernel
theorem d_X14_symbolAt_21 : decode b_X14_symbolAt 21 = .ok (.iconst 1, 1) := by decide +kernel
theorem d_X14_symbolAt_22 : decode b_X14_symbolAt 22 = .ok (.isub, 1) := by decide +kernel
theorem d_X14_symbolAt_23 : decode b_X14_symbolAt 23 = .ok (.iaload, 1) := by decide +kernel
theorem d_X14_symbolAt_24 : decode b_X14_symbolAt 24 = .ok (.istore 4, 2) := by decide +kernel
theorem d_X14_symbolAt_26 : decode b_X14_symbolAt 26 = .ok (.iload 4, 2) := by decide +kernel
theorem d_X14_symbolAt_28 : decode b_X14_symbolAt 28 = .ok (.aload_n 0, 1) := by decide +kernel
theorem d_X14_symbolAt_29 : decode b_X14_symbolAt 29 = .ok (.getfield 86, 3) := by decide +kernel
theorem d_X14_symbolAt_32 : decode b_X14_symbolAt 32 = .ok (.iload_n 1, 1) := by decide +kernel
theorem d_X14_symbolAt_33 : decode b_X14_symbolAt 33 = .ok (.iaload, 1) := by decide +kernel
theorem d_X14_symbolAt_34 : decode b_X14_symbolAt 34 = .ok (.if_icmp .ge 32, 3) := by decide +kernel
theorem d_X14_symbolAt_37 : decode b_X14_symbolAt 37 = .ok (.aload_n 0, 1) := by decide +kernel
theorem d_X14_symbolAt_38 : decode b_X14_symbolAt 38 = .ok (.getfield 53, 3) := by decide +kernel
theorem d_X14_symbolAt_41 : decode b_X14_symbolAt 41 = .ok (.iload 4, 2) := by decide +kernel
theorem d_X14_symbolAt_43 : decode b_X14_symbolAt 43 = .ok (.baload, 1) := by decide +kernel
theorem d_X14_symbolAt_44 : decode b_X14_symbolAt 44 = .ok (.ifCond .eq 6, 3) := by decide +kernel
theorem d_X14_symbolAt_47 : decode b_X14_symbolAt 47 = .ok (.goto 13, 3) := by decide +kernel
theorem d_X14_symbolAt_50 : decode b_X14_symbolAt 50 = .ok (.iload_n 3, 1) := by decide +kernel
theorem d_X14_symbolAt_51 : decode b_X14_symbolAt 51 = .ok (.ifCond .ne 6, 3) := by decide +kernel
theorem d_X14_symbolAt_54 : decode b_X14_symbolAt 54 = .ok (.iload 4, 2) := by decide +kernel
theorem d_X14_symbolAt_56 : decode b_X14_symbolAt 56 = .ok (.ireturn, 1) := by decide +kernel
theorem d_X14_symbolAt_57 : decode b_X14_symbolAt 57 = .ok (.iinc 3 (-1), 3) := by decide +kernel
theorem d_X14_symbolAt_60 : decode b_X14_symbolAt 60 = .ok (.iinc 4 1, 3) := by decide +kernel
theorem d_X14_symbolAt_63 : decode b_X14_symbolAt 63 = .ok (.goto (-37), 3) := by decide +kernel
theorem d_X14_symbolAt_66 : decode b_X14_symbolAt 66 = .ok (.iconst (-1), 1) := by decide +kernel
theorem d_X14_symbolAt_67 : decode b_X14_symbolAt 67 = .ok (.ireturn, 1) := by decide +kernel
theorem d_X14_symbols_0 : decode b_X14_symbols 0 = .ok (.iconst 0, 1) := by decide +kernel
theorem d_X14_symbols_1 : decode b_X14_symbols 1 = .ok (.istore_n 2, 1) := by decide +kernel
theorem d_X14_symbols_2 : decode b_X14_symbols 2 = .ok (.aload_n 0, 1) := by decide +kernel
theorem d_X14_symbols_3 : decode b_X14_symbols 3 = .ok (.getfield 86, 3) := by decide +kernel
theorem d_X14_symbols_6 : decode b_X14_symbols 6 = .ok (.iload_n 1, 1) := by decide +kernel
theorem d_X14_symbols_7 : decode b_X14_symbols 7 = .ok (.iconst 1, 1) := by decide +kernel
theorem d_X14_symbols_8 : decode b_X14_symbols 8 = .ok (.isub, 1) := by decide +kernel
theorem d_X14_symbols_9 : decode b_X14_symbols 9 = .ok (.iaload, 1) := by decide +kernel
theorem d_X14_symbols_10 : decode b_X14_symbols 10 = .ok (.istore_n 3, 1) := by decide +kernel
theorem d_X14_symbols_11 : decode b_X14_symbols 11 = .ok (.iload_n 3, 1) := by decide +kernel
theorem d_X14_symbols_12 : decode b_X14_symbols 12 = .ok (.aload_n 0, 1) := by decide +kernel
theorem d_X14_symbols_13 : decode b_X14_symbols 13 = .ok (.getfield 86, 3) := by decide +kernel
theorem d_X14_symbols_16 : decode b_X14_symbols 16 = .ok (.iload_n 1, 1) := by decide +kernel
theorem d_X14_symbols_17 : decode b_X14_symbols 17 = .ok (.iaload, 1) := by decide +kernel
theorem d_X14_symbols_18 : decode b_X14_symbols 18 = .ok (.if_icmp .ge 21, 3) := by decide +kernel
theorem d_X14_symbols_21 : decode b_X14_symbols 21 = .ok (.aload_n 0, 1) := by decide +kernel
theorem d_X14_symbols_22 : decode b_X14_symbols 22 = .ok (.getfield 53, 3) := by decide +kernel
theorem d_X14_symbols_25 : decode b_X14_symbols 25 = .ok (.iload_n 3, 1) := by decide +kernel
theorem d_X14_symbols_26 : decode b_X14_symbols 26 = .ok (.baload, 1) := by decide +kernel
theorem d_X14_symbols_27 : decode b_X14_symbols 27 = .ok (.ifCond .ne 6, 3) := by decide +kernel
theorem d_X14_symbols_30 : decode b_X14_symbols 30 = .ok (.iinc 2 1, 3) := by decide +kernel
theorem d_X14_symbols_33 : decode b_X14_symbols 33 = .ok (.iinc 3 1, 3) := by decide +kernel
theorem d_X14_symbols_36 : decode b_X14_symbols 36 = .ok (.goto (-25), 3) := by decide +kernel
theorem d_X14_symbols_39 : decode b_X14_symbols 39 = .ok (.iload_n 2, 1) := by decide +kernel
theorem d_X14_symbols_40 : decode b_X14_symbols 40 = .ok (.ireturn, 1) := by decide +kernel
theorem d_X14_tell_0 : decode b_X14_tell 0 = .ok (.aload_n 0, 1) := by decide +kernel
theorem d_X14_tell_1 : decode b_X14_tell 1 = .ok (.getfield 295, 3) := by decide +kernel
theorem d_X14_tell_4 : decode b_X14_tell 4 = .ok (.ifCond .gt 10, 3) := by decide +kernel
theorem d_X14_tell_7 : decode b_X14_tell 7 = .ok (.aload_n 0, 1) := by decide +kernel
theorem d_X14_tell_8 : decode b_X14_tell 8 = .ok (.getfield 298, 3) := by decide +kernel
theorem d_X14_tell_11 : decode b_X14_tell 11 = .ok (.ifCond .le 4, 3) := by decide +kernel
theorem d_X14_tell_14 : decode b_X14_tell 14 = .ok (.return_, 1) := by decide +kernel
theorem d_X14_tell_15 : decode b_X14_tell 15 = .ok (.aload_n 0, 1) := by decide +kernel
theorem d_X14_tell_16 : decode b_X14_tell 16 = .ok (.iload_n 1, 1) := by decide +kernel
theorem d_X14_tell_17 : decode b_X14_tell 17 = .ok (.putfield 295, 3) := by decide +kernel
theorem d_X14_tell_20 : decode b_X14_tell 20 = .ok (.aload_n 0, 1) := by decide +kernel
theorem d_X14_tell_21 : decode b_X14_tell 21 = .ok (.aload_n 0, 1) := by decide +kernel
theorem d_X14_tell_22 : decode b_X14_tell 22 = .ok (.getfield 17, 3) := by decide +kernel
theorem d_X14_tell_25 : decode b_X14_tell 25 = .ok (.iload_n 2, 1) := by decide +kernel
theorem d_X14_tell_26 : decode b_X14_tell 26 = .ok (.iaload, 1) := by decide +kernel
theorem d_X14_tell_27 : decode b_X14_tell 27 = .ok (.putfield 301, 3) := by decide +kernel
theorem d_X14_tell_30 : decode b_X14_tell 30 = .ok (.return_, 1) := by decide +kernel
theorem d_X14_text_0 : decode b_X14_text 0 = .ok (.aload_n 0, 1) := by decide +kernel
theorem d_X14_text_1 : decode b_X14_text 1 = .ok (.getfield 26, 3) := by decide +kernel
theorem d_X14_text_4 : decode b_X14_text 4 = .ok (.iload_n 1, 1) := by decide +kernel
theorem d_X14_text_5 : decode b_X14_text 5 = .ok (.iaload, 1) := by decide +kernel
theorem d_X14_text_6 : decode b_X14_text 6 = .ok (.iconst 1, 1) := by decide +kernel
theorem d_X14_text_7 : decode b_X14_text 7 = .ok (.iadd, 1) := by decide +kernel
theorem d_X14_text_8 : decode b_X14_text 8 = .ok (.istore_n 2, 1) := by decide +kernel
theorem d_X14_text_9 : decode b_X14_text 9 = .ok (.aload_n 0, 1) := by decide +kernel
theorem d_X14_text_10 : decode b_X14_text 10 = .ok (.getfield 515, 3) := by decide +kernel
theorem d_X14_text_13 : decode b_X14_text 13 = .ok (.iload_n 2, 1) := by decide +kernel
theorem d_X14_text_14 : decode b_X14_text 14 = .ok (.iadd, 1) := by decide +kernel
theorem d_X14_text_15 : decode b_X14_text 15 = .ok (.sipush 16000, 3) := by decide +kernel
theorem d_X14_text_18 : decode b_X14_text 18 = .ok (.if_icmp .le 9, 3) := by decide +kernel
theorem d_X14_text_21 : decode b_X14_text 21 = .ok (.aload_n 0, 1) := by decide +kernel
theorem d_X14_text_22 : decode b_X14_text 22 = .ok (.iconst 4, 1) := by decide +kernel
theorem d_X14_text_23 : decode b_X14_text 23 = .ok (.iload_n 1, 1) := by decide +kernel
theorem d_X14_text_24 : decode b_X14_text 24 = .ok (.invokevirtual 304, 3) := by decide +kernel
theorem d_X14_text_27 : decode b_X14_text 27 = .ok (.aload_n 0, 1) := by decide +kernel
theorem d_X14_text_28 : decode b_X14_text 28 = .ok (.getfield 515, 3) := by decide +kernel
theorem d_X14_text_31 : decode b_X14_text 31 = .ok (.istore_n 3, 1) := by decide +kernel
theorem d_X14_text_32 : decode b_X14_text 32 = .ok (.aload_n 0, 1) := by decide +kernel
theorem d_X14_text_33 : decode b_X14_text 33 = .ok (.getfield 515, 3) := by decide +kernel
theorem d_X14_text_36 : decode b_X14_text 36 = .ok (.iload_n 2, 1) := by decide +kernel
theorem d_X14_text_37 : decode b_X14_text 37 = .ok (.iadd, 1) := by decide +kernel
theorem d_X14_text_38 : decode b_X14_text 38 = .ok (.sipush 16000, 3) := by decide +kernel
theorem d_X14_text_41 : decode b_X14_text 41 = .ok (.if_icmp .gt 19, 3) := by decide +kernel
theorem d_X14_text_44 : decode b_X14_text 44 = .ok (.aload_n 0, 1) := by decide +kernel
theorem d_X14_text_45 : decode b_X14_text 45 = .ok (.iload_n 1, 1) := by decide +kernel
theorem d_X14_text_46 : decode b_X14_text 46 = .ok (.iload_n 3, 1) := by decide +kernel
theorem d_X14_text_47 : decode b_X14_text 47 = .ok (.invokevirtual 518, 3) := by decide +kernel
theorem d_X14_text_50 : decode b_X14_text 50 = .ok (.aload_n 0, 1) := by decide +kernel
theorem d_X14_text_51 : decode b_X14_text 51 = .ok (.dup, 1) := by decide +kernel
theorem d_X14_text_52 : decode b_X14_text 52 = .ok (.getfield 515, 3) := by decide +kernel
theorem d_X14_text_55 : decode b_X14_text 55 = .ok (.iload_n 2, 1) := by decide +kernel
theorem d_X14_text_56 : decode b_X14_text 56 = .ok (.iadd, 1) := by decide +kernel
theorem d_X14_text_57 : decode b_X14_text 57 = .ok (.putfield 515, 3) := by decide +kernel
theorem d_X14_text_60 : decode b_X14_text 60 = .ok (.aload_n 0, 1) := by decide +kernel
theorem d_X14_text_61 : decode b_X14_text 61 = .ok (.iconst 2, 1) := by decide +kernel
theorem d_X14_text_62 : decode b_X14_text 62 = .ok (.iload_n 3, 1) := by decide +kernel
theorem d_X14_text_63 : decode b_X14_text 63 = .ok (.invokevirtual 322, 3) := by decide +kernel
theorem d_X14_text_66 : decode b_X14_text 66 = .ok (.new 353, 3) := by decide +kernel
theorem d_X14_text_69 : decode b_X14_text 69 = .ok (.dup, 1) := by decide +kernel
theorem d_X14_text_70 : decode b_X14_text 70 = .ok (.iconst 1, 1) := by decide +kernel
theorem d_X14_text_71 : decode b_X14_text 71 = .ok (.invokespecial 369, 3) := by decide +kernel
theorem d_X14_text_74 : decode b_X14_text 74 = .ok (.iconst (-1), 1) := by decide +kernel
theorem d_X14_text_75 : decode b_X14_text 75 = .ok (.iload_n 3, 1) := by decide +kernel
theorem d_X14_text_76 : decode b_X14_text 76 = .ok (.isub, 1) := by decide +kernel
theorem d_X14_text_77 : decode b_X14_text 77 = .ok (.iconst 0, 1) := by decide +kernel
theorem d_X14_text_78 : decode b_X14_text 78 = .ok (.invokevirtual 470, 3) := by decide +kernel
theorem d_X14_text_81 : decode b_X14_text 81 = .ok (.areturn, 1) := by decide +kernel
theorem d_X14_token_0 : decode b_X14_token 0 = .ok (.aload_n 0, 1) := by decide +kernel
theorem d_X14_token_1 : decode b_X14_token 1 = .ok (.getfield 13, 3) := by decide +kernel
theorem d_X14_token_4 : decode b_X14_token 4 = .ok (.aload_n 0, 1) := by decide +kernel
theorem d_X14_token_5 : decode b_X14_token 5 = .ok (.getfield 206, 3) := by decide +kernel
theorem d_X14_token_8 : decode b_X14_token 8 = .ok (.iload_n 1, 1) := by decide +kernel
theorem d_X14_token_9 : decode b_X14_token 9 = .ok (.iastore, 1) := by decide +kernel
theorem d_X14_token_10 : decode b_X14_token 10 = .ok (.aload_n 0, 1) := by decide +kernel
theorem d_X14_token_11 : decode b_X14_token 11 = .ok (.getfield 17, 3) := by decide +kernel
theorem d_X14_token_14 : decode b_X14_token 14 = .ok (.aload_n 0, 1) := by decide +kernel
theorem d_X14_token_15 : decode b_X14_token 15 = .ok (.getfield 206, 3) := by decide +kernel
theorem d_X14_token_18 : decode b_X14_token 18 = .ok (.iload_n 2, 1) := by decide +kernel
theorem d_X14_token_19 : decode b_X14_token 19 = .ok (.iastore, 1) := by decide +kernel
theorem d_X14_token_20 : decode b_X14_token 20 = .ok (.aload_n 0, 1) := by decide +kernel
theorem d_X14_token_21 : decode b_X14_token 21 = .ok (.getfield 20, 3) := by decide +kernel
theorem d_X14_token_24 : decode b_X14_token 24 = .ok (.aload_n 0, 1) := by decide +kernel
theorem d_X14_token_25 : decode b_X14_token 25 = .ok (.getfield 206, 3) := by decide +kernel
theorem d_X14_token_28 : decode b_X14_token 28 = .ok (.iload_n 3, 1) := by decide +kernel
theorem d_X14_token_29 : decode b_X14_token 29 = .ok (.iastore, 1) := by decide +kernel
theorem d_X14_token_30 : decode b_X14_token 30 = .ok (.aload_n 0, 1) := by decide +kernel
theorem d_X14_token_31 : decode b_X14_token 31 = .ok (.getfield 23, 3) := by decide +kernel
theorem d_X14_token_34 : decode b_X14_token 34 = .ok (.aload_n 0, 1) := by decide +kernel
theorem d_X14_token_35 : decode b_X14_token 35 = .ok (.getfield 206, 3) := by decide +kernel
theorem d_X14_token_38 : decode b_X14_token 38 = .ok (.iload 4, 2) := by decide +kernel
theorem d_X14_token_40 : decode b_X14_token 40 = .ok (.iastore, 1) := by decide +kernel
theorem d_X14_token_41 : decode b_X14_token 41 = .ok (.aload_n 0, 1) := by decide +kernel
theorem d_X14_token_42 : decode b_X14_token 42 = .ok (.getfield 26, 3) := by decide +kernel
theorem d_X14_token_45 : decode b_X14_token 45 = .ok (.aload_n 0, 1) := by decide +kernel
theorem d_X14_token_46 : decode b_X14_token 46 = .ok (.getfield 206, 3) := by decide +kernel
theorem d_X14_token_49 : decode b_X14_token 49 = .ok (.iload 5, 2) := by decide +kernel
theorem d_X14_token_51 : decode b_X14_token 51 = .ok (.iastore, 1) := by decide +kernel
theorem d_X14_token_52 : decode b_X14_token 52 = .ok (.aload_n 0, 1) := by decide +kernel
theorem d_X14_token_53 : decode b_X14_token 53 = .ok (.dup, 1) := by decide +kernel
theorem d_X14_token_54 : decode b_X14_token 54 = .ok (.getfield 206, 3) := by decide +kernel
theorem d_X14_token_57 : decode b_X14_token 57 = .ok (.iconst 1, 1) := by decide +kernel
theorem d_X14_token_58 : decode b_X14_token 58 = .ok (.iadd, 1) := by decide +kernel
theorem d_X14_token_59 : decode b_X14_token 59 = .ok (.putfield 206, 3) := by decide +kernel
theorem d_X14_token_62 : decode b_X14_token 62 = .ok (.return_, 1) := by decide +kernel
theorem d_X14_told_0 : decode b_X14_told 0 = .ok (.aload_n 0, 1) := by decide +kernel
theorem d_X14_told_1 : decode b_X14_told 1 = .ok (.getfield 288, 3) := by decide +kernel
theorem d_X14_told_4 : decode b_X14_told 4 = .ok (.iconst 1, 1) := by decide +kernel
theorem d_X14_told_5 : decode b_X14_told 5 = .ok (.iadd, 1) := by decide +kernel
theorem d_X14_told_6 : decode b_X14_told 6 = .ok (.istore_n 1, 1) := by decide +kernel
theorem d_X14_told_7 : decode b_X14_told 7 = .ok (.aload_n 0, 1) := by decide +kernel
theorem d_X14_told_8 : decode b_X14_told 8 = .ok (.getfield 13, 3) := by decide +kernel
theorem d_X14_told_11 : decode b_X14_told 11 = .ok (.iload_n 1, 1) := by decide +kernel
theorem d_X14_told_12 : decode b_X14_told 12 = .ok (.iconst 1, 1) := by decide +kernel
theorem d_X14_told_13 : decode b_X14_told 13 = .ok (.iadd, 1) := by decide +kernel
theorem d_X14_told_14 : decode b_X14_told 14 = .ok (.iaload, 1) := by decide +kernel
theorem d_X14_told_15 : decode b_X14_told 15 = .ok (.bipush 58, 2) := by decide +kernel
theorem d_X14_told_17 : decode b_X14_told 17 = .ok (.if_icmp .eq 16, 3) := by decide +kernel
theorem d_X14_told_20 : decode b_X14_told 20 = .ok (.aload_n 0, 1) := by decide +kernel
theorem d_X14_told_21 : decode b_X14_told 21 = .ok (.getfield 13, 3) := by decide +kernel
theorem d_X14_told_24 : decode b_X14_told 24 = .ok (.iload_n 1, 1) := by decide +kernel
theorem d_X14_told_25 : decode b_X14_told 25 = .ok (.iconst 1, 1) := by decide +kernel
theorem d_X14_told_26 : decode b_X14_told 26 = .ok (.iadd, 1) := by decide +kernel
theorem d_X14_told_27 : decode b_X14_told 27 = .ok (.iaload, 1) := by decide +kernel
theorem d_X14_told_28 : decode b_X14_told 28 = .ok (.bipush 59, 2) := by decide +kernel
theorem d_X14_told_30 : decode b_X14_told 30 = .ok (.if_icmp .ne 7, 3) := by decide +kernel
theorem d_X14_told_33 : decode b_X14_told 33 = .ok (.iconst 1, 1) := by decide +kernel
theorem d_X14_told_34 : decode b_X14_told 34 = .ok (.goto 4, 3) := by decide +kernel
theorem d_X14_told_37 : decode b_X14_told 37 = .ok (.iconst 0, 1) := by decide +kernel
theorem d_X14_told_38 : decode b_X14_told 38 = .ok (.istore_n 2, 1) := by decide +kernel
theorem d_X14_told_39 : decode b_X14_told 39 = .ok (.aload_n 0, 1) := by decide +kernel
theorem d_X14_told_40 : decode b_X14_told 40 = .ok (.getfield 13, 3) := by decide +kernel
theorem d_X14_told_43 : decode b_X14_told 43 = .ok (.iload_n 1, 1) := by decide +kernel
theorem d_X14_told_44 : decode b_X14_told 44 = .ok (.iaload, 1) := by decide +kernel
theorem d_X14_told_45 : decode b_X14_told 45 = .ok (.iconst 4, 1) := by decide +kernel
theorem d_X14_told_46 : decode b_X14_told 46 = .ok (.if_icmp .ne 20, 3) := by decide +kernel
theorem d_X14_told_49 : decode b_X14_told 49 = .ok (.iload_n 2, 1) := by decide +kernel
theorem d_X14_told_50 : decode b_X14_told 50 = .ok (.ifCond .eq 14, 3) := by decide +kernel
theorem d_X14_told_53 : decode b_X14_told 53 = .ok (.aload_n 0, 1) := by decide +kernel
theorem d_X14_told_54 : decode b_X14_told 54 = .ok (.getfield 26, 3) := by decide +kernel
theorem d_X14_told_57 : decode b_X14_told 57 = .ok (.iload_n 1, 1) := by decide +kernel
theorem d_X14_told_58 : decode b_X14_told 58 = .ok (.iaload, 1) := by decide +kernel
theorem d_X14_told_59 : decode b_X14_told 59 = .ok (.iconst 1, 1) := by decide +kernel
theorem d_X14_told_60 : decode b_X14_told 60 = .ok (.iadd, 1) := by decide +kernel
theorem d_X14_told_61 : decode b_X14_told 61 = .ok (.goto 4, 3) := by decide +kernel
theorem d_X14_told_64 : decode b_X14_told 64 = .ok (.iconst (-1), 1) := by decide +kernel
theorem d_X14_told_65 : decode b_X14_told 65 = .ok (.ireturn, 1) := by decide +kernel
theorem d_X14_told_66 : decode b_X14_told 66 = .ok (.aload_n 0, 1) := by decide +kernel
theorem d_X14_told_67 : decode b_X14_told 67 = .ok (.getfield 13, 3) := by decide +kernel
theorem d_X14_told_70 : decode b_X14_told 70 = .ok (.iload_n 1, 1) := by decide +kernel
theorem d_X14_told_71 : decode b_X14_told 71 = .ok (.iaload, 1) := by decide +kernel
theorem d_X14_told_72 : decode b_X14_told 72 = .ok (.bipush 54, 2) := by decide +kernel
theorem d_X14_told_74 : decode b_X14_told 74 = .ok (.if_icmp .eq 5, 3) := by decide +kernel
theorem d_X14_told_77 : decode b_X14_told 77 = .ok (.iconst (-1), 1) := by decide +kernel
theorem d_X14_told_78 : decode b_X14_told 78 = .ok (.ireturn, 1) := by decide +kernel
theorem d_X14_told_79 : decode b_X14_told 79 = .ok (.iconst 1, 1) := by decide +kernel
theorem d_X14_told_80 : decode b_X14_told 80 = .ok (.istore_n 3, 1) := by decide +kernel
theorem d_X14_told_81 : decode b_X14_told 81 = .ok (.iconst 0, 1) := by decide +kernel
theorem d_X14_told_82 : decode b_X14_told 82 = .ok (.istore 4, 2) := by decide +kernel
theorem d_X14_told_84 : decode b_X14_told 84 = .ok (.aload_n 0, 1) := by decide +kernel
theorem d_X14_told_85 : decode b_X14_told 85 = .ok (.getfield 13, 3) := by decide +kernel
theorem d_X14_told_88 : decode b_X14_told 88 = .ok (.iload_n 1, 1) := by decide +kernel
theorem d_X14_told_89 : decode b_X14_told 89 = .ok (.iaload, 1) := by decide +kernel
theorem d_X14_told_90 : decode b_X14_told 90 = .ok (.ifCond .eq 101, 3) := by decide +kernel
theorem d_X14_told_93 : decode b_X14_told 93 = .ok (.aload_n 0, 1) := by decide +kernel
theorem d_X14_told_94 : decode b_X14_told 94 = .ok (.getfield 13, 3) := by decide +kernel
theorem d_X14_told_97 : decode b_X14_told 97 = .ok (.iload_n 1, 1) := by decide +kernel
theorem d_X14_told_98 : decode b_X14_told 98 = .ok (.iaload, 1) := by decide +kernel
theorem d_X14_told_99 : decode b_X14_told 99 = .ok (.iconst 1, 1) := by decide +kernel
theorem d_X14_told_100 : decode b_X14_told 100 = .ok (.if_icmp .eq 91, 3) := by decide +kernel
theorem d_X14_told_103 : decode b_X14_told 103 = .ok (.aload_n 0, 1) := by decide +kernel
theorem d_X14_told_104 : decode b_X14_told 104 = .ok (.getfield 13, 3) := by decide +kernel
theorem d_X14_told_107 : decode b_X14_told 107 = .ok (.iload_n 1, 1) := by decide +kernel
theorem d_X14_told_108 : decode b_X14_told 108 = .ok (.iaload, 1) := by decide +kernel
theorem d_X14_told_109 : decode b_X14_told 109 = .ok (.bipush 32, 2) := by decide +kernel
theorem d_X14_told_111 : decode b_X14_told 111 = .ok (.isub, 1) := by decide +kernel
theorem d_X14_told_112 : decode b_X14_told 112 = .ok (.istore 5, 2) := by decide +kernel
theorem d_X14_told_114 : decode b_X14_told 114 = .ok (.iload 5, 2) := by decide +kernel
theorem d_X14_told_116 : decode b_X14_told 116 = .ok (.bipush 20, 2) := by decide +kernel
theorem d_X14_told_118 : decode b_X14_told 118 = .ok (.if_icmp .eq 17, 3) := by decide +kernel
theorem d_X14_told_121 : decode b_X14_told 121 = .ok (.iload 5, 2) := by decide +kernel
theorem d_X14_told_123 : decode b_X14_told 123 = .ok (.bipush 22, 2) := by decide +kernel
theorem d_X14_told_125 : decode b_X14_told 125 = .ok (.if_icmp .eq 10, 3) := by decide +kernel
theorem d_X14_told_128 : decode b_X14_told 128 = .ok (.iload 5, 2) := by decide +kernel
theorem d_X14_told_130 : decode b_X14_told 130 = .ok (.bipush 24, 2) := by decide +kernel
theorem d_X14_told_132 : decode b_X14_told 132 = .ok (.if_icmp .ne 6, 3) := by decide +kernel
theorem d_X14_told_135 : decode b_X14_told 135 = .ok (.iinc 4 1, 3) := by decide +kernel
theorem d_X14_told_138 : decode b_X14_told 138 = .ok (.iload 5, 2) := by decide +kernel
theorem d_X14_told_140 : decode b_X14_told 140 = .ok (.bipush 21, 2) := by decide +kernel
theorem d_X14_told_142 : decode b_X14_told 142 = .ok (.if_icmp .eq 17, 3) := by decide +kernel
theorem d_X14_told_145 : decode b_X14_told 145 = .ok (.iload 5, 2) := by decide +kernel
theorem d_X14_told_147 : decode b_X14_told 147 = .ok (.bipush 23, 2) := by decide +kernel
theorem d_X14_told_149 : decode b_X14_told 149 = .ok (.if_icmp .eq 10, 3) := by decide +kernel
theorem d_X14_told_152 : decode b_X14_told 152 = .ok (.iload 5, 2) := by decide +kernel
theorem d_X14_told_154 : decode b_X14_told 154 = .ok (.bipush 25, 2) := by decide +kernel
theorem d_X14_told_156 : decode b_X14_told 156 = .ok (.if_icmp .ne 6, 3) := by decide +kernel
theorem d_X14_told_159 : decode b_X14_told 159 = .ok (.iinc 4 (-1), 3) := by decide +kernel
theorem d_X14_told_162 : decode b_X14_told 162 = .ok (.iload 4, 2) := by decide +kernel
theorem d_X14_told_164 : decode b_X14_told 164 = .ok (.ifCond .ne 5, 3) := by decide +kernel
theorem d_X14_told_167 : decode b_X14_told 167 = .ok (.iload_n 3, 1) := by decide +kernel
theorem d_X14_told_168 : decode b_X14_told 168 = .ok (.ireturn, 1) := by decide +kernel
theorem d_X14_told_169 : decode b_X14_told 169 = .ok (.iload 5, 2) := by decide +kernel
theorem d_X14_told_171 : decode b_X14_told 171 = .ok (.bipush 26, 2) := by decide +kernel
theorem d_X14_told_173 : decode b_X14_told 173 = .ok (.if_icmp .ne 12, 3) := by decide +kernel
theorem d_X14_told_176 : decode b_X14_told 176 = .ok (.iload 4, 2) := by decide +kernel
theorem d_X14_told_178 : decode b_X14_told 178 = .ok (.iconst 1, 1) := by decide +kernel
theorem d_X14_told_179 : decode b_X14_told 179 = .ok (.if_icmp .ne 6, 3) := by decide +kernel
theorem d_X14_told_182 : decode b_X14_told 182 = .ok (.iinc 3 1, 3) := by decide +kernel
theorem d_X14_told_185 : decode b_X14_told 185 = .ok (.iinc 1 1, 3) := by decide +kernel
theorem d_X14_told_188 : decode b_X14_told 188 = .ok (.goto (-104), 3) := by decide +kernel
theorem d_X14_told_191 : decode b_X14_told 191 = .ok (.iload_n 3, 1) := by decide +kernel
theorem d_X14_told_192 : decode b_X14_told 192 = .ok (.ireturn, 1) := by decide +kernel
theorem d_X14_trap_0 : decode b_X14_trap 0 = .ok (.iload_n 1, 1) := by decide +kernel
theorem d_X14_trap_1 : decode b_X14_trap 1 = .ok (.ifCond .ne 10, 3) := by decide +kernel
theorem d_X14_trap_4 : decode b_X14_trap 4 = .ok (.aload_n 0, 1) := by decide +kernel
theorem d_X14_trap_5 : decode b_X14_trap 5 = .ok (.getfield 762, 3) := by decide +kernel
theorem d_X14_trap_8 : decode b_X14_trap 8 = .ok (.goto 16, 3) := by decide +kernel
theorem d_X14_trap_11 : decode b_X14_trap 11 = .ok (.iload_n 1, 1) := by decide +kernel
theorem d_X14_trap_12 : decode b_X14_trap 12 = .ok (.iconst 1, 1) := by decide +kernel
theorem d_X14_trap_13 : decode b_X14_trap 13 = .ok (.if_icmp .ne 10, 3) := by decide +kernel
theorem d_X14_trap_16 : decode b_X14_trap 16 = .ok (.aload_n 0, 1) := by decide +kernel
theorem d_X14_trap_17 : decode b_X14_trap 17 = .ok (.getfield 765, 3) := by decide +kernel
theorem d_X14_trap_20 : decode b_X14_trap 20 = .ok (.goto 4, 3) := by decide +kernel
theorem d_X14_trap_23 : decode b_X14_trap 23 = .ok (.iconst 0, 1) := by decide +kernel
theorem d_X14_trap_24 : decode b_X14_trap 24 = .ok (.ireturn, 1) := by decide +kernel
theorem d_X14_trapped_0 : decode b_X14_trapped 0 = .ok (.aload_n 0, 1) := by decide +kernel
theorem d_X14_trapped_1 : decode b_X14_trapped 1 = .ok (.iload_n 1, 1) := by decide +kernel
theorem d_X14_trapped_2 : decode b_X14_trapped 2 = .ok (.aload_n 0, 1) := by decide +kernel
theorem d_X14_trapped_3 : decode b_X14_trapped 3 = .ok (.getfield 102, 3) := by decide +kernel
theorem d_X14_trapped_6 : decode b_X14_trapped 6 = .ok (.aload_n 0, 1) := by decide +kernel
theorem d_X14_trapped_7 : decode b_X14_trapped 7 = .ok (.getfield 182, 3) := by decide +kernel
theorem d_X14_trapped_10 : decode b_X14_trapped 10 = .ok (.aload_n 0, 1) := by decide +kernel
theorem d_X14_trapped_11 : decode b_X14_trapped 11 = .ok (.getfield 771, 3) := by decide +kernel
theorem d_X14_trapped_14 : decode b_X14_trapped 14 = .ok (.iconst 1, 1) := by decide +kernel
theorem d_X14_trapped_15 : decode b_X14_trapped 15 = .ok (.isub, 1) := by decide +kernel
theorem d_X14_trapped_16 : decode b_X14_trapped 16 = .ok (.iaload, 1) := by decide +kernel
theorem d_X14_trapped_17 : decode b_X14_trapped 17 = .ok (.iaload, 1) := by decide +kernel
theorem d_X14_trapped_18 : decode b_X14_trapped 18 = .ok (.iconst 1, 1) := by decide +kernel
theorem d_X14_trapped_19 : decode b_X14_trapped 19 = .ok (.iadd, 1) := by decide +kernel
theorem d_X14_trapped_20 : decode b_X14_trapped 20 = .ok (.iload_n 2, 1) := by decide +kernel
theorem d_X14_trapped_21 : decode b_X14_trapped 21 = .ok (.invokevirtual 784, 3) := by decide +kernel
theorem d_X14_trapped_24 : decode b_X14_trapped 24 = .ok (.return_, 1) := by decide +kernel
theorem d_X14_turns_0 : decode b_X14_turns 0 = .ok (.aload_n 0, 1) := by decide +kernel
theorem d_X14_turns_1 : decode b_X14_turns 1 = .ok (.getfield 756, 3) := by decide +kernel
theorem d_X14_turns_4 : decode b_X14_turns 4 = .ok (.ireturn, 1) := by decide +kernel
theorem d_X14_two_0 : decode b_X14_two 0 = .ok (.iload_n 1, 1) := by decide +kernel
theorem d_X14_two_1 : decode b_X14_two 1 = .ok (.aload_n 2, 1) := by decide +kernel
theorem d_X14_two_2 : decode b_X14_two 2 = .ok (.aload_n 3, 1) := by decide +kernel
theorem d_X14_two_3 : decode b_X14_two 3 = .ok (.invokestatic 450, 3) := by decide +kernel
theorem d_X14_two_6 : decode b_X14_two 6 = .ok (.istore 5, 2) := by decide +kernel
theorem d_X14_two_8 : decode b_X14_two 8 = .ok (.aload_n 0, 1) := by decide +kernel
theorem d_X14_two_9 : decode b_X14_two 9 = .ok (.iload 5, 2) := by decide +kernel
theorem d_X14_two_11 : decode b_X14_two 11 = .ok (.bipush (-2), 2) := by decide +kernel
theorem d_X14_two_13 : decode b_X14_two 13 = .ok (.if_icmp .eq 7, 3) := by decide +kernel
theorem d_X14_two_16 : decode b_X14_two 16 = .ok (.iconst 1, 1) := by decide +kernel
theorem d_X14_two_17 : decode b_X14_two 17 = .ok (.goto 4, 3) := by decide +kernel
theorem d_X14_two_20 : decode b_X14_two 20 = .ok (.iconst 0, 1) := by decide +kernel
theorem d_X14_two_21 : decode b_X14_two 21 = .ok (.iload 4, 2) := by decide +kernel
theorem d_X14_two_23 : decode b_X14_two 23 = .ok (.invokevirtual 410, 3) := by decide +kernel
theorem d_X14_two_26 : decode b_X14_two 26 = .ok (.aload_n 0, 1) := by decide +kernel
theorem d_X14_two_27 : decode b_X14_two 27 = .ok (.iload 5, 2) := by decide +kernel
theorem d_X14_two_29 : decode b_X14_two 29 = .ok (.aload_n 2, 1) := by decide +kernel
theorem d_X14_two_30 : decode b_X14_two 30 = .ok (.aload_n 3, 1) := by decide +kernel
theorem d_X14_two_31 : decode b_X14_two 31 = .ok (.iload 4, 2) := by decide +kernel
theorem d_X14_two_33 : decode b_X14_two 33 = .ok (.invokevirtual 414, 3) := by decide +kernel
theorem d_X14_two_36 : decode b_X14_two 36 = .ok (.astore 6, 2) := by decide +kernel
theorem d_X14_two_38 : decode b_X14_two 38 = .ok (.iload_n 1, 1) := by decide +kernel
theorem d_X14_two_39 : decode b_X14_two 39 = .ok (.invokestatic 440, 3) := by decide +kernel
theorem d_X14_two_42 : decode b_X14_two 42 = .ok (.bipush 7, 2) := by decide +kernel
theorem d_X14_two_44 : decode b_X14_two 44 = .ok (.if_icmp .ne 14, 3) := by decide +kernel
theorem d_X14_two_47 : decode b_X14_two 47 = .ok (.aload_n 2, 1) := by decide +kernel
theorem d_X14_two_48 : decode b_X14_two 48 = .ok (.invokestatic 434, 3) := by decide +kernel
theorem d_X14_two_51 : decode b_X14_two 51 = .ok (.ifCond .eq 7, 3) := by decide +kernel
theorem d_X14_two_54 : decode b_X14_two 54 = .ok (.iconst 1, 1) := by decide +kernel
theorem d_X14_two_55 : decode b_X14_two 55 = .ok (.goto 4, 3) := by decide +kernel
theorem d_X14_two_58 : decode b_X14_two 58 = .ok (.iconst 0, 1) := by decide +kernel
theorem d_X14_two_59 : decode b_X14_two 59 = .ok (.istore 7, 2) := by decide +kernel
theorem d_X14_two_61 : decode b_X14_two 61 = .ok (.aload_n 0, 1) := by decide +kernel
theorem d_X14_two_62 : decode b_X14_two 62 = .ok (.bipush 11, 2) := by decide +kernel
theorem d_X14_two_64 : decode b_X14_two 64 = .ok (.iload 7, 2) := by decide +kernel
theorem d_X14_two_66 : decode b_X14_two 66 = .ok (.ifCond .eq 10, 3) := by decide +kernel
theorem d_X14_two_69 : decode b_X14_two 69 = .ok (.iload_n 1, 1) := by decide +kernel
theorem d_X14_two_70 : decode b_X14_two 70 = .ok (.bipush 100, 2) := by decide +kernel
theorem d_X14_two_72 : decode b_X14_two 72 = .ok (.iadd, 1) := by decide +kernel
theorem d_X14_two_73 : decode b_X14_two 73 = .ok (.goto 4, 3) := by decide +kernel
theorem d_X14_two_76 : decode b_X14_two 76 = .ok (.iload_n 1, 1) := by decide +kernel
theorem d_X14_two_77 : decode b_X14_two 77 = .ok (.aload_n 0, 1) := by decide +kernel
theorem d_X14_two_78 : decode b_X14_two 78 = .ok (.getfield 23, 3) := by decide +kernel
theorem d_X14_two_81 : decode b_X14_two 81 = .ok (.iload 4, 2) := by decide +kernel
theorem d_X14_two_83 : decode b_X14_two 83 = .ok (.iaload, 1) := by decide +kernel
theorem d_X14_two_84 : decode b_X14_two 84 = .ok (.invokevirtual 418, 3) := by decide +kernel
theorem d_X14_two_87 : decode b_X14_two 87 = .ok (.aload 6, 2) := by decide +kernel
theorem d_X14_two_89 : decode b_X14_two 89 = .ok (.getfield 371, 3) := by decide +kernel
theorem d_X14_two_92 : decode b_X14_two 92 = .ok (.bipush 60, 2) := by decide +kernel
theorem d_X14_two_94 : decode b_X14_two 94 = .ok (.if_icmp .le 6, 3) := by decide +kernel
theorem d_X14_two_97 : decode b_X14_two 97 = .ok (.aload 6, 2) := by decide +kernel
theorem d_X14_two_99 : decode b_X14_two 99 = .ok (.areturn, 1) := by decide +kernel
theorem d_X14_two_100 : decode b_X14_two 100 = .ok (.aload_n 2, 1) := by decide +kernel
theorem d_X14_two_101 : decode b_X14_two 101 = .ok (.getfield 454, 3) := by decide +kernel
theorem d_X14_two_104 : decode b_X14_two 104 = .ok (.iconst 1, 1) := by decide +kernel
theorem d_X14_two_105 : decode b_X14_two 105 = .ok (.if_icmp .ne 67, 3) := by decide +kernel
theorem d_X14_two_108 : decode b_X14_two 108 = .ok (.aload_n 3, 1) := by decide +kernel
theorem d_X14_two_109 : decode b_X14_two 109 = .ok (.getfield 454, 3) := by decide +kernel
theorem d_X14_two_112 : decode b_X14_two 112 = .ok (.iconst 1, 1) := by decide +kernel
theorem d_X14_two_113 : decode b_X14_two 113 = .ok (.if_icmp .ne 59, 3) := by decide +kernel
theorem d_X14_two_116 : decode b_X14_two 116 = .ok (.aload_n 2, 1) := by decide +kernel
theorem d_X14_two_117 : decode b_X14_two 117 = .ok (.invokestatic 406, 3) := by decide +kernel
theorem d_X14_two_120 : decode b_X14_two 120 = .ok (.ifCond .eq 52, 3) := by decide +kernel
theorem d_X14_two_123 : decode b_X14_two 123 = .ok (.aload_n 3, 1) := by decide +kernel
theorem d_X14_two_124 : decode b_X14_two 124 = .ok (.invokestatic 406, 3) := by decide +kernel
theorem d_X14_two_127 : decode b_X14_two 127 = .ok (.ifCond .eq 45, 3) := by decide +kernel
theorem d_X14_two_130 : decode b_X14_two 130 = .ok (.iload_n 1, 1) := by decide +kernel
theorem d_X14_two_131 : decode b_X14_two 131 = .ok (.bipush 39, 2) := by decide +kernel
theorem d_X14_two_133 : decode b_X14_two 133 = .ok (.if_icmp .eq 9, 3) := by decide +kernel
theorem d_X14_two_136 : decode b_X14_two 136 = .ok (.iload_n 1, 1) := by decide +kernel
theorem d_X14_two_137 : decode b_X14_two 137 = .ok (.bipush 40, 2) := by decide +kernel
theorem d_X14_two_139 : decode b_X14_two 139 = .ok (.if_icmp .ne 15, 3) := by decide +kernel
theorem d_X14_two_142 : decode b_X14_two 142 = .ok (.aload_n 3, 1) := by decide +kernel
theorem d_X14_two_143 : decode b_X14_two 143 = .ok (.getfield 457, 3) := by decide +kernel
theorem d_X14_two_146 : decode b_X14_two 146 = .ok (.ifCond .ne 8, 3) := by decide +kernel
theorem d_X14_two_149 : decode b_X14_two 149 = .ok (.aload 6, 2) := by decide +kernel
theorem d_X14_two_151 : decode b_X14_two 151 = .ok (.goto 20, 3) := by decide +kernel
theorem d_X14_two_154 : decode b_X14_two 154 = .ok (.aload 6, 2) := by decide +kernel
theorem d_X14_two_156 : decode b_X14_two 156 = .ok (.iload_n 1, 1) := by decide +kernel
theorem d_X14_two_157 : decode b_X14_two 157 = .ok (.aload_n 2, 1) := by decide +kernel
theorem d_X14_two_158 : decode b_X14_two 158 = .ok (.getfield 457, 3) := by decide +kernel
theorem d_X14_two_161 : decode b_X14_two 161 = .ok (.aload_n 3, 1) := by decide +kernel
theorem d_X14_two_162 : decode b_X14_two 162 = .ok (.getfield 457, 3) := by decide +kernel
theorem d_X14_two_165 : decode b_X14_two 165 = .ok (.invokestatic 460, 3) := by decide +kernel
theorem d_X14_two_168 : decode b_X14_two 168 = .ok (.invokevirtual 464, 3) := by decide +kernel
theorem d_X14_two_171 : decode b_X14_two 171 = .ok (.areturn, 1) := by decide +kernel
theorem d_X14_two_172 : decode b_X14_two 172 = .ok (.iload_n 1, 1) := by decide +kernel
theorem d_X14_two_173 : decode b_X14_two 173 = .ok (.bipush 36, 2) := by decide +kernel
theorem d_X14_two_175 : decode b_X14_two 175 = .ok (.if_icmp .eq 9, 3) := by decide +kernel
theorem d_X14_two_178 : decode b_X14_two 178 = .ok (.iload_n 1, 1) := by decide +kernel
theorem d_X14_two_179 : decode b_X14_two 179 = .ok (.bipush 37, 2) := by decide +kernel
theorem d_X14_two_181 : decode b_X14_two 181 = .ok (.if_icmp .ne 15, 3) := by decide +kernel
theorem d_X14_two_184 : decode b_X14_two 184 = .ok (.aload 6, 2) := by decide +kernel
theorem d_X14_two_186 : decode b_X14_two 186 = .ok (.invokestatic 434, 3) := by decide +kernel
theorem d_X14_two_189 : decode b_X14_two 189 = .ok (.ifCond .eq 7, 3) := by decide +kernel
theorem d_X14_two_192 : decode b_X14_two 192 = .ok (.iconst 1, 1) := by decide +kernel
theorem d_X14_two_193 : decode b_X14_two 193 = .ok (.goto 4, 3) := by decide +kernel
theorem d_X14_two_196 : decode b_X14_two 196 = .ok (.iconst 0, 1) := by decide +kernel
theorem d_X14_two_197 : decode b_X14_two 197 = .ok (.istore 8, 2) := by decide +kernel
theorem d_X14_two_199 : decode b_X14_two 199 = .ok (.iload 8, 2) := by decide +kernel
theorem d_X14_two_201 : decode b_X14_two 201 = .ok (.ifCond .eq 56, 3) := by decide +kernel
theorem d_X14_two_204 : decode b_X14_two 204 = .ok (.aload_n 2, 1) := by decide +kernel
theorem d_X14_two_205 : decode b_X14_two 205 = .ok (.getfield 454, 3) := by decide +kernel
theorem d_X14_two_208 : decode b_X14_two 208 = .ok (.iconst 2, 1) := by decide +kernel
theorem d_X14_two_209 : decode b_X14_two 209 = .ok (.if_icmp .ne 48, 3) := by decide +kernel
theorem d_X14_two_212 : decode b_X14_two 212 = .ok (.aload_n 3, 1) := by decide +kernel
theorem d_X14_two_213 : decode b_X14_two 213 = .ok (.getfield 454, 3) := by decide +kernel
theorem d_X14_two_216 : decode b_X14_two 216 = .ok (.iconst 1, 1) := by decide +kernel
theorem d_X14_two_217 : decode b_X14_two 217 = .ok (.if_icmp .ne 40, 3) := by decide +kernel
theorem d_X14_two_220 : decode b_X14_two 220 = .ok (.aload 6, 2) := by decide +kernel
theorem d_X14_two_222 : decode b_X14_two 222 = .ok (.aload_n 2, 1) := by decide +kernel
theorem d_X14_two_223 : decode b_X14_two 223 = .ok (.getfield 467, 3) := by decide +kernel
theorem d_X14_two_226 : decode b_X14_two 226 = .ok (.iload_n 1, 1) := by decide +kernel
theorem d_X14_two_227 : decode b_X14_two 227 = .ok (.bipush 36, 2) := by decide +kernel
theorem d_X14_two_229 : decode b_X14_two 229 = .ok (.if_icmp .ne 15, 3) := by decide +kernel
theorem d_X14_two_232 : decode b_X14_two 232 = .ok (.aload_n 2, 1) := by decide +kernel
theorem d_X14_two_233 : decode b_X14_two 233 = .ok (.getfield 457, 3) := by decide +kernel
theorem d_X14_two_236 : decode b_X14_two 236 = .ok (.aload_n 3, 1) := by decide +kernel
theorem d_X14_two_237 : decode b_X14_two 237 = .ok (.getfield 457, 3) := by decide +kernel
theorem d_X14_two_240 : decode b_X14_two 240 = .ok (.iadd, 1) := by decide +kernel
theorem d_X14_two_241 : decode b_X14_two 241 = .ok (.goto 12, 3) := by decide +kernel
theorem d_X14_two_244 : decode b_X14_two 244 = .ok (.aload_n 2, 1) := by decide +kernel
theorem d_X14_two_245 : decode b_X14_two 245 = .ok (.getfield 457, 3) := by decide +kernel
theorem d_X14_two_248 : decode b_X14_two 248 = .ok (.aload_n 3, 1) := by decide +kernel
theorem d_X14_two_249 : decode b_X14_two 249 = .ok (.getfield 457, 3) := by decide +kernel
theorem d_X14_two_252 : decode b_X14_two 252 = .ok (.isub, 1) := by decide +kernel
theorem d_X14_two_253 : decode b_X14_two 253 = .ok (.invokevirtual 470, 3) := by decide +kernel
theorem d_X14_two_256 : decode b_X14_two 256 = .ok (.areturn, 1) := by decide +kernel
theorem d_X14_two_257 : decode b_X14_two 257 = .ok (.iload 8, 2) := by decide +kernel
theorem d_X14_two_259 : decode b_X14_two 259 = .ok (.ifCond .eq 40, 3) := by decide +kernel
theorem d_X14_two_262 : decode b_X14_two 262 = .ok (.aload_n 2, 1) := by decide +kernel
theorem d_X14_two_263 : decode b_X14_two 263 = .ok (.getfield 454, 3) := by decide +kernel
theorem d_X14_two_266 : decode b_X14_two 266 = .ok (.iconst 1, 1) := by decide +kernel
theorem d_X14_two_267 : decode b_X14_two 267 = .ok (.if_icmp .ne 32, 3) := by decide +kernel
theorem d_X14_two_270 : decode b_X14_two 270 = .ok (.aload_n 3, 1) := by decide +kernel
theorem d_X14_two_271 : decode b_X14_two 271 = .ok (.getfield 454, 3) := by decide +kernel
theorem d_X14_two_274 : decode b_X14_two 274 = .ok (.iconst 2, 1) := by decide +kernel
theorem d_X14_two_275 : decode b_X14_two 275 = .ok (.if_icmp .ne 24, 3) := by decide +kernel
theorem d_X14_two_278 : decode b_X14_two 278 = .ok (.aload 6, 2) := by decide +kernel
theorem d_X14_two_280 : decode b_X14_two 280 = .ok (.aload_n 3, 1) := by decide +kernel
theorem d_X14_two_281 : decode b_X14_two 281 = .ok (.getfield 467, 3) := by decide +kernel
theorem d_X14_two_284 : decode b_X14_two 284 = .ok (.aload_n 2, 1) := by decide +kernel
theorem d_X14_two_285 : decode b_X14_two 285 = .ok (.getfield 457, 3) := by decide +kernel
theorem d_X14_two_288 : decode b_X14_two 288 = .ok (.aload_n 3, 1) := by decide +kernel
theorem d_X14_two_289 : decode b_X14_two 289 = .ok (.getfield 457, 3) := by decide +kernel
theorem d_X14_two_292 : decode b_X14_two 292 = .ok (.iadd, 1) := by decide +kernel
theorem d_X14_two_293 : decode b_X14_two 293 = .ok (.invokevirtual 470, 3) := by decide +kernel
theorem d_X14_two_296 : decode b_X14_two 296 = .ok (.goto 5, 3) := by decide +kernel
theorem d_X14_two_299 : decode b_X14_two 299 = .ok (.aload 6, 2) := by decide +kernel
theorem d_X14_two_301 : decode b_X14_two 301 = .ok (.areturn, 1) := by decide +kernel
theorem d_X14_typeOf_0 : decode b_X14_typeOf 0 = .ok (.aload_n 1, 1) := by decide +kernel
theorem d_X14_typeOf_1 : decode b_X14_typeOf 1 = .ok (.invokestatic 406, 3) := by decide +kernel
theorem d_X14_typeOf_4 : decode b_X14_typeOf 4 = .ok (.ifCond .eq 14, 3) := by decide +kernel
theorem d_X14_typeOf_7 : decode b_X14_typeOf 7 = .ok (.aload_n 2, 1) := by decide +kernel
theorem d_X14_typeOf_8 : decode b_X14_typeOf 8 = .ok (.invokestatic 406, 3) := by decide +kernel
theorem d_X14_typeOf_11 : decode b_X14_typeOf 11 = .ok (.ifCond .eq 7, 3) := by decide +kernel
theorem d_X14_typeOf_14 : decode b_X14_typeOf 14 = .ok (.iconst 1, 1) := by decide +kernel
theorem d_X14_typeOf_15 : decode b_X14_typeOf 15 = .ok (.goto 4, 3) := by decide +kernel
theorem d_X14_typeOf_18 : decode b_X14_typeOf 18 = .ok (.iconst 0, 1) := by decide +kernel
theorem d_X14_typeOf_19 : decode b_X14_typeOf 19 = .ok (.istore_n 3, 1) := by decide +kernel
theorem d_X14_typeOf_20 : decode b_X14_typeOf 20 = .ok (.aload_n 1, 1) := by decide +kernel
theorem d_X14_typeOf_21 : decode b_X14_typeOf 21 = .ok (.invokestatic 434, 3) := by decide +kernel
theorem d_X14_typeOf_24 : decode b_X14_typeOf 24 = .ok (.ifCond .eq 18, 3) := by decide +kernel
theorem d_X14_typeOf_27 : decode b_X14_typeOf 27 = .ok (.aload_n 1, 1) := by decide +kernel
theorem d_X14_typeOf_28 : decode b_X14_typeOf 28 = .ok (.getfield 352, 3) := by decide +kernel
theorem d_X14_typeOf_31 : decode b_X14_typeOf 31 = .ok (.aload_n 2, 1) := by decide +kernel
theorem d_X14_typeOf_32 : decode b_X14_typeOf 32 = .ok (.getfield 352, 3) := by decide +kernel
theorem d_X14_typeOf_35 : decode b_X14_typeOf 35 = .ok (.if_icmp .ne 7, 3) := by decide +kernel
theorem d_X14_typeOf_38 : decode b_X14_typeOf 38 = .ok (.iconst 1, 1) := by decide +kernel
theorem d_X14_typeOf_39 : decode b_X14_typeOf 39 = .ok (.goto 4, 3) := by decide +kernel
theorem d_X14_typeOf_42 : decode b_X14_typeOf 42 = .ok (.iconst 0, 1) := by decide +kernel
theorem d_X14_typeOf_43 : decode b_X14_typeOf 43 = .ok (.istore 4, 2) := by decide +kernel
theorem d_X14_typeOf_45 : decode b_X14_typeOf 45 = .ok (.iload_n 0, 1) := by decide +kernel
theorem d_X14_typeOf_46 : decode b_X14_typeOf 46 = .ok (.bipush 36, 2) := by decide +kernel
theorem d_X14_typeOf_48 : decode b_X14_typeOf 48 = .ok (.if_icmp .ne 56, 3) := by decide +kernel
theorem d_X14_typeOf_51 : decode b_X14_typeOf 51 = .ok (.iload_n 3, 1) := by decide +kernel
theorem d_X14_typeOf_52 : decode b_X14_typeOf 52 = .ok (.ifCond .eq 7, 3) := by decide +kernel
theorem d_X14_typeOf_55 : decode b_X14_typeOf 55 = .ok (.iconst 0, 1) := by decide +kernel
theorem d_X14_typeOf_56 : decode b_X14_typeOf 56 = .ok (.goto 47, 3) := by decide +kernel
theorem d_X14_typeOf_59 : decode b_X14_typeOf 59 = .ok (.aload_n 1, 1) := by decide +kernel
theorem d_X14_typeOf_60 : decode b_X14_typeOf 60 = .ok (.invokestatic 434, 3) := by decide +kernel
theorem d_X14_typeOf_63 : decode b_X14_typeOf 63 = .ok (.ifCond .eq 17, 3) := by decide +kernel
theorem d_X14_typeOf_66 : decode b_X14_typeOf 66 = .ok (.aload_n 2, 1) := by decide +kernel
theorem d_X14_typeOf_67 : decode b_X14_typeOf 67 = .ok (.invokestatic 406, 3) := by decide +kernel
theorem d_X14_typeOf_70 : decode b_X14_typeOf 70 = .ok (.ifCond .eq 10, 3) := by decide +kernel
theorem d_X14_typeOf_73 : decode b_X14_typeOf 73 = .ok (.aload_n 1, 1) := by decide +kernel
theorem d_X14_typeOf_74 : decode b_X14_typeOf 74 = .ok (.getfield 352, 3) := by decide +kernel
theorem d_X14_typeOf_77 : decode b_X14_typeOf 77 = .ok (.goto 26, 3) := by decide +kernel
theorem d_X14_typeOf_80 : decode b_X14_typeOf 80 = .ok (.aload_n 1, 1) := by decide +kernel
theorem d_X14_typeOf_81 : decode b_X14_typeOf 81 = .ok (.invokestatic 406, 3) := by decide +kernel
theorem d_X14_typeOf_84 : decode b_X14_typeOf 84 = .ok (.ifCond .eq 17, 3) := by decide +kernel
theorem d_X14_typeOf_87 : decode b_X14_typeOf 87 = .ok (.aload_n 2, 1) := by decide +kernel
theorem d_X14_typeOf_88 : decode b_X14_typeOf 88 = .ok (.invokestatic 434, 3) := by decide +kernel
theorem d_X14_typeOf_91 : decode b_X14_typeOf 91 = .ok (.ifCond .eq 10, 3) := by decide +kernel
theorem d_X14_typeOf_94 : decode b_X14_typeOf 94 = .ok (.aload_n 2, 1) := by decide +kernel
theorem d_X14_typeOf_95 : decode b_X14_typeOf 95 = .ok (.getfield 352, 3) := by decide +kernel
theorem d_X14_typeOf_98 : decode b_X14_typeOf 98 = .ok (.goto 5, 3) := by decide +kernel
theorem d_X14_typeOf_101 : decode b_X14_typeOf 101 = .ok (.bipush (-2), 2) := by decide +kernel
theorem d_X14_typeOf_103 : decode b_X14_typeOf 103 = .ok (.ireturn, 1) := by decide +kernel
theorem d_X14_typeOf_104 : decode b_X14_typeOf 104 = .ok (.iload_n 0, 1) := by decide +kernel
theorem d_X14_typeOf_105 : decode b_X14_typeOf 105 = .ok (.bipush 37, 2) := by decide +kernel
theorem d_X14_typeOf_107 : decode b_X14_typeOf 107 = .ok (.if_icmp .ne 40, 3) := by decide +kernel
theorem d_X14_typeOf_110 : decode b_X14_typeOf 110 = .ok (.iload_n 3, 1) := by decide +kernel
theorem d_X14_typeOf_111 : decode b_X14_typeOf 111 = .ok (.ifCond .ne 8, 3) := by decide +kernel
theorem d_X14_typeOf_114 : decode b_X14_typeOf 114 = .ok (.iload 4, 2) := by decide +kernel
theorem d_X14_typeOf_116 : decode b_X14_typeOf 116 = .ok (.ifCond .eq 7, 3) := by decide +kernel
theorem d_X14_typeOf_119 : decode b_X14_typeOf 119 = .ok (.iconst 0, 1) := by decide +kernel
theorem d_X14_typeOf_120 : decode b_X14_typeOf 120 = .ok (.goto 26, 3) := by decide +kernel
theorem d_X14_typeOf_123 : decode b_X14_typeOf 123 = .ok (.aload_n 1, 1) := by decide +kernel
theorem d_X14_typeOf_124 : decode b_X14_typeOf 124 = .ok (.invokestatic 434, 3) := by decide +kernel
theorem d_X14_typeOf_127 : decode b_X14_typeOf 127 = .ok (.ifCond .eq 17, 3) := by decide +kernel
theorem d_X14_typeOf_130 : decode b_X14_typeOf 130 = .ok (.aload_n 2, 1) := by decide +kernel
theorem d_X14_typeOf_131 : decode b_X14_typeOf 131 = .ok (.invokestatic 406, 3) := by decide +kernel
theorem d_X14_typeOf_134 : decode b_X14_typeOf 134 = .ok (.ifCond .eq 10, 3) := by decide +kernel
theorem d_X14_typeOf_137 : decode b_X14_typeOf 137 = .ok (.aload_n 1, 1) := by decide +kernel
theorem d_X14_typeOf_138 : decode b_X14_typeOf 138 = .ok (.getfield 352, 3) := by decide +kernel
theorem d_X14_typeOf_141 : decode b_X14_typeOf 141 = .ok (.goto 5, 3) := by decide +kernel
theorem d_X14_typeOf_144 : decode b_X14_typeOf 144 = .ok (.bipush (-2), 2) := by decide +kernel
theorem d_X14_typeOf_146 : decode b_X14_typeOf 146 = .ok (.ireturn, 1) := by decide +kernel
theorem d_X14_typeOf_147 : decode b_X14_typeOf 147 = .ok (.iload_n 0, 1) := by decide +kernel
theorem d_X14_typeOf_148 : decode b_X14_typeOf 148 = .ok (.bipush 12, 2) := by decide +kernel
theorem d_X14_typeOf_150 : decode b_X14_typeOf 150 = .ok (.if_icmp .eq 9, 3) := by decide +kernel
theorem d_X14_typeOf_153 : decode b_X14_typeOf 153 = .ok (.iload_n 0, 1) := by decide +kernel
theorem d_X14_typeOf_154 : decode b_X14_typeOf 154 = .ok (.bipush 13, 2) := by decide +kernel
theorem d_X14_typeOf_156 : decode b_X14_typeOf 156 = .ok (.if_icmp .ne 47, 3) := by decide +kernel
theorem d_X14_typeOf_159 : decode b_X14_typeOf 159 = .ok (.iload_n 3, 1) := by decide +kernel
theorem d_X14_typeOf_160 : decode b_X14_typeOf 160 = .ok (.ifCond .ne 36, 3) := by decide +kernel
theorem d_X14_typeOf_163 : decode b_X14_typeOf 163 = .ok (.iload 4, 2) := by decide +kernel
theorem d_X14_typeOf_165 : decode b_X14_typeOf 165 = .ok (.ifCond .ne 31, 3) := by decide +kernel
theorem d_X14_typeOf_168 : decode b_X14_typeOf 168 = .ok (.aload_n 1, 1) := by decide +kernel
theorem d_X14_typeOf_169 : decode b_X14_typeOf 169 = .ok (.invokestatic 434, 3) := by decide +kernel
theorem d_X14_typeOf_172 : decode b_X14_typeOf 172 = .ok (.ifCond .eq 10, 3) := by decide +kernel
theorem d_X14_typeOf_175 : decode b_X14_typeOf 175 = .ok (.aload_n 2, 1) := by decide +kernel
theorem d_X14_typeOf_176 : decode b_X14_typeOf 176 = .ok (.getfield 357, 3) := by decide +kernel
theorem d_X14_typeOf_179 : decode b_X14_typeOf 179 = .ok (.ifCond .ne 17, 3) := by decide +kernel
theorem d_X14_typeOf_182 : decode b_X14_typeOf 182 = .ok (.aload_n 2, 1) := by decide +kernel
theorem d_X14_typeOf_183 : decode b_X14_typeOf 183 = .ok (.invokestatic 434, 3) := by decide +kernel
theorem d_X14_typeOf_186 : decode b_X14_typeOf 186 = .ok (.ifCond .eq 14, 3) := by decide +kernel
theorem d_X14_typeOf_189 : decode b_X14_typeOf 189 = .ok (.aload_n 1, 1) := by decide +kernel
theorem d_X14_typeOf_190 : decode b_X14_typeOf 190 = .ok (.getfield 357, 3) := by decide +kernel
theorem d_X14_typeOf_193 : decode b_X14_typeOf 193 = .ok (.ifCond .eq 7, 3) := by decide +kernel
theorem d_X14_typeOf_196 : decode b_X14_typeOf 196 = .ok (.iconst 0, 1) := by decide +kernel
theorem d_X14_typeOf_197 : decode b_X14_typeOf 197 = .ok (.goto 5, 3) := by decide +kernel
theorem d_X14_typeOf_200 : decode b_X14_typeOf 200 = .ok (.bipush (-2), 2) := by decide +kernel
theorem d_X14_typeOf_202 : decode b_X14_typeOf 202 = .ok (.ireturn, 1) := by decide +kernel
theorem d_X14_typeOf_203 : decode b_X14_typeOf 203 = .ok (.iload_n 0, 1) := by decide +kernel
theorem d_X14_typeOf_204 : decode b_X14_typeOf 204 = .ok (.invokestatic 440, 3) := by decide +kernel
theorem d_X14_typeOf_207 : decode b_X14_typeOf 207 = .ok (.bipush 7, 2) := by decide +kernel
theorem d_X14_typeOf_209 : decode b_X14_typeOf 209 = .ok (.if_icmp .ne 19, 3) := by decide +kernel
theorem d_X14_typeOf_212 : decode b_X14_typeOf 212 = .ok (.iload_n 3, 1) := by decide +kernel
theorem d_X14_typeOf_213 : decode b_X14_typeOf 213 = .ok (.ifCond .ne 8, 3) := by decide +kernel
theorem d_X14_typeOf_216 : decode b_X14_typeOf 216 = .ok (.iload 4, 2) := by decide +kernel
theorem d_X14_typeOf_218 : decode b_X14_typeOf 218 = .ok (.ifCond .eq 7, 3) := by decide +kernel
theorem d_X14_typeOf_221 : decode b_X14_typeOf 221 = .ok (.iconst 0, 1) := by decide +kernel
theorem d_X14_typeOf_222 : decode b_X14_typeOf 222 = .ok (.goto 5, 3) := by decide +kernel
theorem d_X14_typeOf_225 : decode b_X14_typeOf 225 = .ok (.bipush (-2), 2) := by decide +kernel
theorem d_X14_typeOf_227 : decode b_X14_typeOf 227 = .ok (.ireturn, 1) := by decide +kernel
theorem d_X14_typeOf_228 : decode b_X14_typeOf 228 = .ok (.iload_n 3, 1) := by decide +kernel
theorem d_X14_typeOf_229 : decode b_X14_typeOf 229 = .ok (.ifCond .eq 7, 3) := by decide +kernel
theorem d_X14_typeOf_232 : decode b_X14_typeOf 232 = .ok (.iconst 0, 1) := by decide +kernel
theorem d_X14_typeOf_233 : decode b_X14_typeOf 233 = .ok (.goto 5, 3) := by decide +kernel
theorem d_X14_typeOf_236 : decode b_X14_typeOf 236 = .ok (.bipush (-2), 2) := by decide +kernel
theorem d_X14_typeOf_238 : decode b_X14_typeOf 238 = .ok (.ireturn, 1) := by decide +kernel
theorem d_X14_unary_0 : decode b_X14_unary 0 = .ok (.aload_n 0, 1) := by decide +kernel
theorem d_X14_unary_1 : decode b_X14_unary 1 = .ok (.getfield 288, 3) := by decide +kernel
theorem d_X14_unary_4 : decode b_X14_unary 4 = .ok (.istore_n 2, 1) := by decide +kernel
theorem d_X14_unary_5 : decode b_X14_unary 5 = .ok (.aload_n 0, 1) := by decide +kernel
theorem d_X14_unary_6 : decode b_X14_unary 6 = .ok (.invokevirtual 383, 3) := by decide +kernel
theorem d_X14_unary_9 : decode b_X14_unary 9 = .ok (.istore_n 3, 1) := by decide +kernel
theorem d_X14_unary_10 : decode b_X14_unary 10 = .ok (.iload_n 3, 1) := by decide +kernel
theorem d_X14_unary_11 : decode b_X14_unary 11 = .ok (.bipush 37, 2) := by decide +kernel
theorem d_X14_unary_13 : decode b_X14_unary 13 = .ok (.if_icmp .eq 39, 3) := by decide +kernel
theorem d_X14_unary_16 : decode b_X14_unary 16 = .ok (.iload_n 3, 1) := by decide +kernel
theorem d_X14_unary_17 : decode b_X14_unary 17 = .ok (.bipush 41, 2) := by decide +kernel
theorem d_X14_unary_19 : decode b_X14_unary 19 = .ok (.if_icmp .eq 33, 3) := by decide +kernel
theorem d_X14_unary_22 : decode b_X14_unary 22 = .ok (.iload_n 3, 1) := by decide +kernel
theorem d_X14_unary_23 : decode b_X14_unary 23 = .ok (.bipush 42, 2) := by decide +kernel
theorem d_X14_unary_25 : decode b_X14_unary 25 = .ok (.if_icmp .eq 27, 3) := by decide +kernel
theorem d_X14_unary_28 : decode b_X14_unary 28 = .ok (.iload_n 3, 1) := by decide +kernel
theorem d_X14_unary_29 : decode b_X14_unary 29 = .ok (.bipush 38, 2) := by decide +kernel
theorem d_X14_unary_31 : decode b_X14_unary 31 = .ok (.if_icmp .eq 21, 3) := by decide +kernel
theorem d_X14_unary_34 : decode b_X14_unary 34 = .ok (.iload_n 3, 1) := by decide +kernel
theorem d_X14_unary_35 : decode b_X14_unary 35 = .ok (.bipush 33, 2) := by decide +kernel
theorem d_X14_unary_37 : decode b_X14_unary 37 = .ok (.if_icmp .eq 15, 3) := by decide +kernel
theorem d_X14_unary_40 : decode b_X14_unary 40 = .ok (.iload_n 3, 1) := by decide +kernel
theorem d_X14_unary_41 : decode b_X14_unary 41 = .ok (.bipush 18, 2) := by decide +kernel
theorem d_X14_unary_43 : decode b_X14_unary 43 = .ok (.if_icmp .eq 9, 3) := by decide +kernel
theorem d_X14_unary_46 : decode b_X14_unary 46 = .ok (.iload_n 3, 1) := by decide +kernel
theorem d_X14_unary_47 : decode b_X14_unary 47 = .ok (.bipush 19, 2) := by decide +kernel
theorem d_X14_unary_49 : decode b_X14_unary 49 = .ok (.if_icmp .ne 95, 3) := by decide +kernel
theorem d_X14_unary_52 : decode b_X14_unary 52 = .ok (.aload_n 0, 1) := by decide +kernel
theorem d_X14_unary_53 : decode b_X14_unary 53 = .ok (.iload_n 1, 1) := by decide +kernel
theorem d_X14_unary_54 : decode b_X14_unary 54 = .ok (.invokevirtual 389, 3) := by decide +kernel
theorem d_X14_unary_57 : decode b_X14_unary 57 = .ok (.istore 4, 2) := by decide +kernel
theorem d_X14_unary_59 : decode b_X14_unary 59 = .ok (.aload_n 0, 1) := by decide +kernel
theorem d_X14_unary_60 : decode b_X14_unary 60 = .ok (.dup, 1) := by decide +kernel
theorem d_X14_unary_61 : decode b_X14_unary 61 = .ok (.getfield 288, 3) := by decide +kernel
theorem d_X14_unary_64 : decode b_X14_unary 64 = .ok (.iconst 1, 1) := by decide +kernel
theorem d_X14_unary_65 : decode b_X14_unary 65 = .ok (.iadd, 1) := by decide +kernel
theorem d_X14_unary_66 : decode b_X14_unary 66 = .ok (.putfield 288, 3) := by decide +kernel
theorem d_X14_unary_69 : decode b_X14_unary 69 = .ok (.aload_n 0, 1) := by decide +kernel
theorem d_X14_unary_70 : decode b_X14_unary 70 = .ok (.iload 4, 2) := by decide +kernel
theorem d_X14_unary_72 : decode b_X14_unary 72 = .ok (.invokevirtual 437, 3) := by decide +kernel
theorem d_X14_unary_75 : decode b_X14_unary 75 = .ok (.astore 5, 2) := by decide +kernel
theorem d_X14_unary_77 : decode b_X14_unary 77 = .ok (.iload_n 3, 1) := by decide +kernel
theorem d_X14_unary_78 : decode b_X14_unary 78 = .ok (.bipush 33, 2) := by decide +kernel
theorem d_X14_unary_80 : decode b_X14_unary 80 = .ok (.if_icmp .ne 11, 3) := by decide +kernel
theorem d_X14_unary_83 : decode b_X14_unary 83 = .ok (.aload_n 0, 1) := by decide +kernel
theorem d_X14_unary_84 : decode b_X14_unary 84 = .ok (.aload 5, 2) := by decide +kernel
theorem d_X14_unary_86 : decode b_X14_unary 86 = .ok (.iload_n 2, 1) := by decide +kernel
theorem d_X14_unary_87 : decode b_X14_unary 87 = .ok (.invokevirtual 480, 3) := by decide +kernel
theorem d_X14_unary_90 : decode b_X14_unary 90 = .ok (.areturn, 1) := by decide +kernel
theorem d_X14_unary_91 : decode b_X14_unary 91 = .ok (.iload_n 3, 1) := by decide +kernel
theorem d_X14_unary_92 : decode b_X14_unary 92 = .ok (.bipush 18, 2) := by decide +kernel
theorem d_X14_unary_94 : decode b_X14_unary 94 = .ok (.if_icmp .eq 9, 3) := by decide +kernel
theorem d_X14_unary_97 : decode b_X14_unary 97 = .ok (.iload_n 3, 1) := by decide +kernel
theorem d_X14_unary_98 : decode b_X14_unary 98 = .ok (.bipush 19, 2) := by decide +kernel
theorem d_X14_unary_100 : decode b_X14_unary 100 = .ok (.if_icmp .ne 13, 3) := by decide +kernel
theorem d_X14_unary_103 : decode b_X14_unary 103 = .ok (.aload_n 0, 1) := by decide +kernel
theorem d_X14_unary_104 : decode b_X14_unary 104 = .ok (.aload 5, 2) := by decide +kernel
theorem d_X14_unary_106 : decode b_X14_unary 106 = .ok (.iload_n 3, 1) := by decide +kernel
theorem d_X14_unary_107 : decode b_X14_unary 107 = .ok (.iconst 0, 1) := by decide +kernel
theorem d_X14_unary_108 : decode b_X14_unary 108 = .ok (.iload_n 2, 1) := by decide +kernel
theorem d_X14_unary_109 : decode b_X14_unary 109 = .ok (.invokevirtual 484, 3) := by decide +kernel
theorem d_X14_unary_112 : decode b_X14_unary 112 = .ok (.areturn, 1) := by decide +kernel
theorem d_X14_unary_113 : decode b_X14_unary 113 = .ok (.aload_n 0, 1) := by decide +kernel
theorem d_X14_unary_114 : decode b_X14_unary 114 = .ok (.aload 5, 2) := by decide +kernel
theorem d_X14_unary_116 : decode b_X14_unary 116 = .ok (.invokevirtual 398, 3) := by decide +kernel
theorem d_X14_unary_119 : decode b_X14_unary 119 = .ok (.iload_n 3, 1) := by decide +kernel
theorem d_X14_unary_120 : decode b_X14_unary 120 = .ok (.bipush 38, 2) := by decide +kernel
theorem d_X14_unary_122 : decode b_X14_unary 122 = .ok (.if_icmp .ne 13, 3) := by decide +kernel
theorem d_X14_unary_125 : decode b_X14_unary 125 = .ok (.aload_n 0, 1) := by decide +kernel
theorem d_X14_unary_126 : decode b_X14_unary 126 = .ok (.aload 5, 2) := by decide +kernel
theorem d_X14_unary_128 : decode b_X14_unary 128 = .ok (.iload_n 2, 1) := by decide +kernel
theorem d_X14_unary_129 : decode b_X14_unary 129 = .ok (.invokevirtual 488, 3) := by decide +kernel
theorem d_X14_unary_132 : decode b_X14_unary 132 = .ok (.goto 11, 3) := by decide +kernel
theorem d_X14_unary_135 : decode b_X14_unary 135 = .ok (.aload_n 0, 1) := by decide +kernel
theorem d_X14_unary_136 : decode b_X14_unary 136 = .ok (.iload_n 3, 1) := by decide +kernel
theorem d_X14_unary_137 : decode b_X14_unary 137 = .ok (.aload 5, 2) := by decide +kernel
theorem d_X14_unary_139 : decode b_X14_unary 139 = .ok (.iload_n 2, 1) := by decide +kernel
theorem d_X14_unary_140 : decode b_X14_unary 140 = .ok (.invokevirtual 491, 3) := by decide +kernel
theorem d_X14_unary_143 : decode b_X14_unary 143 = .ok (.areturn, 1) := by decide +kernel
theorem d_X14_unary_144 : decode b_X14_unary 144 = .ok (.iload_n 3, 1) := by decide +kernel
theorem d_X14_unary_145 : decode b_X14_unary 145 = .ok (.bipush 20, 2) := by decide +kernel
theorem d_X14_unary_147 : decode b_X14_unary 147 = .ok (.if_icmp .ne 83, 3) := by decide +kernel
theorem d_X14_unary_150 : decode b_X14_unary 150 = .ok (.aload_n 0, 1) := by decide +kernel
theorem d_X14_unary_151 : decode b_X14_unary 151 = .ok (.getfield 13, 3) := by decide +kernel
theorem d_X14_unary_154 : decode b_X14_unary 154 = .ok (.aload_n 0, 1) := by decide +kernel
theorem d_X14_unary_155 : decode b_X14_unary 155 = .ok (.getfield 288, 3) := by decide +kernel
theorem d_X14_unary_158 : decode b_X14_unary 158 = .ok (.iconst 1, 1) := by decide +kernel
theorem d_X14_unary_159 : decode b_X14_unary 159 = .ok (.iadd, 1) := by decide +kernel
theorem d_X14_unary_160 : decode b_X14_unary 160 = .ok (.iaload, 1) := by decide +kernel
theorem d_X14_unary_161 : decode b_X14_unary 161 = .ok (.iconst 5, 1) := by decide +kernel
theorem d_X14_unary_162 : decode b_X14_unary 162 = .ok (.if_icmp .ne 68, 3) := by decide +kernel
theorem d_X14_unary_165 : decode b_X14_unary 165 = .ok (.aload_n 0, 1) := by decide +kernel
theorem d_X14_unary_166 : decode b_X14_unary 166 = .ok (.iload_n 1, 1) := by decide +kernel
theorem d_X14_unary_167 : decode b_X14_unary 167 = .ok (.invokevirtual 389, 3) := by decide +kernel
theorem d_X14_unary_170 : decode b_X14_unary 170 = .ok (.istore 4, 2) := by decide +kernel
theorem d_X14_unary_172 : decode b_X14_unary 172 = .ok (.aload_n 0, 1) := by decide +kernel
theorem d_X14_unary_173 : decode b_X14_unary 173 = .ok (.dup, 1) := by decide +kernel
theorem d_X14_unary_174 : decode b_X14_unary 174 = .ok (.getfield 288, 3) := by decide +kernel
theorem d_X14_unary_177 : decode b_X14_unary 177 = .ok (.iconst 2, 1) := by decide +kernel
theorem d_X14_unary_178 : decode b_X14_unary 178 = .ok (.iadd, 1) := by decide +kernel
theorem d_X14_unary_179 : decode b_X14_unary 179 = .ok (.putfield 288, 3) := by decide +kernel
theorem d_X14_unary_182 : decode b_X14_unary 182 = .ok (.aload_n 0, 1) := by decide +kernel
theorem d_X14_unary_183 : decode b_X14_unary 183 = .ok (.invokevirtual 494, 3) := by decide +kernel
theorem d_X14_unary_186 : decode b_X14_unary 186 = .ok (.istore 5, 2) := by decide +kernel
theorem d_X14_unary_188 : decode b_X14_unary 188 = .ok (.aload_n 0, 1) := by decide +kernel
theorem d_X14_unary_189 : decode b_X14_unary 189 = .ok (.bipush 21, 2) := by decide +kernel
theorem d_X14_unary_191 : decode b_X14_unary 191 = .ok (.invokevirtual 497, 3) := by decide +kernel
theorem d_X14_unary_194 : decode b_X14_unary 194 = .ok (.aload_n 0, 1) := by decide +kernel
theorem d_X14_unary_195 : decode b_X14_unary 195 = .ok (.iload 4, 2) := by decide +kernel
theorem d_X14_unary_197 : decode b_X14_unary 197 = .ok (.invokevirtual 437, 3) := by decide +kernel
theorem d_X14_unary_200 : decode b_X14_unary 200 = .ok (.astore 6, 2) := by decide +kernel
theorem d_X14_unary_202 : decode b_X14_unary 202 = .ok (.aload_n 0, 1) := by decide +kernel
theorem d_X14_unary_203 : decode b_X14_unary 203 = .ok (.aload 6, 2) := by decide +kernel
theorem d_X14_unary_205 : decode b_X14_unary 205 = .ok (.invokevirtual 398, 3) := by decide +kernel
theorem d_X14_unary_208 : decode b_X14_unary 208 = .ok (.aload_n 0, 1) := by decide +kernel
theorem d_X14_unary_209 : decode b_X14_unary 209 = .ok (.aload 6, 2) := by decide +kernel
theorem d_X14_unary_211 : decode b_X14_unary 211 = .ok (.invokestatic 431, 3) := by decide +kernel
theorem d_X14_unary_214 : decode b_X14_unary 214 = .ok (.iload_n 2, 1) := by decide +kernel
theorem d_X14_unary_215 : decode b_X14_unary 215 = .ok (.invokevirtual 410, 3) := by decide +kernel
theorem d_X14_unary_218 : decode b_X14_unary 218 = .ok (.aload_n 0, 1) := by decide +kernel
theorem d_X14_unary_219 : decode b_X14_unary 219 = .ok (.iload 5, 2) := by decide +kernel
theorem d_X14_unary_221 : decode b_X14_unary 221 = .ok (.aload 6, 2) := by decide +kernel
theorem d_X14_unary_223 : decode b_X14_unary 223 = .ok (.aload 6, 2) := by decide +kernel
theorem d_X14_unary_225 : decode b_X14_unary 225 = .ok (.iload_n 2, 1) := by decide +kernel
theorem d_X14_unary_226 : decode b_X14_unary 226 = .ok (.invokevirtual 414, 3) := by decide +kernel
theorem d_X14_unary_229 : decode b_X14_unary 229 = .ok (.areturn, 1) := by decide +kernel
theorem d_X14_unary_230 : decode b_X14_unary 230 = .ok (.aload_n 0, 1) := by decide +kernel
theorem d_X14_unary_231 : decode b_X14_unary 231 = .ok (.iload_n 1, 1) := by decide +kernel
theorem d_X14_unary_232 : decode b_X14_unary 232 = .ok (.invokevirtual 500, 3) := by decide +kernel
theorem d_X14_unary_235 : decode b_X14_unary 235 = .ok (.areturn, 1) := by decide +kernel
theorem d_X14_variable_0 : decode b_X14_variable 0 = .ok (.iconst (-1), 1) := by decide +kernel
theorem d_X14_variable_1 : decode b_X14_variable 1 = .ok (.istore 6, 2) := by decide +kernel
theorem d_X14_variable_3 : decode b_X14_variable 3 = .ok (.iconst (-1), 1) := by decide +kernel
theorem d_X14_variable_4 : decode b_X14_variable 4 = .ok (.istore 7, 2) := by decide +kernel
theorem d_X14_variable_6 : decode b_X14_variable 6 = .ok (.iconst 1, 1) := by decide +kernel
theorem d_X14_variable_7 : decode b_X14_variable 7 = .ok (.istore 8, 2) := by decide +kernel
theorem d_X14_variable_9 : decode b_X14_variable 9 = .ok (.aload_n 0, 1) := by decide +kernel
theorem d_X14_variable_10 : decode b_X14_variable 10 = .ok (.bipush 24, 2) := by decide +kernel
theorem d_X14_variable_12 : decode b_X14_variable 12 = .ok (.invokevirtual 308, 3) := by decide +kernel
theorem d_X14_variable_15 : decode b_X14_variable 15 = .ok (.ifCond .eq 80, 3) := by decide +kernel
theorem d_X14_variable_18 : decode b_X14_variable 18 = .ok (.aload_n 0, 1) := by decide +kernel
theorem d_X14_variable_19 : decode b_X14_variable 19 = .ok (.getfield 288, 3) := by decide +kernel
theorem d_X14_variable_22 : decode b_X14_variable 22 = .ok (.istore 6, 2) := by decide +kernel
theorem d_X14_variable_24 : decode b_X14_variable 24 = .ok (.aload_n 0, 1) := by decide +kernel
theorem d_X14_variable_25 : decode b_X14_variable 25 = .ok (.dup, 1) := by decide +kernel
theorem d_X14_variable_26 : decode b_X14_variable 26 = .ok (.getfield 288, 3) := by decide +kernel
theorem d_X14_variable_29 : decode b_X14_variable 29 = .ok (.iconst 1, 1) := by decide +kernel
theorem d_X14_variable_30 : decode b_X14_variable 30 = .ok (.iadd, 1) := by decide +kernel
theorem d_X14_variable_31 : decode b_X14_variable 31 = .ok (.putfield 288, 3) := by decide +kernel
theorem d_X14_variable_34 : decode b_X14_variable 34 = .ok (.aload_n 0, 1) := by decide +kernel
theorem d_X14_variable_35 : decode b_X14_variable 35 = .ok (.bipush 25, 2) := by decide +kernel
theorem d_X14_variable_37 : decode b_X14_variable 37 = .ok (.invokevirtual 308, 3) := by decide +kernel
theorem d_X14_variable_40 : decode b_X14_variable 40 = .ok (.ifCond .ne 7, 3) := by decide +kernel
theorem d_X14_variable_43 : decode b_X14_variable 43 = .ok (.iconst 1, 1) := by decide +kernel
theorem d_X14_variable_44 : decode b_X14_variable 44 = .ok (.goto 4, 3) := by decide +kernel
theorem d_X14_variable_47 : decode b_X14_variable 47 = .ok (.iconst 0, 1) := by decide +kernel
theorem d_X14_variable_48 : decode b_X14_variable 48 = .ok (.istore 8, 2) := by decide +kernel
theorem d_X14_variable_50 : decode b_X14_variable 50 = .ok (.iload 8, 2) := by decide +kernel
theorem d_X14_variable_52 : decode b_X14_variable 52 = .ok (.ifCond .eq 10, 3) := by decide +kernel
theorem d_X14_variable_55 : decode b_X14_variable 55 = .ok (.aload_n 0, 1) := by decide +kernel
theorem d_X14_variable_56 : decode b_X14_variable 56 = .ok (.invokevirtual 598, 3) := by decide +kernel
theorem d_X14_variable_59 : decode b_X14_variable 59 = .ok (.goto 4, 3) := by decide +kernel
theorem d_X14_variable_62 : decode b_X14_variable 62 = .ok (.iconst 0, 1) := by decide +kernel
theorem d_X14_variable_63 : decode b_X14_variable 63 = .ok (.istore 7, 2) := by decide +kernel
theorem d_X14_variable_65 : decode b_X14_variable 65 = .ok (.aload_n 0, 1) := by decide +kernel
theorem d_X14_variable_66 : decode b_X14_variable 66 = .ok (.bipush 25, 2) := by decide +kernel
theorem d_X14_variable_68 : decode b_X14_variable 68 = .ok (.invokevirtual 497, 3) := by decide +kernel
theorem d_X14_variable_71 : decode b_X14_variable 71 = .ok (.iload 8, 2) := by decide +kernel
theorem d_X14_variable_73 : decode b_X14_variable 73 = .ok (.ifCond .ne 22, 3) := by decide +kernel
theorem d_X14_variable_76 : decode b_X14_variable 76 = .ok (.aload_n 0, 1) := by decide +kernel
theorem d_X14_variable_77 : decode b_X14_variable 77 = .ok (.bipush 30, 2) := by decide +kernel
theorem d_X14_variable_79 : decode b_X14_variable 79 = .ok (.invokevirtual 308, 3) := by decide +kernel
theorem d_X14_variable_82 : decode b_X14_variable 82 = .ok (.ifCond .eq 13, 3) := by decide +kernel
theorem d_X14_variable_85 : decode b_X14_variable 85 = .ok (.aload_n 0, 1) := by decide +kernel
theorem d_X14_variable_86 : decode b_X14_variable 86 = .ok (.invokevirtual 601, 3) := by decide +kernel
theorem d_X14_variable_89 : decode b_X14_variable 89 = .ok (.iconst 0, 1) := by decide +kernel
theorem d_X14_variable_90 : decode b_X14_variable 90 = .ok (.invokestatic 374, 3) := by decide +kernel
theorem d_X14_variable_93 : decode b_X14_variable 93 = .ok (.istore 7, 2) := by decide +kernel
theorem d_X14_variable_95 : decode b_X14_variable 95 = .ok (.iload 6, 2) := by decide +kernel
theorem d_X14_variable_97 : decode b_X14_variable 97 = .ok (.ifCond .lt 17, 3) := by decide +kernel
theorem d_X14_variable_100 : decode b_X14_variable 100 = .ok (.iload 7, 2) := by decide +kernel
theorem d_X14_variable_102 : decode b_X14_variable 102 = .ok (.iconst 1, 1) := by decide +kernel
theorem d_X14_variable_103 : decode b_X14_variable 103 = .ok (.if_icmp .lt 15, 3) := by decide +kernel
theorem d_X14_variable_106 : decode b_X14_variable 106 = .ok (.iload 7, 2) := by decide +kernel
theorem d_X14_variable_108 : decode b_X14_variable 108 = .ok (.sipush 4000, 3) := by decide +kernel
theorem d_X14_variable_111 : decode b_X14_variable 111 = .ok (.if_icmp .gt 7, 3) := by decide +kernel
theorem d_X14_variable_114 : decode b_X14_variable 114 = .ok (.iconst 1, 1) := by decide +kernel
theorem d_X14_variable_115 : decode b_X14_variable 115 = .ok (.goto 4, 3) := by decide +kernel
theorem d_X14_variable_118 : decode b_X14_variable 118 = .ok (.iconst 0, 1) := by decide +kernel
theorem d_X14_variable_119 : decode b_X14_variable 119 = .ok (.istore 9, 2) := by decide +kernel
theorem d_X14_variable_121 : decode b_X14_variable 121 = .ok (.iload 6, 2) := by decide +kernel
theorem d_X14_variable_123 : decode b_X14_variable 123 = .ok (.ifCond .ge 7, 3) := by decide +kernel
theorem d_X14_variable_126 : decode b_X14_variable 126 = .ok (.iconst (-1), 1) := by decide +kernel
theorem d_X14_variable_127 : decode b_X14_variable 127 = .ok (.goto 14, 3) := by decide +kernel
theorem d_X14_variable_130 : decode b_X14_variable 130 = .ok (.iload 9, 2) := by decide +kernel
theorem d_X14_variable_132 : decode b_X14_variable 132 = .ok (.ifCond .eq 8, 3) := by decide +kernel
theorem d_X14_variable_135 : decode b_X14_variable 135 = .ok (.iload 7, 2) := by decide +kernel
theorem d_X14_variable_137 : decode b_X14_variable 137 = .ok (.goto 4, 3) := by decide +kernel
theorem d_X14_variable_140 : decode b_X14_variable 140 = .ok (.iconst 0, 1) := by decide +kernel
theorem d_X14_variable_141 : decode b_X14_variable 141 = .ok (.istore 10, 2) := by decide +kernel
theorem d_X14_variable_143 : decode b_X14_variable 143 = .ok (.iload 5, 2) := by decide +kernel
theorem d_X14_variable_145 : decode b_X14_variable 145 = .ok (.ifCond .eq 14, 3) := by decide +kernel
theorem d_X14_variable_148 : decode b_X14_variable 148 = .ok (.aload_n 0, 1) := by decide +kernel
theorem d_X14_variable_149 : decode b_X14_variable 149 = .ok (.iload_n 1, 1) := by decide +kernel
theorem d_X14_variable_150 : decode b_X14_variable 150 = .ok (.iload_n 2, 1) := by decide +kernel
theorem d_X14_variable_151 : decode b_X14_variable 151 = .ok (.iload 10, 2) := by decide +kernel
theorem d_X14_variable_153 : decode b_X14_variable 153 = .ok (.invokevirtual 604, 3) := by decide +kernel
theorem d_X14_variable_156 : decode b_X14_variable 156 = .ok (.goto 14, 3) := by decide +kernel
theorem d_X14_variable_159 : decode b_X14_variable 159 = .ok (.aload_n 0, 1) := by decide +kernel
theorem d_X14_variable_160 : decode b_X14_variable 160 = .ok (.iload_n 1, 1) := by decide +kernel
theorem d_X14_variable_161 : decode b_X14_variable 161 = .ok (.iload_n 2, 1) := by decide +kernel
theorem d_X14_variable_162 : decode b_X14_variable 162 = .ok (.iload 10, 2) := by decide +kernel
theorem d_X14_variable_164 : decode b_X14_variable 164 = .ok (.iload_n 3, 1) := by decide +kernel
theorem d_X14_variable_165 : decode b_X14_variable 165 = .ok (.iload 4, 2) := by decide +kernel
theorem d_X14_variable_167 : decode b_X14_variable 167 = .ok (.invokevirtual 607, 3) := by decide +kernel
theorem d_X14_variable_170 : decode b_X14_variable 170 = .ok (.istore 11, 2) := by decide +kernel
theorem d_X14_variable_172 : decode b_X14_variable 172 = .ok (.iload 6, 2) := by decide +kernel
theorem d_X14_variable_174 : decode b_X14_variable 174 = .ok (.ifCond .lt 58, 3) := by decide +kernel
theorem d_X14_variable_177 : decode b_X14_variable 177 = .ok (.iload 7, 2) := by decide +kernel
theorem d_X14_variable_179 : decode b_X14_variable 179 = .ok (.sipush 4000, 3) := by decide +kernel
theorem d_X14_variable_182 : decode b_X14_variable 182 = .ok (.if_icmp .le 10, 3) := by decide +kernel
theorem d_X14_variable_185 : decode b_X14_variable 185 = .ok (.aload_n 0, 1) := by decide +kernel
theorem d_X14_variable_186 : decode b_X14_variable 186 = .ok (.iconst 4, 1) := by decide +kernel
theorem d_X14_variable_187 : decode b_X14_variable 187 = .ok (.iload 6, 2) := by decide +kernel
theorem d_X14_variable_189 : decode b_X14_variable 189 = .ok (.invokevirtual 304, 3) := by decide +kernel
theorem d_X14_variable_192 : decode b_X14_variable 192 = .ok (.aload_n 0, 1) := by decide +kernel
theorem d_X14_variable_193 : decode b_X14_variable 193 = .ok (.iload 9, 2) := by decide +kernel
theorem d_X14_variable_195 : decode b_X14_variable 195 = .ok (.ifCond .ne 27, 3) := by decide +kernel
theorem d_X14_variable_198 : decode b_X14_variable 198 = .ok (.iload 8, 2) := by decide +kernel
theorem d_X14_variable_200 : decode b_X14_variable 200 = .ok (.ifCond .ne 26, 3) := by decide +kernel
theorem d_X14_variable_203 : decode b_X14_variable 203 = .ok (.iload 7, 2) := by decide +kernel
theorem d_X14_variable_205 : decode b_X14_variable 205 = .ok (.ifCond .ne 21, 3) := by decide +kernel
theorem d_X14_variable_208 : decode b_X14_variable 208 = .ok (.iload 4, 2) := by decide +kernel
theorem d_X14_variable_210 : decode b_X14_variable 210 = .ok (.ifCond .ne 12, 3) := by decide +kernel
theorem d_X14_variable_213 : decode b_X14_variable 213 = .ok (.aload_n 0, 1) := by decide +kernel
theorem d_X14_variable_214 : decode b_X14_variable 214 = .ok (.bipush 30, 2) := by decide +kernel
theorem d_X14_variable_216 : decode b_X14_variable 216 = .ok (.invokevirtual 308, 3) := by decide +kernel
theorem d_X14_variable_219 : decode b_X14_variable 219 = .ok (.ifCond .eq 7, 3) := by decide +kernel
theorem d_X14_variable_222 : decode b_X14_variable 222 = .ok (.iconst 1, 1) := by decide +kernel
theorem d_X14_variable_223 : decode b_X14_variable 223 = .ok (.goto 4, 3) := by decide +kernel
theorem d_X14_variable_226 : decode b_X14_variable 226 = .ok (.iconst 0, 1) := by decide +kernel
theorem d_X14_variable_227 : decode b_X14_variable 227 = .ok (.iload 6, 2) := by decide +kernel
theorem d_X14_variable_229 : decode b_X14_variable 229 = .ok (.invokevirtual 410, 3) := by decide +kernel
theorem d_X14_variable_232 : decode b_X14_variable 232 = .ok (.iload 5, 2) := by decide +kernel
theorem d_X14_variable_234 : decode b_X14_variable 234 = .ok (.ifCond .ne 26, 3) := by decide +kernel
theorem d_X14_variable_237 : decode b_X14_variable 237 = .ok (.iload 11, 2) := by decide +kernel
theorem d_X14_variable_239 : decode b_X14_variable 239 = .ok (.ifCond .lt 21, 3) := by decide +kernel
theorem d_X14_variable_242 : decode b_X14_variable 242 = .ok (.iload 4, 2) := by decide +kernel
theorem d_X14_variable_244 : decode b_X14_variable 244 = .ok (.ifCond .ne 16, 3) := by decide +kernel
theorem d_X14_variable_247 : decode b_X14_variable 247 = .ok (.aload_n 0, 1) := by decide +kernel
theorem d_X14_variable_248 : decode b_X14_variable 248 = .ok (.iload 11, 2) := by decide +kernel
theorem d_X14_variable_250 : decode b_X14_variable 250 = .ok (.iload_n 1, 1) := by decide +kernel
theorem d_X14_variable_251 : decode b_X14_variable 251 = .ok (.iload 10, 2) := by decide +kernel
theorem d_X14_variable_253 : decode b_X14_variable 253 = .ok (.iconst 1, 1) := by decide +kernel
theorem d_X14_variable_254 : decode b_X14_variable 254 = .ok (.invokestatic 374, 3) := by decide +kernel
theorem d_X14_variable_257 : decode b_X14_variable 257 = .ok (.invokevirtual 611, 3) := by decide +kernel
theorem d_X14_variable_260 : decode b_X14_variable 260 = .ok (.iload 5, 2) := by decide +kernel
theorem d_X14_variable_262 : decode b_X14_variable 262 = .ok (.ifCond .eq 23, 3) := by decide +kernel
theorem d_X14_variable_265 : decode b_X14_variable 265 = .ok (.iload 11, 2) := by decide +kernel
theorem d_X14_variable_267 : decode b_X14_variable 267 = .ok (.ifCond .lt 18, 3) := by decide +kernel
theorem d_X14_variable_270 : decode b_X14_variable 270 = .ok (.aload_n 0, 1) := by decide +kernel
theorem d_X14_variable_271 : decode b_X14_variable 271 = .ok (.iload_n 1, 1) := by decide +kernel
theorem d_X14_variable_272 : decode b_X14_variable 272 = .ok (.iload 11, 2) := by decide +kernel
theorem d_X14_variable_274 : decode b_X14_variable 274 = .ok (.invokevirtual 614, 3) := by decide +kernel
theorem d_X14_variable_277 : decode b_X14_variable 277 = .ok (.aload_n 0, 1) := by decide +kernel
theorem d_X14_variable_278 : decode b_X14_variable 278 = .ok (.bipush 8, 2) := by decide +kernel
theorem d_X14_variable_280 : decode b_X14_variable 280 = .ok (.iload 11, 2) := by decide +kernel
theorem d_X14_variable_282 : decode b_X14_variable 282 = .ok (.invokevirtual 322, 3) := by decide +kernel
theorem d_X14_variable_285 : decode b_X14_variable 285 = .ok (.aload_n 0, 1) := by decide +kernel
theorem d_X14_variable_286 : decode b_X14_variable 286 = .ok (.bipush 30, 2) := by decide +kernel
theorem d_X14_variable_288 : decode b_X14_variable 288 = .ok (.invokevirtual 308, 3) := by decide +kernel
theorem d_X14_variable_291 : decode b_X14_variable 291 = .ok (.ifCond .ne 4, 3) := by decide +kernel
theorem d_X14_variable_294 : decode b_X14_variable 294 = .ok (.return_, 1) := by decide +kernel
theorem d_X14_variable_295 : decode b_X14_variable 295 = .ok (.aload_n 0, 1) := by decide +kernel
theorem d_X14_variable_296 : decode b_X14_variable 296 = .ok (.getfield 288, 3) := by decide +kernel
theorem d_X14_variable_299 : decode b_X14_variable 299 = .ok (.istore 12, 2) := by decide +kernel
theorem d_X14_variable_301 : decode b_X14_variable 301 = .ok (.aload_n 0, 1) := by decide +kernel
theorem d_X14_variable_302 : decode b_X14_variable 302 = .ok (.dup, 1) := by decide +kernel
theorem d_X14_variable_303 : decode b_X14_variable 303 = .ok (.getfield 288, 3) := by decide +kernel
theorem d_X14_variable_306 : decode b_X14_variable 306 = .ok (.iconst 1, 1) := by decide +kernel
theorem d_X14_variable_307 : decode b_X14_variable 307 = .ok (.iadd, 1) := by decide +kernel
theorem d_X14_variable_308 : decode b_X14_variable 308 = .ok (.putfield 288, 3) := by decide +kernel
theorem d_X14_variable_311 : decode b_X14_variable 311 = .ok (.iload 6, 2) := by decide +kernel
theorem d_X14_variable_313 : decode b_X14_variable 313 = .ok (.ifCond .lt 21, 3) := by decide +kernel
theorem d_X14_variable_316 : decode b_X14_variable 316 = .ok (.aload_n 0, 1) := by decide +kernel
theorem d_X14_variable_317 : decode b_X14_variable 317 = .ok (.iload_n 2, 1) := by decide +kernel
theorem d_X14_variable_318 : decode b_X14_variable 318 = .ok (.iload 10, 2) := by decide +kernel
theorem d_X14_variable_320 : decode b_X14_variable 320 = .ok (.iconst 1, 1) := by decide +kernel
theorem d_X14_variable_321 : decode b_X14_variable 321 = .ok (.invokestatic 374, 3) := by decide +kernel
theorem d_X14_variable_324 : decode b_X14_variable 324 = .ok (.iload 11, 2) := by decide +kernel
theorem d_X14_variable_326 : decode b_X14_variable 326 = .ok (.iload 5, 2) := by decide +kernel
theorem d_X14_variable_328 : decode b_X14_variable 328 = .ok (.invokevirtual 617, 3) := by decide +kernel
theorem d_X14_variable_331 : decode b_X14_variable 331 = .ok (.goto 12, 3) := by decide +kernel
theorem d_X14_variable_334 : decode b_X14_variable 334 = .ok (.aload_n 0, 1) := by decide +kernel
theorem d_X14_variable_335 : decode b_X14_variable 335 = .ok (.iload_n 2, 1) := by decide +kernel
theorem d_X14_variable_336 : decode b_X14_variable 336 = .ok (.iload 11, 2) := by decide +kernel
theorem d_X14_variable_338 : decode b_X14_variable 338 = .ok (.iload 5, 2) := by decide +kernel
theorem d_X14_variable_340 : decode b_X14_variable 340 = .ok (.invokevirtual 621, 3) := by decide +kernel
theorem d_X14_variable_343 : decode b_X14_variable 343 = .ok (.istore 13, 2) := by decide +kernel
theorem d_X14_variable_345 : decode b_X14_variable 345 = .ok (.aload_n 0, 1) := by decide +kernel
theorem d_X14_variable_346 : decode b_X14_variable 346 = .ok (.iload 13, 2) := by decide +kernel
theorem d_X14_variable_348 : decode b_X14_variable 348 = .ok (.ifCond .eq 12, 3) := by decide +kernel
theorem d_X14_variable_351 : decode b_X14_variable 351 = .ok (.iload 4, 2) := by decide +kernel
theorem d_X14_variable_353 : decode b_X14_variable 353 = .ok (.ifCond .ne 7, 3) := by decide +kernel
theorem d_X14_variable_356 : decode b_X14_variable 356 = .ok (.iconst 1, 1) := by decide +kernel
theorem d_X14_variable_357 : decode b_X14_variable 357 = .ok (.goto 4, 3) := by decide +kernel
theorem d_X14_variable_360 : decode b_X14_variable 360 = .ok (.iconst 0, 1) := by decide +kernel
theorem d_X14_variable_361 : decode b_X14_variable 361 = .ok (.iload 12, 2) := by decide +kernel
theorem d_X14_variable_363 : decode b_X14_variable 363 = .ok (.invokevirtual 410, 3) := by decide +kernel
theorem d_X14_variable_366 : decode b_X14_variable 366 = .ok (.return_, 1) := by decide +kernel
theorem d_X14_variables_0 : decode b_X14_variables 0 = .ok (.iconst 1, 1) := by decide +kernel
theorem d_X14_variables_1 : decode b_X14_variables 1 = .ok (.istore 4, 2) := by decide +kernel
theorem d_X14_variables_3 : decode b_X14_variables 3 = .ok (.iload 4, 2) := by decide +kernel
theorem d_X14_variables_5 : decode b_X14_variables 5 = .ok (.ifCond .eq 65, 3) := by decide +kernel
theorem d_X14_variables_8 : decode b_X14_variables 8 = .ok (.aload_n 0, 1) := by decide +kernel
theorem d_X14_variables_9 : decode b_X14_variables 9 = .ok (.invokevirtual 494, 3) := by decide +kernel
theorem d_X14_variables_12 : decode b_X14_variables 12 = .ok (.istore 5, 2) := by decide +kernel
theorem d_X14_variables_14 : decode b_X14_variables 14 = .ok (.aload_n 0, 1) := by decide +kernel
theorem d_X14_variables_15 : decode b_X14_variables 15 = .ok (.getfield 13, 3) := by decide +kernel
theorem d_X14_variables_18 : decode b_X14_variables 18 = .ok (.aload_n 0, 1) := by decide +kernel
theorem d_X14_variables_19 : decode b_X14_variables 19 = .ok (.getfield 288, 3) := by decide +kernel
theorem d_X14_variables_22 : decode b_X14_variables 22 = .ok (.iaload, 1) := by decide +kernel
theorem d_X14_variables_23 : decode b_X14_variables 23 = .ok (.iconst 2, 1) := by decide +kernel
theorem d_X14_variables_24 : decode b_X14_variables 24 = .ok (.if_icmp .eq 8, 3) := by decide +kernel
theorem d_X14_variables_27 : decode b_X14_variables 27 = .ok (.aload_n 0, 1) := by decide +kernel
theorem d_X14_variables_28 : decode b_X14_variables 28 = .ok (.invokevirtual 311, 3) := by decide +kernel
theorem d_X14_variables_31 : decode b_X14_variables 31 = .ok (.athrow, 1) := by decide +kernel
theorem d_X14_variables_32 : decode b_X14_variables 32 = .ok (.aload_n 0, 1) := by decide +kernel
theorem d_X14_variables_33 : decode b_X14_variables 33 = .ok (.getfield 288, 3) := by decide +kernel
theorem d_X14_variables_36 : decode b_X14_variables 36 = .ok (.istore 6, 2) := by decide +kernel
theorem d_X14_variables_38 : decode b_X14_variables 38 = .ok (.aload_n 0, 1) := by decide +kernel
theorem d_X14_variables_39 : decode b_X14_variables 39 = .ok (.dup, 1) := by decide +kernel
theorem d_X14_variables_40 : decode b_X14_variables 40 = .ok (.getfield 288, 3) := by decide +kernel
theorem d_X14_variables_43 : decode b_X14_variables 43 = .ok (.iconst 1, 1) := by decide +kernel
theorem d_X14_variables_44 : decode b_X14_variables 44 = .ok (.iadd, 1) := by decide +kernel
theorem d_X14_variables_45 : decode b_X14_variables 45 = .ok (.putfield 288, 3) := by decide +kernel
theorem d_X14_variables_48 : decode b_X14_variables 48 = .ok (.aload_n 0, 1) := by decide +kernel
theorem d_X14_variables_49 : decode b_X14_variables 49 = .ok (.iload 6, 2) := by decide +kernel
theorem d_X14_variables_51 : decode b_X14_variables 51 = .ok (.iload 5, 2) := by decide +kernel
theorem d_X14_variables_53 : decode b_X14_variables 53 = .ok (.iload_n 1, 1) := by decide +kernel
theorem d_X14_variables_54 : decode b_X14_variables 54 = .ok (.iload_n 2, 1) := by decide +kernel
theorem d_X14_variables_55 : decode b_X14_variables 55 = .ok (.iload_n 3, 1) := by decide +kernel
theorem d_X14_variables_56 : decode b_X14_variables 56 = .ok (.invokevirtual 594, 3) := by decide +kernel
theorem d_X14_variables_59 : decode b_X14_variables 59 = .ok (.aload_n 0, 1) := by decide +kernel
theorem d_X14_variables_60 : decode b_X14_variables 60 = .ok (.bipush 26, 2) := by decide +kernel
theorem d_X14_variables_62 : decode b_X14_variables 62 = .ok (.invokevirtual 530, 3) := by decide +kernel
theorem d_X14_variables_65 : decode b_X14_variables 65 = .ok (.istore 4, 2) := by decide +kernel
theorem d_X14_variables_67 : decode b_X14_variables 67 = .ok (.goto (-64), 3) := by decide +kernel
theorem d_X14_variables_70 : decode b_X14_variables 70 = .ok (.aload_n 0, 1) := by decide +kernel
theorem d_X14_variables_71 : decode b_X14_variables 71 = .ok (.bipush 27, 2) := by decide +kernel
theorem d_X14_variables_73 : decode b_X14_variables 73 = .ok (.invokevirtual 497, 3) := by decide +kernel
theorem d_X14_variables_76 : decode b_X14_variables 76 = .ok (.return_, 1) := by decide +kernel
theorem d_X14_work_0 : decode b_X14_work 0 = .ok (.iload_n 0, 1) := by decide +kernel
theorem d_X14_work_1 : decode b_X14_work 1 = .ok (.tableswitch 218 12 40 #[196, 207, 218, 218, 170, 177, 218, 218, 218, 218, 218, 218, 218, 218, 218, 218, 218, 218, 218, 188, 192, 184, 218, 218, 131, 135, 139, 143, 157], 131) := by decide +kernel
theorem d_X14_work_132 : decode b_X14_work 132 = .ok (.iload_n 1, 1) := by decide +kernel
theorem d_X14_work_133 : decode b_X14_work 133 = .ok (.iload_n 2, 1) := by decide +kernel
theorem d_X14_work_134 : decode b_X14_work 134 = .ok (.iadd, 1) := by decide +kernel
theorem d_X14_work_135 : decode b_X14_work 135 = .ok (.ireturn, 1) := by decide +kernel
theorem d_X14_work_136 : decode b_X14_work 136 = .ok (.iload_n 1, 1) := by decide +kernel
theorem d_X14_work_137 : decode b_X14_work 137 = .ok (.iload_n 2, 1) := by decide +kernel
theorem d_X14_work_138 : decode b_X14_work 138 = .ok (.isub, 1) := by decide +kernel
theorem d_X14_work_139 : decode b_X14_work 139 = .ok (.ireturn, 1) := by decide +kernel
theorem d_X14_work_140 : decode b_X14_work 140 = .ok (.iload_n 1, 1) := by decide +kernel
theorem d_X14_work_141 : decode b_X14_work 141 = .ok (.iload_n 2, 1) := by decide +kernel
theorem d_X14_work_142 : decode b_X14_work 142 = .ok (.imul, 1) := by decide +kernel
theorem d_X14_work_143 : decode b_X14_work 143 = .ok (.ireturn, 1) := by decide +kernel
theorem d_X14_work_144 : decode b_X14_work 144 = .ok (.iload_n 2, 1) := by decide +kernel
theorem d_X14_work_145 : decode b_X14_work 145 = .ok (.iconst (-1), 1) := by decide +kernel
theorem d_X14_work_146 : decode b_X14_work 146 = .ok (.if_icmp .ne 8, 3) := by decide +kernel
theorem d_X14_work_149 : decode b_X14_work 149 = .ok (.iload_n 1, 1) := by decide +kernel
theorem d_X14_work_150 : decode b_X14_work 150 = .ok (.ineg, 1) := by decide +kernel
theorem d_X14_work_151 : decode b_X14_work 151 = .ok (.goto 6, 3) := by decide +kernel
theorem d_X14_work_154 : decode b_X14_work 154 = .ok (.iload_n 1, 1) := by decide +kernel
theorem d_X14_work_155 : decode b_X14_work 155 = .ok (.iload_n 2, 1) := by decide +kernel
theorem d_X14_work_156 : decode b_X14_work 156 = .ok (.idiv, 1) := by decide +kernel
theorem d_X14_work_157 : decode b_X14_work 157 = .ok (.ireturn, 1) := by decide +kernel
theorem d_X14_work_158 : decode b_X14_work 158 = .ok (.iload_n 2, 1) := by decide +kernel
theorem d_X14_work_159 : decode b_X14_work 159 = .ok (.iconst (-1), 1) := by decide +kernel
theorem d_X14_work_160 : decode b_X14_work 160 = .ok (.if_icmp .ne 7, 3) := by decide +kernel
theorem d_X14_work_163 : decode b_X14_work 163 = .ok (.iconst 0, 1) := by decide +kernel
theorem d_X14_work_164 : decode b_X14_work 164 = .ok (.goto 6, 3) := by decide +kernel
theorem d_X14_work_167 : decode b_X14_work 167 = .ok (.iload_n 1, 1) := by decide +kernel
theorem d_X14_work_168 : decode b_X14_work 168 = .ok (.iload_n 2, 1) := by decide +kernel
theorem d_X14_work_169 : decode b_X14_work 169 = .ok (.irem, 1) := by decide +kernel
theorem d_X14_work_170 : decode b_X14_work 170 = .ok (.ireturn, 1) := by decide +kernel
theorem d_X14_work_171 : decode b_X14_work 171 = .ok (.iload_n 1, 1) := by decide +kernel
theorem d_X14_work_172 : decode b_X14_work 172 = .ok (.iload_n 2, 1) := by decide +kernel
theorem d_X14_work_173 : decode b_X14_work 173 = .ok (.bipush 31, 2) := by decide +kernel
theorem d_X14_work_175 : decode b_X14_work 175 = .ok (.iand, 1) := by decide +kernel
theorem d_X14_work_176 : decode b_X14_work 176 = .ok (.ishl, 1) := by decide +kernel
theorem d_X14_work_177 : decode b_X14_work 177 = .ok (.ireturn, 1) := by decide +kernel
theorem d_X14_work_178 : decode b_X14_work 178 = .ok (.iload_n 1, 1) := by decide +kernel
theorem d_X14_work_179 : decode b_X14_work 179 = .ok (.iload_n 2, 1) := by decide +kernel
theorem d_X14_work_180 : decode b_X14_work 180 = .ok (.bipush 31, 2) := by decide +kernel
theorem d_X14_work_182 : decode b_X14_work 182 = .ok (.iand, 1) := by decide +kernel
theorem d_X14_work_183 : decode b_X14_work 183 = .ok (.ishr, 1) := by decide +kernel
theorem d_X14_work_184 : decode b_X14_work 184 = .ok (.ireturn, 1) := by decide +kernel
theorem d_X14_work_185 : decode b_X14_work 185 = .ok (.iload_n 1, 1) := by decide +kernel
theorem d_X14_work_186 : decode b_X14_work 186 = .ok (.iload_n 2, 1) := by decide +kernel
theorem d_X14_work_187 : decode b_X14_work 187 = .ok (.iand, 1) := by decide +kernel
theorem d_X14_work_188 : decode b_X14_work 188 = .ok (.ireturn, 1) := by decide +kernel
theorem d_X14_work_189 : decode b_X14_work 189 = .ok (.iload_n 1, 1) := by decide +kernel
theorem d_X14_work_190 : decode b_X14_work 190 = .ok (.iload_n 2, 1) := by decide +kernel
theorem d_X14_work_191 : decode b_X14_work 191 = .ok (.ior, 1) := by decide +kernel
theorem d_X14_work_192 : decode b_X14_work 192 = .ok (.ireturn, 1) := by decide +kernel
theorem d_X14_work_193 : decode b_X14_work 193 = .ok (.iload_n 1, 1) := by decide +kernel
theorem d_X14_work_194 : decode b_X14_work 194 = .ok (.iload_n 2, 1) := by decide +kernel
theorem d_X14_work_195 : decode b_X14_work 195 = .ok (.ixor, 1) := by decide +kernel
theorem d_X14_work_196 : decode b_X14_work 196 = .ok (.ireturn, 1) := by decide +kernel
theorem d_X14_work_197 : decode b_X14_work 197 = .ok (.iload_n 1, 1) := by decide +kernel
theorem d_X14_work_198 : decode b_X14_work 198 = .ok (.iload_n 2, 1) := by decide +kernel
theorem d_X14_work_199 : decode b_X14_work 199 = .ok (.if_icmp .ne 7, 3) := by decide +kernel
theorem d_X14_work_202 : decode b_X14_work 202 = .ok (.iconst 1, 1) := by decide +kernel
theorem d_X14_work_203 : decode b_X14_work 203 = .ok (.goto 4, 3) := by decide +kernel
theorem d_X14_work_206 : decode b_X14_work 206 = .ok (.iconst 0, 1) := by decide +kernel
theorem d_X14_work_207 : decode b_X14_work 207 = .ok (.ireturn, 1) := by decide +kernel
theorem d_X14_work_208 : decode b_X14_work 208 = .ok (.iload_n 1, 1) := by decide +kernel
theorem d_X14_work_209 : decode b_X14_work 209 = .ok (.iload_n 2, 1) := by decide +kernel
theorem d_X14_work_210 : decode b_X14_work 210 = .ok (.if_icmp .eq 7, 3) := by decide +kernel
theorem d_X14_work_213 : decode b_X14_work 213 = .ok (.iconst 1, 1) := by decide +kernel
theorem d_X14_work_214 : decode b_X14_work 214 = .ok (.goto 4, 3) := by decide +kernel
theorem d_X14_work_217 : decode b_X14_work 217 = .ok (.iconst 0, 1) := by decide +kernel
theorem d_X14_work_218 : decode b_X14_work 218 = .ok (.ireturn, 1) := by decide +kernel
theorem d_X14_work_219 : decode b_X14_work 219 = .ok (.iload_n 0, 1) := by decide +kernel
theorem d_X14_work_220 : decode b_X14_work 220 = .ok (.bipush 100, 2) := by decide +kernel
theorem d_X14_work_222 : decode b_X14_work 222 = .ok (.if_icmp .ge 7, 3) := by decide +kernel
theorem d_X14_work_225 : decode b_X14_work 225 = .ok (.iload_n 0, 1) := by decide +kernel
theorem d_X14_work_226 : decode b_X14_work 226 = .ok (.goto 7, 3) := by decide +kernel
theorem d_X14_work_229 : decode b_X14_work 229 = .ok (.iload_n 0, 1) := by decide +kernel
theorem d_X14_work_230 : decode b_X14_work 230 = .ok (.bipush 100, 2) := by decide +kernel
theorem d_X14_work_232 : decode b_X14_work 232 = .ok (.isub, 1) := by decide +kernel
theorem d_X14_work_233 : decode b_X14_work 233 = .ok (.iload_n 0, 1) := by decide +kernel
theorem d_X14_work_234 : decode b_X14_work 234 = .ok (.bipush 100, 2) := by decide +kernel
theorem d_X14_work_236 : decode b_X14_work 236 = .ok (.if_icmp .ge 7, 3) := by decide +kernel
theorem d_X14_work_239 : decode b_X14_work 239 = .ok (.iload_n 1, 1) := by decide +kernel
theorem d_X14_work_240 : decode b_X14_work 240 = .ok (.goto 8, 3) := by decide +kernel
theorem d_X14_work_243 : decode b_X14_work 243 = .ok (.iload_n 1, 1) := by decide +kernel
theorem d_X14_work_244 : decode b_X14_work 244 = .ok (.ldc_w 475, 3) := by decide +kernel
theorem d_X14_work_247 : decode b_X14_work 247 = .ok (.iadd, 1) := by decide +kernel
theorem d_X14_work_248 : decode b_X14_work 248 = .ok (.iload_n 0, 1) := by decide +kernel
theorem d_X14_work_249 : decode b_X14_work 249 = .ok (.bipush 100, 2) := by decide +kernel
theorem d_X14_work_251 : decode b_X14_work 251 = .ok (.if_icmp .ge 7, 3) := by decide +kernel
theorem d_X14_work_254 : decode b_X14_work 254 = .ok (.iload_n 2, 1) := by decide +kernel
theorem d_X14_work_255 : decode b_X14_work 255 = .ok (.goto 8, 3) := by decide +kernel
theorem d_X14_work_258 : decode b_X14_work 258 = .ok (.iload_n 2, 1) := by decide +kernel
theorem d_X14_work_259 : decode b_X14_work 259 = .ok (.ldc_w 475, 3) := by decide +kernel
theorem d_X14_work_262 : decode b_X14_work 262 = .ok (.iadd, 1) := by decide +kernel
theorem d_X14_work_263 : decode b_X14_work 263 = .ok (.invokestatic 476, 3) := by decide +kernel
theorem d_X14_work_266 : decode b_X14_work 266 = .ok (.ifCond .eq 7, 3) := by decide +kernel
theorem d_X14_work_269 : decode b_X14_work 269 = .ok (.iconst 1, 1) := by decide +kernel
theorem d_X14_work_270 : decode b_X14_work 270 = .ok (.goto 4, 3) := by decide +kernel
theorem d_X14_work_273 : decode b_X14_work 273 = .ok (.iconst 0, 1) := by decide +kernel
theorem d_X14_work_274 : decode b_X14_work 274 = .ok (.ireturn, 1) := by decide +kernel
theorem d_X14_worked_0 : decode b_X14_worked 0 = .ok (.iload_n 0, 1) := by decide +kernel
theorem d_X14_worked_1 : decode b_X14_worked 1 = .ok (.tableswitch 85 0 9 #[55, 58, 61, 64, 67, 70, 73, 76, 79, 82], 55) := by decide +kernel
theorem d_X14_worked_56 : decode b_X14_worked 56 = .ok (.bipush 16, 2) := by decide +kernel
theorem d_X14_worked_58 : decode b_X14_worked 58 = .ok (.ireturn, 1) := by decide +kernel
theorem d_X14_worked_59 : decode b_X14_worked 59 = .ok (.bipush 17, 2) := by decide +kernel
theorem d_X14_worked_61 : decode b_X14_worked 61 = .ok (.ireturn, 1) := by decide +kernel
theorem d_X14_worked_62 : decode b_X14_worked 62 = .ok (.bipush 36, 2) := by decide +kernel
theorem d_X14_worked_64 : decode b_X14_worked 64 = .ok (.ireturn, 1) := by decide +kernel
theorem d_X14_worked_65 : decode b_X14_worked 65 = .ok (.bipush 37, 2) := by decide +kernel
theorem d_X14_worked_67 : decode b_X14_worked 67 = .ok (.ireturn, 1) := by decide +kernel
theorem d_X14_worked_68 : decode b_X14_worked 68 = .ok (.bipush 38, 2) := by decide +kernel
theorem d_X14_worked_70 : decode b_X14_worked 70 = .ok (.ireturn, 1) := by decide +kernel
theorem d_X14_worked_71 : decode b_X14_worked 71 = .ok (.bipush 39, 2) := by decide +kernel
theorem d_X14_worked_73 : decode b_X14_worked 73 = .ok (.ireturn, 1) := by decide +kernel
theorem d_X14_worked_74 : decode b_X14_worked 74 = .ok (.bipush 40, 2) := by decide +kernel
theorem d_X14_worked_76 : decode b_X14_worked 76 = .ok (.ireturn, 1) := by decide +kernel
theorem d_X14_worked_77 : decode b_X14_worked 77 = .ok (.bipush 33, 2) := by decide +kernel
theorem d_X14_worked_79 : decode b_X14_worked 79 = .ok (.ireturn, 1) := by decide +kernel
theorem d_X14_worked_80 : decode b_X14_worked 80 = .ok (.bipush 31, 2) := by decide +kernel
theorem d_X14_worked_82 : decode b_X14_worked 82 = .ok (.ireturn, 1) := by decide +kernel
theorem d_X14_worked_83 : decode b_X14_worked 83 = .ok (.bipush 32, 2) := by decide +kernel
theorem d_X14_worked_85 : decode b_X14_worked 85 = .ok (.ireturn, 1) := by decide +kernel
theorem d_X14_worked_86 : decode b_X14_worked 86 = .ok (.bipush 30, 2) := by decide +kernel
theorem d_X14_worked_88 : decode b_X14_worked 88 = .ok (.ireturn, 1) := by decide +kernel
theorem d_X14_written_0 : decode b_X14_written 0 = .ok (.aload_n 0, 1) := by decide +kernel
theorem d_X14_written_1 : decode b_X14_written 1 = .ok (.getfield 753, 3) := by decide +kernel
theorem d_X14_written_4 : decode b_X14_written 4 = .ok (.ireturn, 1) := by decide +kernel
theorem d_X14_wrong_0 : decode b_X14_wrong 0 = .ok (.aload_n 0, 1) := by decide +kernel
theorem d_X14_wrong_1 : decode b_X14_wrong 1 = .ok (.aload_n 0, 1) := by decide +kernel
theorem d_X14_wrong_2 : decode b_X14_wrong 2 = .ok (.getfield 288, 3) := by decide +kernel
theorem d_X14_wrong_5 : decode b_X14_wrong 5 = .ok (.invokevirtual 291, 3) := by decide +kernel
theorem d_X14_wrong_8 : decode b_X14_wrong 8 = .ok (.areturn, 1) := by decide +kernel
theorem d_X14_wrongAt_0 : decode b_X14_wrongAt 0 = .ok (.aload_n 0, 1) := by decide +kernel
theorem d_X14_wrongAt_1 : decode b_X14_wrongAt 1 = .ok (.aload_n 0, 1) := by decide +kernel
theorem d_X14_wrongAt_2 : decode b_X14_wrongAt 2 = .ok (.getfield 17, 3) := by decide +kernel
theorem d_X14_wrongAt_5 : decode b_X14_wrongAt 5 = .ok (.iload_n 1, 1) := by decide +kernel
theorem d_X14_wrongAt_6 : decode b_X14_wrongAt 6 = .ok (.iaload, 1) := by decide +kernel
theorem d_X14_wrongAt_7 : decode b_X14_wrongAt 7 = .ok (.putfield 36, 3) := by decide +kernel
theorem d_X14_wrongAt_10 : decode b_X14_wrongAt 10 = .ok (.aload_n 0, 1) := by decide +kernel
theorem d_X14_wrongAt_11 : decode b_X14_wrongAt 11 = .ok (.getfield 32, 3) := by decide +kernel
theorem d_X14_wrongAt_14 : decode b_X14_wrongAt 14 = .ok (.areturn, 1) := by decide +kernel
theorem d_X13_init_0 : decode b_X13_init 0 = .ok (.aload_n 0, 1) := by decide +kernel
theorem d_X13_init_1 : decode b_X13_init 1 = .ok (.invokespecial 1, 3) := by decide +kernel
theorem d_X13_init_4 : decode b_X13_init 4 = .ok (.aload_n 0, 1) := by decide +kernel
theorem d_X13_init_5 : decode b_X13_init 5 = .ok (.iconst 1, 1) := by decide +kernel
theorem d_X13_init_6 : decode b_X13_init 6 = .ok (.putfield 7, 3) := by decide +kernel
theorem d_X13_init_9 : decode b_X13_init 9 = .ok (.aload_n 0, 1) := by decide +kernel
theorem d_X13_init_10 : decode b_X13_init 10 = .ok (.iload_n 1, 1) := by decide +kernel
theorem d_X13_init_11 : decode b_X13_init 11 = .ok (.putfield 13, 3) := by decide +kernel
theorem d_X13_init_14 : decode b_X13_init 14 = .ok (.return_, 1) := by decide +kernel
theorem d_X13_address_0 : decode b_X13_address 0 = .ok (.aload_n 0, 1) := by decide +kernel
theorem d_X13_address_1 : decode b_X13_address 1 = .ok (.iconst 2, 1) := by decide +kernel
theorem d_X13_address_2 : decode b_X13_address 2 = .ok (.putfield 16, 3) := by decide +kernel
theorem d_X13_address_5 : decode b_X13_address 5 = .ok (.aload_n 0, 1) := by decide +kernel
theorem d_X13_address_6 : decode b_X13_address 6 = .ok (.iload_n 1, 1) := by decide +kernel
theorem d_X13_address_7 : decode b_X13_address 7 = .ok (.putfield 22, 3) := by decide +kernel
theorem d_X13_address_10 : decode b_X13_address 10 = .ok (.aload_n 0, 1) := by decide +kernel
theorem d_X13_address_11 : decode b_X13_address 11 = .ok (.iload_n 2, 1) := by decide +kernel
theorem d_X13_address_12 : decode b_X13_address 12 = .ok (.putfield 19, 3) := by decide +kernel
theorem d_X13_address_15 : decode b_X13_address 15 = .ok (.aload_n 0, 1) := by decide +kernel
theorem d_X13_address_16 : decode b_X13_address 16 = .ok (.areturn, 1) := by decide +kernel
theorem d_X13_constant_0 : decode b_X13_constant 0 = .ok (.aload_n 0, 1) := by decide +kernel
theorem d_X13_constant_1 : decode b_X13_constant 1 = .ok (.iconst 1, 1) := by decide +kernel
theorem d_X13_constant_2 : decode b_X13_constant 2 = .ok (.putfield 16, 3) := by decide +kernel
theorem d_X13_constant_5 : decode b_X13_constant 5 = .ok (.aload_n 0, 1) := by decide +kernel
theorem d_X13_constant_6 : decode b_X13_constant 6 = .ok (.iload_n 1, 1) := by decide +kernel
theorem d_X13_constant_7 : decode b_X13_constant 7 = .ok (.putfield 19, 3) := by decide +kernel
theorem d_X13_constant_10 : decode b_X13_constant 10 = .ok (.aload_n 0, 1) := by decide +kernel
theorem d_X13_constant_11 : decode b_X13_constant 11 = .ok (.areturn, 1) := by decide +kernel
theorem d_String_charAt_0 : decode b_String_charAt 0 = .ok (.aload_n 0, 1) := by decide +kernel
theorem d_String_charAt_1 : decode b_String_charAt 1 = .ok (.invokevirtual 492, 3) := by decide +kernel
theorem d_String_charAt_4 : decode b_String_charAt 4 = .ok (.ifCond .eq 12, 3) := by decide +kernel
theorem d_String_charAt_7 : decode b_String_charAt 7 = .ok (.aload_n 0, 1) := by decide +kernel
theorem d_String_charAt_8 : decode b_String_charAt 8 = .ok (.getfield 9, 3) := by decide +kernel
theorem d_String_charAt_11 : decode b_String_charAt 11 = .ok (.iload_n 1, 1) := by decide +kernel
theorem d_String_charAt_12 : decode b_String_charAt 12 = .ok (.invokestatic 495, 3) := by decide +kernel
theorem d_String_charAt_15 : decode b_String_charAt 15 = .ok (.ireturn, 1) := by decide +kernel
theorem d_String_checkIndex_0 : decode b_String_checkIndex 0 = .ok (.iload_n 0, 1) := by decide +kernel
theorem d_String_checkIndex_1 : decode b_String_checkIndex 1 = .ok (.iload_n 1, 1) := by decide +kernel
theorem d_String_checkIndex_2 : decode b_String_checkIndex 2 = .ok (.getstatic 1053, 3) := by decide +kernel
theorem d_String_checkIndex_5 : decode b_String_checkIndex 5 = .ok (.invokestatic 1059, 3) := by decide +kernel
theorem d_String_checkIndex_8 : decode b_String_checkIndex 8 = .ok (.pop, 1) := by decide +kernel
theorem d_String_checkIndex_9 : decode b_String_checkIndex 9 = .ok (.return_, 1) := by decide +kernel
theorem d_String_coder_0 : decode b_String_coder 0 = .ok (.getstatic 38, 3) := by decide +kernel
theorem d_String_coder_3 : decode b_String_coder 3 = .ok (.ifCond .eq 10, 3) := by decide +kernel
theorem d_String_coder_6 : decode b_String_coder 6 = .ok (.aload_n 0, 1) := by decide +kernel
theorem d_String_coder_7 : decode b_String_coder 7 = .ok (.getfield 15, 3) := by decide +kernel
theorem d_String_coder_10 : decode b_String_coder 10 = .ok (.goto 4, 3) := by decide +kernel
theorem d_String_coder_14 : decode b_String_coder 14 = .ok (.ireturn, 1) := by decide +kernel
theorem d_String_isLatin1_0 : decode b_String_isLatin1 0 = .ok (.getstatic 38, 3) := by decide +kernel
theorem d_String_isLatin1_3 : decode b_String_isLatin1 3 = .ok (.ifCond .eq 14, 3) := by decide +kernel
theorem d_String_isLatin1_6 : decode b_String_isLatin1 6 = .ok (.aload_n 0, 1) := by decide +kernel
theorem d_String_isLatin1_7 : decode b_String_isLatin1 7 = .ok (.getfield 15, 3) := by decide +kernel
theorem d_String_isLatin1_10 : decode b_String_isLatin1 10 = .ok (.ifCond .ne 7, 3) := by decide +kernel
theorem d_String_isLatin1_13 : decode b_String_isLatin1 13 = .ok (.iconst 1, 1) := by decide +kernel
theorem d_String_isLatin1_14 : decode b_String_isLatin1 14 = .ok (.goto 4, 3) := by decide +kernel
theorem d_String_isLatin1_18 : decode b_String_isLatin1 18 = .ok (.ireturn, 1) := by decide +kernel
theorem d_String_length_0 : decode b_String_length 0 = .ok (.aload_n 0, 1) := by decide +kernel
theorem d_String_length_1 : decode b_String_length 1 = .ok (.getfield 9, 3) := by decide +kernel
theorem d_String_length_4 : decode b_String_length 4 = .ok (.arraylength, 1) := by decide +kernel
theorem d_String_length_5 : decode b_String_length 5 = .ok (.aload_n 0, 1) := by decide +kernel
theorem d_String_length_6 : decode b_String_length 6 = .ok (.invokevirtual 335, 3) := by decide +kernel
theorem d_String_length_9 : decode b_String_length 9 = .ok (.ishr, 1) := by decide +kernel
theorem d_String_length_10 : decode b_String_length 10 = .ok (.ireturn, 1) := by decide +kernel
theorem d_StringLatin1_charAt_0 : decode b_StringLatin1_charAt 0 = .ok (.iload_n 1, 1) := by decide +kernel
theorem d_StringLatin1_charAt_1 : decode b_StringLatin1_charAt 1 = .ok (.aload_n 0, 1) := by decide +kernel
theorem d_StringLatin1_charAt_2 : decode b_StringLatin1_charAt 2 = .ok (.arraylength, 1) := by decide +kernel
theorem d_StringLatin1_charAt_3 : decode b_StringLatin1_charAt 3 = .ok (.invokestatic 9, 3) := by decide +kernel
theorem d_StringLatin1_charAt_6 : decode b_StringLatin1_charAt 6 = .ok (.aload_n 0, 1) := by decide +kernel
theorem d_StringLatin1_charAt_7 : decode b_StringLatin1_charAt 7 = .ok (.iload_n 1, 1) := by decide +kernel
theorem d_StringLatin1_charAt_8 : decode b_StringLatin1_charAt 8 = .ok (.baload, 1) := by decide +kernel
theorem d_StringLatin1_charAt_9 : decode b_StringLatin1_charAt 9 = .ok (.sipush 255, 3) := by decide +kernel
theorem d_StringLatin1_charAt_12 : decode b_StringLatin1_charAt 12 = .ok (.iand, 1) := by decide +kernel
theorem d_StringLatin1_charAt_13 : decode b_StringLatin1_charAt 13 = .ok (.i2c, 1) := by decide +kernel
theorem d_StringLatin1_charAt_14 : decode b_StringLatin1_charAt 14 = .ok (.ireturn, 1) := by decide +kernel
theorem d_Arrays_fill_0 : decode b_Arrays_fill 0 = .ok (.iconst 0, 1) := by decide +kernel
theorem d_Arrays_fill_1 : decode b_Arrays_fill 1 = .ok (.istore_n 2, 1) := by decide +kernel
theorem d_Arrays_fill_2 : decode b_Arrays_fill 2 = .ok (.aload_n 0, 1) := by decide +kernel
theorem d_Arrays_fill_3 : decode b_Arrays_fill 3 = .ok (.arraylength, 1) := by decide +kernel
theorem d_Arrays_fill_4 : decode b_Arrays_fill 4 = .ok (.istore_n 3, 1) := by decide +kernel
theorem d_Arrays_fill_5 : decode b_Arrays_fill 5 = .ok (.iload_n 2, 1) := by decide +kernel
theorem d_Arrays_fill_6 : decode b_Arrays_fill 6 = .ok (.iload_n 3, 1) := by decide +kernel
theorem d_Arrays_fill_7 : decode b_Arrays_fill 7 = .ok (.if_icmp .ge 13, 3) := by decide +kernel
theorem d_Arrays_fill_10 : decode b_Arrays_fill 10 = .ok (.aload_n 0, 1) := by decide +kernel
theorem d_Arrays_fill_11 : decode b_Arrays_fill 11 = .ok (.iload_n 2, 1) := by decide +kernel
theorem d_Arrays_fill_12 : decode b_Arrays_fill 12 = .ok (.iload_n 1, 1) := by decide +kernel
theorem d_Arrays_fill_13 : decode b_Arrays_fill 13 = .ok (.iastore, 1) := by decide +kernel
theorem d_Arrays_fill_14 : decode b_Arrays_fill 14 = .ok (.iinc 2 1, 3) := by decide +kernel
theorem d_Arrays_fill_17 : decode b_Arrays_fill 17 = .ok (.goto (-12), 3) := by decide +kernel
theorem d_Arrays_fill_20 : decode b_Arrays_fill 20 = .ok (.return_, 1) := by decide +kernel
theorem d_Preconditions_checkIndex_0 : decode b_Preconditions_checkIndex 0 = .ok (.iload_n 0, 1) := by decide +kernel
theorem d_Preconditions_checkIndex_1 : decode b_Preconditions_checkIndex 1 = .ok (.ifCond .lt 8, 3) := by decide +kernel
theorem d_Preconditions_checkIndex_4 : decode b_Preconditions_checkIndex 4 = .ok (.iload_n 0, 1) := by decide +kernel
theorem d_Preconditions_checkIndex_5 : decode b_Preconditions_checkIndex 5 = .ok (.iload_n 1, 1) := by decide +kernel
theorem d_Preconditions_checkIndex_6 : decode b_Preconditions_checkIndex 6 = .ok (.if_icmp .lt 10, 3) := by decide +kernel
theorem d_Preconditions_checkIndex_16 : decode b_Preconditions_checkIndex 16 = .ok (.iload_n 0, 1) := by decide +kernel
theorem d_Preconditions_checkIndex_17 : decode b_Preconditions_checkIndex 17 = .ok (.ireturn, 1) := by decide +kernel

