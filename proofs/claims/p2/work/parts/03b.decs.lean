theorem d_X3_loop_6 : decode b_X3_loop 6 = .ok (.getfield 53, 3) := by decide +kernel
theorem d_X3_loop_9 : decode b_X3_loop 9 = .ok (.istore_n 3, 1) := by decide +kernel
theorem d_X3_loop_10 : decode b_X3_loop 10 = .ok (.aload_n 0, 1) := by decide +kernel
theorem d_X3_loop_11 : decode b_X3_loop 11 = .ok (.invokevirtual 47, 3) := by decide +kernel
theorem d_X3_loop_14 : decode b_X3_loop 14 = .ok (.iload_n 3, 1) := by decide +kernel
theorem d_X3_loop_15 : decode b_X3_loop 15 = .ok (.bipush 11, 2) := by decide +kernel
theorem d_X3_loop_17 : decode b_X3_loop 17 = .ok (.if_icmp .ne 38, 3) := by decide +kernel
theorem d_X3_loop_20 : decode b_X3_loop 20 = .ok (.aload_n 0, 1) := by decide +kernel
theorem d_X3_loop_21 : decode b_X3_loop 21 = .ok (.bipush 26, 2) := by decide +kernel
theorem d_X3_loop_23 : decode b_X3_loop 23 = .ok (.iload_n 2, 1) := by decide +kernel
theorem d_X3_loop_24 : decode b_X3_loop 24 = .ok (.iconst 0, 1) := by decide +kernel
theorem d_X3_loop_25 : decode b_X3_loop 25 = .ok (.iconst 0, 1) := by decide +kernel
theorem d_X3_loop_26 : decode b_X3_loop 26 = .ok (.invokevirtual 75, 3) := by decide +kernel
theorem d_X3_loop_29 : decode b_X3_loop 29 = .ok (.pop, 1) := by decide +kernel
theorem d_X3_loop_30 : decode b_X3_loop 30 = .ok (.aload_n 0, 1) := by decide +kernel
theorem d_X3_loop_31 : decode b_X3_loop 31 = .ok (.bipush 27, 2) := by decide +kernel
theorem d_X3_loop_33 : decode b_X3_loop 33 = .ok (.iload_n 2, 1) := by decide +kernel
theorem d_X3_loop_34 : decode b_X3_loop 34 = .ok (.invokevirtual 137, 3) := by decide +kernel
theorem d_X3_loop_37 : decode b_X3_loop 37 = .ok (.aload_n 0, 1) := by decide +kernel
theorem d_X3_loop_38 : decode b_X3_loop 38 = .ok (.iload_n 1, 1) := by decide +kernel
theorem d_X3_loop_39 : decode b_X3_loop 39 = .ok (.invokevirtual 140, 3) := by decide +kernel
theorem d_X3_loop_42 : decode b_X3_loop 42 = .ok (.aload_n 0, 1) := by decide +kernel
theorem d_X3_loop_43 : decode b_X3_loop 43 = .ok (.bipush 28, 2) := by decide +kernel
theorem d_X3_loop_45 : decode b_X3_loop 45 = .ok (.iload_n 2, 1) := by decide +kernel
theorem d_X3_loop_46 : decode b_X3_loop 46 = .ok (.iconst 0, 1) := by decide +kernel
theorem d_X3_loop_47 : decode b_X3_loop 47 = .ok (.iconst 0, 1) := by decide +kernel
theorem d_X3_loop_48 : decode b_X3_loop 48 = .ok (.invokevirtual 75, 3) := by decide +kernel
theorem d_X3_loop_51 : decode b_X3_loop 51 = .ok (.pop, 1) := by decide +kernel
theorem d_X3_loop_52 : decode b_X3_loop 52 = .ok (.goto 84, 3) := by decide +kernel
theorem d_X3_loop_55 : decode b_X3_loop 55 = .ok (.iload_n 3, 1) := by decide +kernel
theorem d_X3_loop_56 : decode b_X3_loop 56 = .ok (.bipush 12, 2) := by decide +kernel
theorem d_X3_loop_58 : decode b_X3_loop 58 = .ok (.if_icmp .ne 58, 3) := by decide +kernel
theorem d_X3_loop_61 : decode b_X3_loop 61 = .ok (.aload_n 0, 1) := by decide +kernel
theorem d_X3_loop_62 : decode b_X3_loop 62 = .ok (.bipush 29, 2) := by decide +kernel
theorem d_X3_loop_64 : decode b_X3_loop 64 = .ok (.iload_n 2, 1) := by decide +kernel
theorem d_X3_loop_65 : decode b_X3_loop 65 = .ok (.iconst 0, 1) := by decide +kernel
theorem d_X3_loop_66 : decode b_X3_loop 66 = .ok (.iconst 0, 1) := by decide +kernel
theorem d_X3_loop_67 : decode b_X3_loop 67 = .ok (.invokevirtual 75, 3) := by decide +kernel
theorem d_X3_loop_70 : decode b_X3_loop 70 = .ok (.pop, 1) := by decide +kernel
theorem d_X3_loop_71 : decode b_X3_loop 71 = .ok (.aload_n 0, 1) := by decide +kernel
theorem d_X3_loop_72 : decode b_X3_loop 72 = .ok (.iload_n 1, 1) := by decide +kernel
theorem d_X3_loop_73 : decode b_X3_loop 73 = .ok (.invokevirtual 140, 3) := by decide +kernel
theorem d_X3_loop_76 : decode b_X3_loop 76 = .ok (.aload_n 0, 1) := by decide +kernel
theorem d_X3_loop_77 : decode b_X3_loop 77 = .ok (.getfield 44, 3) := by decide +kernel
theorem d_X3_loop_80 : decode b_X3_loop 80 = .ok (.istore 4, 2) := by decide +kernel
theorem d_X3_loop_82 : decode b_X3_loop 82 = .ok (.aload_n 0, 1) := by decide +kernel
theorem d_X3_loop_83 : decode b_X3_loop 83 = .ok (.bipush 11, 2) := by decide +kernel
theorem d_X3_loop_85 : decode b_X3_loop 85 = .ok (.invokevirtual 56, 3) := by decide +kernel
theorem d_X3_loop_88 : decode b_X3_loop 88 = .ok (.aload_n 0, 1) := by decide +kernel
theorem d_X3_loop_89 : decode b_X3_loop 89 = .ok (.bipush 30, 2) := by decide +kernel
theorem d_X3_loop_91 : decode b_X3_loop 91 = .ok (.iload 4, 2) := by decide +kernel
theorem d_X3_loop_93 : decode b_X3_loop 93 = .ok (.iconst 0, 1) := by decide +kernel
theorem d_X3_loop_94 : decode b_X3_loop 94 = .ok (.iconst 0, 1) := by decide +kernel
theorem d_X3_loop_95 : decode b_X3_loop 95 = .ok (.invokevirtual 75, 3) := by decide +kernel
theorem d_X3_loop_98 : decode b_X3_loop 98 = .ok (.pop, 1) := by decide +kernel
theorem d_X3_loop_99 : decode b_X3_loop 99 = .ok (.aload_n 0, 1) := by decide +kernel
theorem d_X3_loop_100 : decode b_X3_loop 100 = .ok (.bipush 31, 2) := by decide +kernel
theorem d_X3_loop_102 : decode b_X3_loop 102 = .ok (.iload 4, 2) := by decide +kernel
theorem d_X3_loop_104 : decode b_X3_loop 104 = .ok (.invokevirtual 137, 3) := by decide +kernel
theorem d_X3_loop_107 : decode b_X3_loop 107 = .ok (.aload_n 0, 1) := by decide +kernel
theorem d_X3_loop_108 : decode b_X3_loop 108 = .ok (.bipush 27, 2) := by decide +kernel
theorem d_X3_loop_110 : decode b_X3_loop 110 = .ok (.invokevirtual 56, 3) := by decide +kernel
theorem d_X3_loop_113 : decode b_X3_loop 113 = .ok (.goto 23, 3) := by decide +kernel
theorem d_X3_loop_116 : decode b_X3_loop 116 = .ok (.aload_n 0, 1) := by decide +kernel
theorem d_X3_loop_117 : decode b_X3_loop 117 = .ok (.iload_n 2, 1) := by decide +kernel
theorem d_X3_loop_118 : decode b_X3_loop 118 = .ok (.invokevirtual 143, 3) := by decide +kernel
theorem d_X3_loop_121 : decode b_X3_loop 121 = .ok (.aload_n 0, 1) := by decide +kernel
theorem d_X3_loop_122 : decode b_X3_loop 122 = .ok (.iload_n 1, 1) := by decide +kernel
theorem d_X3_loop_123 : decode b_X3_loop 123 = .ok (.invokevirtual 140, 3) := by decide +kernel
theorem d_X3_loop_126 : decode b_X3_loop 126 = .ok (.aload_n 0, 1) := by decide +kernel
theorem d_X3_loop_127 : decode b_X3_loop 127 = .ok (.bipush 35, 2) := by decide +kernel
theorem d_X3_loop_129 : decode b_X3_loop 129 = .ok (.iload_n 2, 1) := by decide +kernel
theorem d_X3_loop_130 : decode b_X3_loop 130 = .ok (.iconst 0, 1) := by decide +kernel
theorem d_X3_loop_131 : decode b_X3_loop 131 = .ok (.iconst 0, 1) := by decide +kernel
theorem d_X3_loop_132 : decode b_X3_loop 132 = .ok (.invokevirtual 75, 3) := by decide +kernel
theorem d_X3_loop_135 : decode b_X3_loop 135 = .ok (.pop, 1) := by decide +kernel
theorem d_X3_loop_136 : decode b_X3_loop 136 = .ok (.return_, 1) := by decide +kernel
theorem d_X3_counted_0 : decode b_X3_counted 0 = .ok (.aload_n 0, 1) := by decide +kernel
theorem d_X3_counted_1 : decode b_X3_counted 1 = .ok (.bipush 20, 2) := by decide +kernel
theorem d_X3_counted_3 : decode b_X3_counted 3 = .ok (.invokevirtual 56, 3) := by decide +kernel
theorem d_X3_counted_6 : decode b_X3_counted 6 = .ok (.aload_n 0, 1) := by decide +kernel
theorem d_X3_counted_7 : decode b_X3_counted 7 = .ok (.getfield 53, 3) := by decide +kernel
theorem d_X3_counted_10 : decode b_X3_counted 10 = .ok (.bipush 27, 2) := by decide +kernel
theorem d_X3_counted_12 : decode b_X3_counted 12 = .ok (.if_icmp .eq 18, 3) := by decide +kernel
theorem d_X3_counted_15 : decode b_X3_counted 15 = .ok (.aload_n 0, 1) := by decide +kernel
theorem d_X3_counted_16 : decode b_X3_counted 16 = .ok (.iconst 1, 1) := by decide +kernel
theorem d_X3_counted_17 : decode b_X3_counted 17 = .ok (.invokevirtual 119, 3) := by decide +kernel
theorem d_X3_counted_20 : decode b_X3_counted 20 = .ok (.aload_n 0, 1) := by decide +kernel
theorem d_X3_counted_21 : decode b_X3_counted 21 = .ok (.bipush 22, 2) := by decide +kernel
theorem d_X3_counted_23 : decode b_X3_counted 23 = .ok (.iload_n 1, 1) := by decide +kernel
theorem d_X3_counted_24 : decode b_X3_counted 24 = .ok (.iconst 0, 1) := by decide +kernel
theorem d_X3_counted_25 : decode b_X3_counted 25 = .ok (.iconst 0, 1) := by decide +kernel
theorem d_X3_counted_26 : decode b_X3_counted 26 = .ok (.invokevirtual 75, 3) := by decide +kernel
theorem d_X3_counted_29 : decode b_X3_counted 29 = .ok (.pop, 1) := by decide +kernel
theorem d_X3_counted_30 : decode b_X3_counted 30 = .ok (.aload_n 0, 1) := by decide +kernel
theorem d_X3_counted_31 : decode b_X3_counted 31 = .ok (.bipush 27, 2) := by decide +kernel
theorem d_X3_counted_33 : decode b_X3_counted 33 = .ok (.invokevirtual 56, 3) := by decide +kernel
theorem d_X3_counted_36 : decode b_X3_counted 36 = .ok (.aload_n 0, 1) := by decide +kernel
theorem d_X3_counted_37 : decode b_X3_counted 37 = .ok (.bipush 32, 2) := by decide +kernel
theorem d_X3_counted_39 : decode b_X3_counted 39 = .ok (.iload_n 1, 1) := by decide +kernel
theorem d_X3_counted_40 : decode b_X3_counted 40 = .ok (.iconst 0, 1) := by decide +kernel
theorem d_X3_counted_41 : decode b_X3_counted 41 = .ok (.iconst 0, 1) := by decide +kernel
theorem d_X3_counted_42 : decode b_X3_counted 42 = .ok (.invokevirtual 75, 3) := by decide +kernel
theorem d_X3_counted_45 : decode b_X3_counted 45 = .ok (.pop, 1) := by decide +kernel
theorem d_X3_counted_46 : decode b_X3_counted 46 = .ok (.aload_n 0, 1) := by decide +kernel
theorem d_X3_counted_47 : decode b_X3_counted 47 = .ok (.getfield 53, 3) := by decide +kernel
theorem d_X3_counted_50 : decode b_X3_counted 50 = .ok (.bipush 27, 2) := by decide +kernel
theorem d_X3_counted_52 : decode b_X3_counted 52 = .ok (.if_icmp .eq 7, 3) := by decide +kernel
theorem d_X3_counted_55 : decode b_X3_counted 55 = .ok (.iconst 1, 1) := by decide +kernel
theorem d_X3_counted_56 : decode b_X3_counted 56 = .ok (.goto 4, 3) := by decide +kernel
theorem d_X3_counted_59 : decode b_X3_counted 59 = .ok (.iconst 0, 1) := by decide +kernel
theorem d_X3_counted_60 : decode b_X3_counted 60 = .ok (.istore_n 2, 1) := by decide +kernel
theorem d_X3_counted_61 : decode b_X3_counted 61 = .ok (.iload_n 2, 1) := by decide +kernel
theorem d_X3_counted_62 : decode b_X3_counted 62 = .ok (.ifCond .eq 8, 3) := by decide +kernel
theorem d_X3_counted_65 : decode b_X3_counted 65 = .ok (.aload_n 0, 1) := by decide +kernel
theorem d_X3_counted_66 : decode b_X3_counted 66 = .ok (.iconst 1, 1) := by decide +kernel
theorem d_X3_counted_67 : decode b_X3_counted 67 = .ok (.invokevirtual 119, 3) := by decide +kernel
theorem d_X3_counted_70 : decode b_X3_counted 70 = .ok (.aload_n 0, 1) := by decide +kernel
theorem d_X3_counted_71 : decode b_X3_counted 71 = .ok (.bipush 33, 2) := by decide +kernel
theorem d_X3_counted_73 : decode b_X3_counted 73 = .ok (.iload_n 1, 1) := by decide +kernel
theorem d_X3_counted_74 : decode b_X3_counted 74 = .ok (.iload_n 2, 1) := by decide +kernel
theorem d_X3_counted_75 : decode b_X3_counted 75 = .ok (.ifCond .eq 7, 3) := by decide +kernel
theorem d_X3_counted_78 : decode b_X3_counted 78 = .ok (.iconst 1, 1) := by decide +kernel
theorem d_X3_counted_79 : decode b_X3_counted 79 = .ok (.goto 4, 3) := by decide +kernel
theorem d_X3_counted_82 : decode b_X3_counted 82 = .ok (.iconst 0, 1) := by decide +kernel
theorem d_X3_counted_83 : decode b_X3_counted 83 = .ok (.iconst 0, 1) := by decide +kernel
theorem d_X3_counted_84 : decode b_X3_counted 84 = .ok (.invokevirtual 75, 3) := by decide +kernel
theorem d_X3_counted_87 : decode b_X3_counted 87 = .ok (.pop, 1) := by decide +kernel
theorem d_X3_counted_88 : decode b_X3_counted 88 = .ok (.aload_n 0, 1) := by decide +kernel
theorem d_X3_counted_89 : decode b_X3_counted 89 = .ok (.bipush 27, 2) := by decide +kernel
theorem d_X3_counted_91 : decode b_X3_counted 91 = .ok (.invokevirtual 56, 3) := by decide +kernel
theorem d_X3_counted_94 : decode b_X3_counted 94 = .ok (.aload_n 0, 1) := by decide +kernel
theorem d_X3_counted_95 : decode b_X3_counted 95 = .ok (.getfield 53, 3) := by decide +kernel
theorem d_X3_counted_98 : decode b_X3_counted 98 = .ok (.bipush 21, 2) := by decide +kernel
theorem d_X3_counted_100 : decode b_X3_counted 100 = .ok (.if_icmp .eq 18, 3) := by decide +kernel
theorem d_X3_counted_103 : decode b_X3_counted 103 = .ok (.aload_n 0, 1) := by decide +kernel
theorem d_X3_counted_104 : decode b_X3_counted 104 = .ok (.iconst 1, 1) := by decide +kernel
theorem d_X3_counted_105 : decode b_X3_counted 105 = .ok (.invokevirtual 119, 3) := by decide +kernel
theorem d_X3_counted_108 : decode b_X3_counted 108 = .ok (.aload_n 0, 1) := by decide +kernel
theorem d_X3_counted_109 : decode b_X3_counted 109 = .ok (.bipush 22, 2) := by decide +kernel
theorem d_X3_counted_111 : decode b_X3_counted 111 = .ok (.iload_n 1, 1) := by decide +kernel
theorem d_X3_counted_112 : decode b_X3_counted 112 = .ok (.iconst 0, 1) := by decide +kernel
theorem d_X3_counted_113 : decode b_X3_counted 113 = .ok (.iconst 0, 1) := by decide +kernel
theorem d_X3_counted_114 : decode b_X3_counted 114 = .ok (.invokevirtual 75, 3) := by decide +kernel
theorem d_X3_counted_117 : decode b_X3_counted 117 = .ok (.pop, 1) := by decide +kernel
theorem d_X3_counted_118 : decode b_X3_counted 118 = .ok (.aload_n 0, 1) := by decide +kernel
theorem d_X3_counted_119 : decode b_X3_counted 119 = .ok (.bipush 21, 2) := by decide +kernel
theorem d_X3_counted_121 : decode b_X3_counted 121 = .ok (.invokevirtual 56, 3) := by decide +kernel
theorem d_X3_counted_124 : decode b_X3_counted 124 = .ok (.aload_n 0, 1) := by decide +kernel
theorem d_X3_counted_125 : decode b_X3_counted 125 = .ok (.bipush 34, 2) := by decide +kernel
theorem d_X3_counted_127 : decode b_X3_counted 127 = .ok (.iload_n 1, 1) := by decide +kernel
theorem d_X3_counted_128 : decode b_X3_counted 128 = .ok (.iconst 0, 1) := by decide +kernel
theorem d_X3_counted_129 : decode b_X3_counted 129 = .ok (.iconst 0, 1) := by decide +kernel
theorem d_X3_counted_130 : decode b_X3_counted 130 = .ok (.invokevirtual 75, 3) := by decide +kernel
theorem d_X3_counted_133 : decode b_X3_counted 133 = .ok (.pop, 1) := by decide +kernel
theorem d_X3_counted_134 : decode b_X3_counted 134 = .ok (.return_, 1) := by decide +kernel
theorem d_X3_simple_0 : decode b_X3_simple 0 = .ok (.aload_n 0, 1) := by decide +kernel
theorem d_X3_simple_1 : decode b_X3_simple 1 = .ok (.getfield 44, 3) := by decide +kernel
theorem d_X3_simple_4 : decode b_X3_simple 4 = .ok (.istore_n 1, 1) := by decide +kernel
theorem d_X3_simple_5 : decode b_X3_simple 5 = .ok (.aload_n 0, 1) := by decide +kernel
theorem d_X3_simple_6 : decode b_X3_simple 6 = .ok (.getfield 53, 3) := by decide +kernel
theorem d_X3_simple_9 : decode b_X3_simple 9 = .ok (.bipush 14, 2) := by decide +kernel
theorem d_X3_simple_11 : decode b_X3_simple 11 = .ok (.if_icmp .eq 12, 3) := by decide +kernel
theorem d_X3_simple_14 : decode b_X3_simple 14 = .ok (.aload_n 0, 1) := by decide +kernel
theorem d_X3_simple_15 : decode b_X3_simple 15 = .ok (.getfield 53, 3) := by decide +kernel
theorem d_X3_simple_18 : decode b_X3_simple 18 = .ok (.bipush 15, 2) := by decide +kernel
theorem d_X3_simple_20 : decode b_X3_simple 20 = .ok (.if_icmp .ne 34, 3) := by decide +kernel
theorem d_X3_simple_23 : decode b_X3_simple 23 = .ok (.aload_n 0, 1) := by decide +kernel
theorem d_X3_simple_24 : decode b_X3_simple 24 = .ok (.aload_n 0, 1) := by decide +kernel
theorem d_X3_simple_25 : decode b_X3_simple 25 = .ok (.getfield 53, 3) := by decide +kernel
theorem d_X3_simple_28 : decode b_X3_simple 28 = .ok (.bipush 14, 2) := by decide +kernel
theorem d_X3_simple_30 : decode b_X3_simple 30 = .ok (.if_icmp .ne 8, 3) := by decide +kernel
theorem d_X3_simple_33 : decode b_X3_simple 33 = .ok (.bipush 36, 2) := by decide +kernel
theorem d_X3_simple_35 : decode b_X3_simple 35 = .ok (.goto 5, 3) := by decide +kernel
theorem d_X3_simple_38 : decode b_X3_simple 38 = .ok (.bipush 37, 2) := by decide +kernel
theorem d_X3_simple_40 : decode b_X3_simple 40 = .ok (.iload_n 1, 1) := by decide +kernel
theorem d_X3_simple_41 : decode b_X3_simple 41 = .ok (.iconst 0, 1) := by decide +kernel
theorem d_X3_simple_42 : decode b_X3_simple 42 = .ok (.iconst 0, 1) := by decide +kernel
theorem d_X3_simple_43 : decode b_X3_simple 43 = .ok (.invokevirtual 75, 3) := by decide +kernel
theorem d_X3_simple_46 : decode b_X3_simple 46 = .ok (.pop, 1) := by decide +kernel
theorem d_X3_simple_47 : decode b_X3_simple 47 = .ok (.aload_n 0, 1) := by decide +kernel
theorem d_X3_simple_48 : decode b_X3_simple 48 = .ok (.invokevirtual 47, 3) := by decide +kernel
theorem d_X3_simple_51 : decode b_X3_simple 51 = .ok (.goto 76, 3) := by decide +kernel
theorem d_X3_simple_54 : decode b_X3_simple 54 = .ok (.aload_n 0, 1) := by decide +kernel
theorem d_X3_simple_55 : decode b_X3_simple 55 = .ok (.getfield 53, 3) := by decide +kernel
theorem d_X3_simple_58 : decode b_X3_simple 58 = .ok (.bipush 16, 2) := by decide +kernel
theorem d_X3_simple_60 : decode b_X3_simple 60 = .ok (.if_icmp .ne 52, 3) := by decide +kernel
theorem d_X3_simple_63 : decode b_X3_simple 63 = .ok (.aload_n 0, 1) := by decide +kernel
theorem d_X3_simple_64 : decode b_X3_simple 64 = .ok (.invokevirtual 47, 3) := by decide +kernel
theorem d_X3_simple_67 : decode b_X3_simple 67 = .ok (.aload_n 0, 1) := by decide +kernel
theorem d_X3_simple_68 : decode b_X3_simple 68 = .ok (.getfield 53, 3) := by decide +kernel
theorem d_X3_simple_71 : decode b_X3_simple 71 = .ok (.bipush 27, 2) := by decide +kernel
theorem d_X3_simple_73 : decode b_X3_simple 73 = .ok (.if_icmp .eq 7, 3) := by decide +kernel
theorem d_X3_simple_76 : decode b_X3_simple 76 = .ok (.iconst 1, 1) := by decide +kernel
theorem d_X3_simple_77 : decode b_X3_simple 77 = .ok (.goto 4, 3) := by decide +kernel
theorem d_X3_simple_80 : decode b_X3_simple 80 = .ok (.iconst 0, 1) := by decide +kernel
theorem d_X3_simple_81 : decode b_X3_simple 81 = .ok (.istore_n 2, 1) := by decide +kernel
theorem d_X3_simple_82 : decode b_X3_simple 82 = .ok (.iload_n 2, 1) := by decide +kernel
theorem d_X3_simple_83 : decode b_X3_simple 83 = .ok (.ifCond .eq 8, 3) := by decide +kernel
theorem d_X3_simple_86 : decode b_X3_simple 86 = .ok (.aload_n 0, 1) := by decide +kernel
theorem d_X3_simple_87 : decode b_X3_simple 87 = .ok (.iconst 1, 1) := by decide +kernel
theorem d_X3_simple_88 : decode b_X3_simple 88 = .ok (.invokevirtual 119, 3) := by decide +kernel
theorem d_X3_simple_91 : decode b_X3_simple 91 = .ok (.aload_n 0, 1) := by decide +kernel
theorem d_X3_simple_92 : decode b_X3_simple 92 = .ok (.bipush 38, 2) := by decide +kernel
theorem d_X3_simple_94 : decode b_X3_simple 94 = .ok (.iload_n 1, 1) := by decide +kernel
theorem d_X3_simple_95 : decode b_X3_simple 95 = .ok (.iload_n 2, 1) := by decide +kernel
theorem d_X3_simple_96 : decode b_X3_simple 96 = .ok (.ifCond .eq 7, 3) := by decide +kernel
theorem d_X3_simple_99 : decode b_X3_simple 99 = .ok (.iconst 1, 1) := by decide +kernel
theorem d_X3_simple_100 : decode b_X3_simple 100 = .ok (.goto 4, 3) := by decide +kernel
theorem d_X3_simple_103 : decode b_X3_simple 103 = .ok (.iconst 0, 1) := by decide +kernel
theorem d_X3_simple_104 : decode b_X3_simple 104 = .ok (.iconst 0, 1) := by decide +kernel
theorem d_X3_simple_105 : decode b_X3_simple 105 = .ok (.invokevirtual 75, 3) := by decide +kernel
theorem d_X3_simple_108 : decode b_X3_simple 108 = .ok (.pop, 1) := by decide +kernel
theorem d_X3_simple_109 : decode b_X3_simple 109 = .ok (.goto 18, 3) := by decide +kernel
theorem d_X3_simple_112 : decode b_X3_simple 112 = .ok (.aload_n 0, 1) := by decide +kernel
theorem d_X3_simple_113 : decode b_X3_simple 113 = .ok (.iconst 1, 1) := by decide +kernel
theorem d_X3_simple_114 : decode b_X3_simple 114 = .ok (.invokevirtual 119, 3) := by decide +kernel
theorem d_X3_simple_117 : decode b_X3_simple 117 = .ok (.aload_n 0, 1) := by decide +kernel
theorem d_X3_simple_118 : decode b_X3_simple 118 = .ok (.bipush 22, 2) := by decide +kernel
theorem d_X3_simple_120 : decode b_X3_simple 120 = .ok (.iload_n 1, 1) := by decide +kernel
theorem d_X3_simple_121 : decode b_X3_simple 121 = .ok (.iconst 0, 1) := by decide +kernel
theorem d_X3_simple_122 : decode b_X3_simple 122 = .ok (.iconst 0, 1) := by decide +kernel
theorem d_X3_simple_123 : decode b_X3_simple 123 = .ok (.invokevirtual 75, 3) := by decide +kernel
theorem d_X3_simple_126 : decode b_X3_simple 126 = .ok (.pop, 1) := by decide +kernel
theorem d_X3_simple_127 : decode b_X3_simple 127 = .ok (.aload_n 0, 1) := by decide +kernel
theorem d_X3_simple_128 : decode b_X3_simple 128 = .ok (.bipush 27, 2) := by decide +kernel
theorem d_X3_simple_130 : decode b_X3_simple 130 = .ok (.invokevirtual 56, 3) := by decide +kernel
theorem d_X3_simple_133 : decode b_X3_simple 133 = .ok (.return_, 1) := by decide +kernel
theorem d_X7_walk_0 : decode b_X7_walk 0 = .ok (.aload_n 0, 1) := by decide +kernel
theorem d_X7_walk_1 : decode b_X7_walk 1 = .ok (.getfield 34, 3) := by decide +kernel
theorem d_X7_walk_4 : decode b_X7_walk 4 = .ok (.iload_n 1, 1) := by decide +kernel
theorem d_X7_walk_5 : decode b_X7_walk 5 = .ok (.invokevirtual 54, 3) := by decide +kernel
theorem d_X7_walk_8 : decode b_X7_walk 8 = .ok (.aload_n 0, 1) := by decide +kernel
theorem d_X7_walk_9 : decode b_X7_walk 9 = .ok (.getfield 50, 3) := by decide +kernel
theorem d_X7_walk_12 : decode b_X7_walk 12 = .ok (.invokevirtual 60, 3) := by decide +kernel
theorem d_X7_walk_15 : decode b_X7_walk 15 = .ok (.aload_n 0, 1) := by decide +kernel
theorem d_X7_walk_16 : decode b_X7_walk 16 = .ok (.getfield 49, 3) := by decide +kernel
theorem d_X7_walk_19 : decode b_X7_walk 19 = .ok (.iconst 0, 1) := by decide +kernel
theorem d_X7_walk_20 : decode b_X7_walk 20 = .ok (.putfield 62, 3) := by decide +kernel
theorem d_X7_walk_23 : decode b_X7_walk 23 = .ok (.aload_n 0, 1) := by decide +kernel
theorem d_X7_walk_24 : decode b_X7_walk 24 = .ok (.iconst 0, 1) := by decide +kernel
theorem d_X7_walk_25 : decode b_X7_walk 25 = .ok (.putfield 68, 3) := by decide +kernel
theorem d_X7_walk_28 : decode b_X7_walk 28 = .ok (.iconst 0, 1) := by decide +kernel
theorem d_X7_walk_29 : decode b_X7_walk 29 = .ok (.istore_n 2, 1) := by decide +kernel
theorem d_X7_walk_30 : decode b_X7_walk 30 = .ok (.aload_n 0, 1) := by decide +kernel
theorem d_X7_walk_31 : decode b_X7_walk 31 = .ok (.getfield 30, 3) := by decide +kernel
theorem d_X7_walk_34 : decode b_X7_walk 34 = .ok (.getfield 71, 3) := by decide +kernel
theorem d_X7_walk_37 : decode b_X7_walk 37 = .ok (.istore_n 3, 1) := by decide +kernel
theorem d_X7_walk_38 : decode b_X7_walk 38 = .ok (.iload_n 3, 1) := by decide +kernel
theorem d_X7_walk_39 : decode b_X7_walk 39 = .ok (.ifCond .le 137, 3) := by decide +kernel
theorem d_X7_walk_42 : decode b_X7_walk 42 = .ok (.iload_n 2, 1) := by decide +kernel
theorem d_X7_walk_43 : decode b_X7_walk 43 = .ok (.aload_n 0, 1) := by decide +kernel
theorem d_X7_walk_44 : decode b_X7_walk 44 = .ok (.getfield 30, 3) := by decide +kernel
theorem d_X7_walk_47 : decode b_X7_walk 47 = .ok (.getfield 71, 3) := by decide +kernel
theorem d_X7_walk_50 : decode b_X7_walk 50 = .ok (.if_icmp .ge 126, 3) := by decide +kernel
theorem d_X7_walk_53 : decode b_X7_walk 53 = .ok (.aload_n 0, 1) := by decide +kernel
theorem d_X7_walk_54 : decode b_X7_walk 54 = .ok (.getfield 34, 3) := by decide +kernel
theorem d_X7_walk_57 : decode b_X7_walk 57 = .ok (.getfield 74, 3) := by decide +kernel
theorem d_X7_walk_60 : decode b_X7_walk 60 = .ok (.ifCond .ne 116, 3) := by decide +kernel
theorem d_X7_walk_63 : decode b_X7_walk 63 = .ok (.aload_n 0, 1) := by decide +kernel
theorem d_X7_walk_64 : decode b_X7_walk 64 = .ok (.getfield 30, 3) := by decide +kernel
theorem d_X7_walk_67 : decode b_X7_walk 67 = .ok (.getfield 77, 3) := by decide +kernel
theorem d_X7_walk_70 : decode b_X7_walk 70 = .ok (.iload_n 2, 1) := by decide +kernel
theorem d_X7_walk_71 : decode b_X7_walk 71 = .ok (.invokestatic 80, 3) := by decide +kernel
theorem d_X7_walk_74 : decode b_X7_walk 74 = .ok (.istore 4, 2) := by decide +kernel
theorem d_X7_walk_76 : decode b_X7_walk 76 = .ok (.iload 4, 2) := by decide +kernel
theorem d_X7_walk_78 : decode b_X7_walk 78 = .ok (.bipush 20, 2) := by decide +kernel
theorem d_X7_walk_80 : decode b_X7_walk 80 = .ok (.if_icmp .ge 14, 3) := by decide +kernel
theorem d_X7_walk_83 : decode b_X7_walk 83 = .ok (.aload_n 0, 1) := by decide +kernel
theorem d_X7_walk_84 : decode b_X7_walk 84 = .ok (.getfield 49, 3) := by decide +kernel
theorem d_X7_walk_87 : decode b_X7_walk 87 = .ok (.iload_n 2, 1) := by decide +kernel
theorem d_X7_walk_88 : decode b_X7_walk 88 = .ok (.invokevirtual 84, 3) := by decide +kernel
theorem d_X7_walk_91 : decode b_X7_walk 91 = .ok (.goto 76, 3) := by decide +kernel
theorem d_X7_walk_94 : decode b_X7_walk 94 = .ok (.iload 4, 2) := by decide +kernel
theorem d_X7_walk_96 : decode b_X7_walk 96 = .ok (.bipush 40, 2) := by decide +kernel
theorem d_X7_walk_98 : decode b_X7_walk 98 = .ok (.if_icmp .ge 13, 3) := by decide +kernel
theorem d_X7_walk_101 : decode b_X7_walk 101 = .ok (.aload_n 0, 1) := by decide +kernel
theorem d_X7_walk_102 : decode b_X7_walk 102 = .ok (.iload 4, 2) := by decide +kernel
theorem d_X7_walk_104 : decode b_X7_walk 104 = .ok (.iload_n 2, 1) := by decide +kernel
theorem d_X7_walk_105 : decode b_X7_walk 105 = .ok (.invokevirtual 87, 3) := by decide +kernel
theorem d_X7_walk_108 : decode b_X7_walk 108 = .ok (.goto 59, 3) := by decide +kernel
theorem d_X7_walk_111 : decode b_X7_walk 111 = .ok (.iload 4, 2) := by decide +kernel
theorem d_X7_walk_113 : decode b_X7_walk 113 = .ok (.bipush 40, 2) := by decide +kernel
theorem d_X7_walk_115 : decode b_X7_walk 115 = .ok (.if_icmp .eq 16, 3) := by decide +kernel
theorem d_X7_walk_118 : decode b_X7_walk 118 = .ok (.aload_n 0, 1) := by decide +kernel
theorem d_X7_walk_119 : decode b_X7_walk 119 = .ok (.getfield 50, 3) := by decide +kernel
theorem d_X7_walk_122 : decode b_X7_walk 122 = .ok (.iload 4, 2) := by decide +kernel
theorem d_X7_walk_124 : decode b_X7_walk 124 = .ok (.iload_n 2, 1) := by decide +kernel
theorem d_X7_walk_125 : decode b_X7_walk 125 = .ok (.invokevirtual 90, 3) := by decide +kernel
theorem d_X7_walk_128 : decode b_X7_walk 128 = .ok (.goto 39, 3) := by decide +kernel
theorem d_X7_walk_131 : decode b_X7_walk 131 = .ok (.aload_n 0, 1) := by decide +kernel
theorem d_X7_walk_132 : decode b_X7_walk 132 = .ok (.getfield 30, 3) := by decide +kernel
theorem d_X7_walk_135 : decode b_X7_walk 135 = .ok (.getfield 91, 3) := by decide +kernel
theorem d_X7_walk_138 : decode b_X7_walk 138 = .ok (.iload_n 2, 1) := by decide +kernel
theorem d_X7_walk_139 : decode b_X7_walk 139 = .ok (.invokestatic 80, 3) := by decide +kernel
theorem d_X7_walk_142 : decode b_X7_walk 142 = .ok (.istore 5, 2) := by decide +kernel
theorem d_X7_walk_144 : decode b_X7_walk 144 = .ok (.aload_n 0, 1) := by decide +kernel
theorem d_X7_walk_145 : decode b_X7_walk 145 = .ok (.getfield 50, 3) := by decide +kernel
theorem d_X7_walk_148 : decode b_X7_walk 148 = .ok (.aload_n 0, 1) := by decide +kernel
theorem d_X7_walk_149 : decode b_X7_walk 149 = .ok (.iload_n 2, 1) := by decide +kernel
theorem d_X7_walk_150 : decode b_X7_walk 150 = .ok (.iconst 1, 1) := by decide +kernel
theorem d_X7_walk_151 : decode b_X7_walk 151 = .ok (.iadd, 1) := by decide +kernel
theorem d_X7_walk_152 : decode b_X7_walk 152 = .ok (.iload 5, 2) := by decide +kernel
theorem d_X7_walk_154 : decode b_X7_walk 154 = .ok (.invokevirtual 94, 3) := by decide +kernel
theorem d_X7_walk_157 : decode b_X7_walk 157 = .ok (.putfield 98, 3) := by decide +kernel
theorem d_X7_walk_160 : decode b_X7_walk 160 = .ok (.iload_n 2, 1) := by decide +kernel
theorem d_X7_walk_161 : decode b_X7_walk 161 = .ok (.iload 5, 2) := by decide +kernel
theorem d_X7_walk_163 : decode b_X7_walk 163 = .ok (.invokestatic 101, 3) := by decide +kernel
theorem d_X7_walk_166 : decode b_X7_walk 166 = .ok (.istore_n 2, 1) := by decide +kernel
theorem d_X7_walk_167 : decode b_X7_walk 167 = .ok (.iinc 2 1, 3) := by decide +kernel
theorem d_X7_walk_170 : decode b_X7_walk 170 = .ok (.iinc 3 (-1), 3) := by decide +kernel
theorem d_X7_walk_173 : decode b_X7_walk 173 = .ok (.goto (-135), 3) := by decide +kernel
theorem d_X7_walk_176 : decode b_X7_walk 176 = .ok (.aload_n 0, 1) := by decide +kernel
theorem d_X7_walk_177 : decode b_X7_walk 177 = .ok (.getfield 34, 3) := by decide +kernel
theorem d_X7_walk_180 : decode b_X7_walk 180 = .ok (.invokevirtual 106, 3) := by decide +kernel
theorem d_X7_walk_183 : decode b_X7_walk 183 = .ok (.return_, 1) := by decide +kernel
theorem d_X11_begin_0 : decode b_X11_begin 0 = .ok (.aload_n 0, 1) := by decide +kernel
theorem d_X11_begin_1 : decode b_X11_begin 1 = .ok (.iload_n 1, 1) := by decide +kernel
theorem d_X11_begin_2 : decode b_X11_begin 2 = .ok (.putfield 44, 3) := by decide +kernel
theorem d_X11_begin_5 : decode b_X11_begin 5 = .ok (.aload_n 0, 1) := by decide +kernel
theorem d_X11_begin_6 : decode b_X11_begin 6 = .ok (.iconst 0, 1) := by decide +kernel
theorem d_X11_begin_7 : decode b_X11_begin 7 = .ok (.putfield 48, 3) := by decide +kernel
theorem d_X11_begin_10 : decode b_X11_begin 10 = .ok (.aload_n 0, 1) := by decide +kernel
theorem d_X11_begin_11 : decode b_X11_begin 11 = .ok (.iconst (-1), 1) := by decide +kernel
theorem d_X11_begin_12 : decode b_X11_begin 12 = .ok (.putfield 51, 3) := by decide +kernel
theorem d_X11_begin_15 : decode b_X11_begin 15 = .ok (.aload_n 0, 1) := by decide +kernel
theorem d_X11_begin_16 : decode b_X11_begin 16 = .ok (.iconst 0, 1) := by decide +kernel
theorem d_X11_begin_17 : decode b_X11_begin 17 = .ok (.putfield 54, 3) := by decide +kernel
theorem d_X11_begin_20 : decode b_X11_begin 20 = .ok (.aload_n 0, 1) := by decide +kernel
theorem d_X11_begin_21 : decode b_X11_begin 21 = .ok (.iconst 0, 1) := by decide +kernel
theorem d_X11_begin_22 : decode b_X11_begin 22 = .ok (.putfield 57, 3) := by decide +kernel
theorem d_X11_begin_25 : decode b_X11_begin 25 = .ok (.aload_n 0, 1) := by decide +kernel
theorem d_X11_begin_26 : decode b_X11_begin 26 = .ok (.invokevirtual 60, 3) := by decide +kernel
theorem d_X11_begin_29 : decode b_X11_begin 29 = .ok (.return_, 1) := by decide +kernel
theorem d_X11_leave_0 : decode b_X11_leave 0 = .ok (.aload_n 0, 1) := by decide +kernel
theorem d_X11_leave_1 : decode b_X11_leave 1 = .ok (.iconst (-1), 1) := by decide +kernel
theorem d_X11_leave_2 : decode b_X11_leave 2 = .ok (.putfield 63, 3) := by decide +kernel
theorem d_X11_leave_5 : decode b_X11_leave 5 = .ok (.aload_n 0, 1) := by decide +kernel
theorem d_X11_leave_6 : decode b_X11_leave 6 = .ok (.iconst 0, 1) := by decide +kernel
theorem d_X11_leave_7 : decode b_X11_leave 7 = .ok (.putfield 69, 3) := by decide +kernel
theorem d_X11_leave_10 : decode b_X11_leave 10 = .ok (.aload_n 0, 1) := by decide +kernel
theorem d_X11_leave_11 : decode b_X11_leave 11 = .ok (.iconst 0, 1) := by decide +kernel
theorem d_X11_leave_12 : decode b_X11_leave 12 = .ok (.putfield 72, 3) := by decide +kernel
theorem d_X11_leave_15 : decode b_X11_leave 15 = .ok (.aload_n 0, 1) := by decide +kernel
theorem d_X11_leave_16 : decode b_X11_leave 16 = .ok (.iconst 0, 1) := by decide +kernel
theorem d_X11_leave_17 : decode b_X11_leave 17 = .ok (.putfield 75, 3) := by decide +kernel
theorem d_X11_leave_20 : decode b_X11_leave 20 = .ok (.return_, 1) := by decide +kernel
theorem d_X1_begin_0 : decode b_X1_begin 0 = .ok (.aload_n 0, 1) := by decide +kernel
theorem d_X1_begin_1 : decode b_X1_begin 1 = .ok (.iconst (-1), 1) := by decide +kernel
theorem d_X1_begin_2 : decode b_X1_begin 2 = .ok (.putfield 46, 3) := by decide +kernel
theorem d_X1_begin_5 : decode b_X1_begin 5 = .ok (.aload_n 0, 1) := by decide +kernel
theorem d_X1_begin_6 : decode b_X1_begin 6 = .ok (.iconst 0, 1) := by decide +kernel
theorem d_X1_begin_7 : decode b_X1_begin 7 = .ok (.putfield 50, 3) := by decide +kernel
theorem d_X1_begin_10 : decode b_X1_begin 10 = .ok (.return_, 1) := by decide +kernel
theorem d_X2_take_0 : decode b_X2_take 0 = .ok (.aload_n 0, 1) := by decide +kernel
theorem d_X2_take_1 : decode b_X2_take 1 = .ok (.getfield 26, 3) := by decide +kernel
theorem d_X2_take_4 : decode b_X2_take 4 = .ok (.getfield 50, 3) := by decide +kernel
theorem d_X2_take_7 : decode b_X2_take 7 = .ok (.iload_n 1, 1) := by decide +kernel
theorem d_X2_take_8 : decode b_X2_take 8 = .ok (.invokestatic 56, 3) := by decide +kernel
theorem d_X2_take_11 : decode b_X2_take 11 = .ok (.istore_n 2, 1) := by decide +kernel
theorem d_X2_take_12 : decode b_X2_take 12 = .ok (.aload_n 0, 1) := by decide +kernel
theorem d_X2_take_13 : decode b_X2_take 13 = .ok (.getfield 26, 3) := by decide +kernel
theorem d_X2_take_16 : decode b_X2_take 16 = .ok (.getfield 60, 3) := by decide +kernel
theorem d_X2_take_19 : decode b_X2_take 19 = .ok (.iload_n 1, 1) := by decide +kernel
theorem d_X2_take_20 : decode b_X2_take 20 = .ok (.invokestatic 56, 3) := by decide +kernel
theorem d_X2_take_23 : decode b_X2_take 23 = .ok (.tableswitch 222 1 15 #[73, 81, 89, 97, 105, 112, 120, 128, 136, 144, 152, 160, 179, 192, 215], 73) := by decide +kernel
theorem d_X2_take_96 : decode b_X2_take 96 = .ok (.aload_n 0, 1) := by decide +kernel
theorem d_X2_take_97 : decode b_X2_take 97 = .ok (.iload_n 2, 1) := by decide +kernel
theorem d_X2_take_98 : decode b_X2_take 98 = .ok (.invokevirtual 63, 3) := by decide +kernel
theorem d_X2_take_101 : decode b_X2_take 101 = .ok (.goto 149, 3) := by decide +kernel
theorem d_X2_take_104 : decode b_X2_take 104 = .ok (.aload_n 0, 1) := by decide +kernel
theorem d_X2_take_105 : decode b_X2_take 105 = .ok (.iload_n 2, 1) := by decide +kernel
theorem d_X2_take_106 : decode b_X2_take 106 = .ok (.invokevirtual 67, 3) := by decide +kernel
theorem d_X2_take_109 : decode b_X2_take 109 = .ok (.goto 141, 3) := by decide +kernel
theorem d_X2_take_112 : decode b_X2_take 112 = .ok (.aload_n 0, 1) := by decide +kernel
theorem d_X2_take_113 : decode b_X2_take 113 = .ok (.iload_n 2, 1) := by decide +kernel
theorem d_X2_take_114 : decode b_X2_take 114 = .ok (.invokevirtual 70, 3) := by decide +kernel
theorem d_X2_take_117 : decode b_X2_take 117 = .ok (.goto 133, 3) := by decide +kernel
theorem d_X2_take_120 : decode b_X2_take 120 = .ok (.aload_n 0, 1) := by decide +kernel
theorem d_X2_take_121 : decode b_X2_take 121 = .ok (.iload_n 2, 1) := by decide +kernel
theorem d_X2_take_122 : decode b_X2_take 122 = .ok (.invokevirtual 73, 3) := by decide +kernel
theorem d_X2_take_125 : decode b_X2_take 125 = .ok (.goto 125, 3) := by decide +kernel
theorem d_X2_take_128 : decode b_X2_take 128 = .ok (.aload_n 0, 1) := by decide +kernel
theorem d_X2_take_129 : decode b_X2_take 129 = .ok (.invokevirtual 76, 3) := by decide +kernel
theorem d_X2_take_132 : decode b_X2_take 132 = .ok (.goto 118, 3) := by decide +kernel
theorem d_X2_take_135 : decode b_X2_take 135 = .ok (.aload_n 0, 1) := by decide +kernel
theorem d_X2_take_136 : decode b_X2_take 136 = .ok (.iload_n 2, 1) := by decide +kernel
theorem d_X2_take_137 : decode b_X2_take 137 = .ok (.invokevirtual 79, 3) := by decide +kernel
theorem d_X2_take_140 : decode b_X2_take 140 = .ok (.goto 110, 3) := by decide +kernel
theorem d_X2_take_143 : decode b_X2_take 143 = .ok (.aload_n 0, 1) := by decide +kernel
theorem d_X2_take_144 : decode b_X2_take 144 = .ok (.iload_n 2, 1) := by decide +kernel
theorem d_X2_take_145 : decode b_X2_take 145 = .ok (.invokevirtual 82, 3) := by decide +kernel
theorem d_X2_take_148 : decode b_X2_take 148 = .ok (.goto 102, 3) := by decide +kernel
theorem d_X2_take_151 : decode b_X2_take 151 = .ok (.aload_n 0, 1) := by decide +kernel
theorem d_X2_take_152 : decode b_X2_take 152 = .ok (.iload_n 2, 1) := by decide +kernel
theorem d_X2_take_153 : decode b_X2_take 153 = .ok (.invokevirtual 85, 3) := by decide +kernel
theorem d_X2_take_156 : decode b_X2_take 156 = .ok (.goto 94, 3) := by decide +kernel
theorem d_X2_take_159 : decode b_X2_take 159 = .ok (.aload_n 0, 1) := by decide +kernel
theorem d_X2_take_160 : decode b_X2_take 160 = .ok (.iload_n 2, 1) := by decide +kernel
theorem d_X2_take_161 : decode b_X2_take 161 = .ok (.invokevirtual 88, 3) := by decide +kernel
theorem d_X2_take_164 : decode b_X2_take 164 = .ok (.goto 86, 3) := by decide +kernel
theorem d_X2_take_167 : decode b_X2_take 167 = .ok (.aload_n 0, 1) := by decide +kernel
theorem d_X2_take_168 : decode b_X2_take 168 = .ok (.iload_n 2, 1) := by decide +kernel
theorem d_X2_take_169 : decode b_X2_take 169 = .ok (.invokevirtual 91, 3) := by decide +kernel
theorem d_X2_take_172 : decode b_X2_take 172 = .ok (.goto 78, 3) := by decide +kernel
theorem d_X2_take_175 : decode b_X2_take 175 = .ok (.aload_n 0, 1) := by decide +kernel
theorem d_X2_take_176 : decode b_X2_take 176 = .ok (.iload_n 2, 1) := by decide +kernel
theorem d_X2_take_177 : decode b_X2_take 177 = .ok (.invokevirtual 94, 3) := by decide +kernel
theorem d_X2_take_180 : decode b_X2_take 180 = .ok (.goto 70, 3) := by decide +kernel
theorem d_X2_take_183 : decode b_X2_take 183 = .ok (.aload_n 0, 1) := by decide +kernel
theorem d_X2_take_184 : decode b_X2_take 184 = .ok (.iload_n 2, 1) := by decide +kernel
theorem d_X2_take_185 : decode b_X2_take 185 = .ok (.aload_n 0, 1) := by decide +kernel
theorem d_X2_take_186 : decode b_X2_take 186 = .ok (.getfield 26, 3) := by decide +kernel
theorem d_X2_take_189 : decode b_X2_take 189 = .ok (.getfield 97, 3) := by decide +kernel
theorem d_X2_take_192 : decode b_X2_take 192 = .ok (.iload_n 1, 1) := by decide +kernel
theorem d_X2_take_193 : decode b_X2_take 193 = .ok (.invokestatic 56, 3) := by decide +kernel
theorem d_X2_take_196 : decode b_X2_take 196 = .ok (.invokevirtual 100, 3) := by decide +kernel
theorem d_X2_take_199 : decode b_X2_take 199 = .ok (.goto 51, 3) := by decide +kernel
theorem d_X2_take_202 : decode b_X2_take 202 = .ok (.aload_n 0, 1) := by decide +kernel
theorem d_X2_take_203 : decode b_X2_take 203 = .ok (.aload_n 0, 1) := by decide +kernel
theorem d_X2_take_204 : decode b_X2_take 204 = .ok (.invokevirtual 104, 3) := by decide +kernel
theorem d_X2_take_207 : decode b_X2_take 207 = .ok (.iload_n 2, 1) := by decide +kernel
theorem d_X2_take_208 : decode b_X2_take 208 = .ok (.iconst 1, 1) := by decide +kernel
theorem d_X2_take_209 : decode b_X2_take 209 = .ok (.invokevirtual 108, 3) := by decide +kernel
theorem d_X2_take_212 : decode b_X2_take 212 = .ok (.goto 38, 3) := by decide +kernel
theorem d_X2_take_215 : decode b_X2_take 215 = .ok (.aload_n 0, 1) := by decide +kernel
theorem d_X2_take_216 : decode b_X2_take 216 = .ok (.invokevirtual 104, 3) := by decide +kernel
theorem d_X2_take_219 : decode b_X2_take 219 = .ok (.aload_n 0, 1) := by decide +kernel
theorem d_X2_take_220 : decode b_X2_take 220 = .ok (.aload_n 0, 1) := by decide +kernel
theorem d_X2_take_221 : decode b_X2_take 221 = .ok (.aload_n 0, 1) := by decide +kernel
theorem d_X2_take_222 : decode b_X2_take 222 = .ok (.invokevirtual 104, 3) := by decide +kernel
theorem d_X2_take_225 : decode b_X2_take 225 = .ok (.invokevirtual 112, 3) := by decide +kernel
theorem d_X2_take_228 : decode b_X2_take 228 = .ok (.iconst (-1), 1) := by decide +kernel
theorem d_X2_take_229 : decode b_X2_take 229 = .ok (.invokevirtual 116, 3) := by decide +kernel
theorem d_X2_take_232 : decode b_X2_take 232 = .ok (.putfield 120, 3) := by decide +kernel
theorem d_X2_take_235 : decode b_X2_take 235 = .ok (.goto 15, 3) := by decide +kernel
theorem d_X2_take_238 : decode b_X2_take 238 = .ok (.aload_n 0, 1) := by decide +kernel
theorem d_X2_take_239 : decode b_X2_take 239 = .ok (.invokevirtual 123, 3) := by decide +kernel
theorem d_X2_take_242 : decode b_X2_take 242 = .ok (.goto 8, 3) := by decide +kernel
theorem d_X2_take_245 : decode b_X2_take 245 = .ok (.aload_n 0, 1) := by decide +kernel
theorem d_X2_take_246 : decode b_X2_take 246 = .ok (.iload_n 2, 1) := by decide +kernel
theorem d_X2_take_247 : decode b_X2_take 247 = .ok (.invokevirtual 126, 3) := by decide +kernel
theorem d_X2_take_250 : decode b_X2_take 250 = .ok (.return_, 1) := by decide +kernel
theorem d_X2_number_0 : decode b_X2_number 0 = .ok (.aload_n 0, 1) := by decide +kernel
theorem d_X2_number_1 : decode b_X2_number 1 = .ok (.invokevirtual 167, 3) := by decide +kernel
theorem d_X2_number_4 : decode b_X2_number 4 = .ok (.astore_n 2, 1) := by decide +kernel
theorem d_X2_number_5 : decode b_X2_number 5 = .ok (.aload_n 2, 1) := by decide +kernel
theorem d_X2_number_6 : decode b_X2_number 6 = .ok (.iconst 1, 1) := by decide +kernel
theorem d_X2_number_7 : decode b_X2_number 7 = .ok (.putfield 170, 3) := by decide +kernel
theorem d_X2_number_10 : decode b_X2_number 10 = .ok (.aload_n 2, 1) := by decide +kernel
theorem d_X2_number_11 : decode b_X2_number 11 = .ok (.aload_n 0, 1) := by decide +kernel
theorem d_X2_number_12 : decode b_X2_number 12 = .ok (.getfield 36, 3) := by decide +kernel
theorem d_X2_number_15 : decode b_X2_number 15 = .ok (.getfield 173, 3) := by decide +kernel
theorem d_X2_number_18 : decode b_X2_number 18 = .ok (.iload_n 1, 1) := by decide +kernel
theorem d_X2_number_19 : decode b_X2_number 19 = .ok (.invokestatic 56, 3) := by decide +kernel
theorem d_X2_number_22 : decode b_X2_number 22 = .ok (.putfield 176, 3) := by decide +kernel
theorem d_X2_number_25 : decode b_X2_number 25 = .ok (.aload_n 2, 1) := by decide +kernel
theorem d_X2_number_26 : decode b_X2_number 26 = .ok (.aload_n 2, 1) := by decide +kernel
theorem d_X2_number_27 : decode b_X2_number 27 = .ok (.getfield 176, 3) := by decide +kernel
theorem d_X2_number_30 : decode b_X2_number 30 = .ok (.ifCond .ne 7, 3) := by decide +kernel
theorem d_X2_number_33 : decode b_X2_number 33 = .ok (.iconst 1, 1) := by decide +kernel
theorem d_X2_number_34 : decode b_X2_number 34 = .ok (.goto 4, 3) := by decide +kernel
theorem d_X2_number_37 : decode b_X2_number 37 = .ok (.iconst 0, 1) := by decide +kernel
theorem d_X2_number_38 : decode b_X2_number 38 = .ok (.putfield 179, 3) := by decide +kernel
theorem d_X2_number_41 : decode b_X2_number 41 = .ok (.aload_n 0, 1) := by decide +kernel
theorem d_X2_number_42 : decode b_X2_number 42 = .ok (.getfield 46, 3) := by decide +kernel
theorem d_X2_number_45 : decode b_X2_number 45 = .ok (.iconst 1, 1) := by decide +kernel
theorem d_X2_number_46 : decode b_X2_number 46 = .ok (.aload_n 2, 1) := by decide +kernel
theorem d_X2_number_47 : decode b_X2_number 47 = .ok (.getfield 176, 3) := by decide +kernel
theorem d_X2_number_50 : decode b_X2_number 50 = .ok (.iconst 0, 1) := by decide +kernel
theorem d_X2_number_51 : decode b_X2_number 51 = .ok (.iconst 0, 1) := by decide +kernel
theorem d_X2_number_52 : decode b_X2_number 52 = .ok (.invokevirtual 155, 3) := by decide +kernel
theorem d_X2_number_55 : decode b_X2_number 55 = .ok (.pop, 1) := by decide +kernel
theorem d_X2_number_56 : decode b_X2_number 56 = .ok (.return_, 1) := by decide +kernel
theorem d_X2_push_0 : decode b_X2_push 0 = .ok (.aload_n 0, 1) := by decide +kernel
theorem d_X2_push_1 : decode b_X2_push 1 = .ok (.getfield 22, 3) := by decide +kernel
theorem d_X2_push_4 : decode b_X2_push 4 = .ok (.ifCond .lt 27, 3) := by decide +kernel
theorem d_X2_push_7 : decode b_X2_push 7 = .ok (.aload_n 0, 1) := by decide +kernel
theorem d_X2_push_8 : decode b_X2_push 8 = .ok (.getfield 22, 3) := by decide +kernel
theorem d_X2_push_11 : decode b_X2_push 11 = .ok (.aload_n 0, 1) := by decide +kernel
theorem d_X2_push_12 : decode b_X2_push 12 = .ok (.getfield 13, 3) := by decide +kernel
theorem d_X2_push_15 : decode b_X2_push 15 = .ok (.arraylength, 1) := by decide +kernel
theorem d_X2_push_16 : decode b_X2_push 16 = .ok (.if_icmp .ge 15, 3) := by decide +kernel
theorem d_X2_push_19 : decode b_X2_push 19 = .ok (.aload_n 0, 1) := by decide +kernel
theorem d_X2_push_20 : decode b_X2_push 20 = .ok (.getfield 13, 3) := by decide +kernel
theorem d_X2_push_23 : decode b_X2_push 23 = .ok (.aload_n 0, 1) := by decide +kernel
theorem d_X2_push_24 : decode b_X2_push 24 = .ok (.getfield 22, 3) := by decide +kernel
theorem d_X2_push_27 : decode b_X2_push 27 = .ok (.aaload, 1) := by decide +kernel
theorem d_X2_push_28 : decode b_X2_push 28 = .ok (.goto 7, 3) := by decide +kernel
theorem d_X2_push_31 : decode b_X2_push 31 = .ok (.aload_n 0, 1) := by decide +kernel
theorem d_X2_push_32 : decode b_X2_push 32 = .ok (.getfield 18, 3) := by decide +kernel
theorem d_X2_push_35 : decode b_X2_push 35 = .ok (.astore_n 1, 1) := by decide +kernel
theorem d_X2_push_36 : decode b_X2_push 36 = .ok (.aload_n 1, 1) := by decide +kernel
theorem d_X2_push_37 : decode b_X2_push 37 = .ok (.aload_n 0, 1) := by decide +kernel
theorem d_X2_push_38 : decode b_X2_push 38 = .ok (.getfield 46, 3) := by decide +kernel
theorem d_X2_push_41 : decode b_X2_push 41 = .ok (.getfield 137, 3) := by decide +kernel
theorem d_X2_push_44 : decode b_X2_push 44 = .ok (.invokevirtual 142, 3) := by decide +kernel
theorem d_X2_push_47 : decode b_X2_push 47 = .ok (.aload_n 0, 1) := by decide +kernel
theorem d_X2_push_48 : decode b_X2_push 48 = .ok (.dup, 1) := by decide +kernel
theorem d_X2_push_49 : decode b_X2_push 49 = .ok (.getfield 22, 3) := by decide +kernel
theorem d_X2_push_52 : decode b_X2_push 52 = .ok (.iconst 1, 1) := by decide +kernel
theorem d_X2_push_53 : decode b_X2_push 53 = .ok (.iadd, 1) := by decide +kernel
theorem d_X2_push_54 : decode b_X2_push 54 = .ok (.putfield 22, 3) := by decide +kernel
theorem d_X2_push_57 : decode b_X2_push 57 = .ok (.aload_n 1, 1) := by decide +kernel
theorem d_X2_push_58 : decode b_X2_push 58 = .ok (.areturn, 1) := by decide +kernel
theorem d_X6_reset_0 : decode b_X6_reset 0 = .ok (.aload_n 0, 1) := by decide +kernel
theorem d_X6_reset_1 : decode b_X6_reset 1 = .ok (.iconst 0, 1) := by decide +kernel
theorem d_X6_reset_2 : decode b_X6_reset 2 = .ok (.putfield 11, 3) := by decide +kernel
theorem d_X6_reset_5 : decode b_X6_reset 5 = .ok (.aload_n 0, 1) := by decide +kernel
theorem d_X6_reset_6 : decode b_X6_reset 6 = .ok (.iconst 0, 1) := by decide +kernel
theorem d_X6_reset_7 : decode b_X6_reset 7 = .ok (.putfield 15, 3) := by decide +kernel
theorem d_X6_reset_10 : decode b_X6_reset 10 = .ok (.aload_n 0, 1) := by decide +kernel
theorem d_X6_reset_11 : decode b_X6_reset 11 = .ok (.iconst 1, 1) := by decide +kernel
theorem d_X6_reset_12 : decode b_X6_reset 12 = .ok (.putfield 18, 3) := by decide +kernel
theorem d_X6_reset_15 : decode b_X6_reset 15 = .ok (.aload_n 0, 1) := by decide +kernel
theorem d_X6_reset_16 : decode b_X6_reset 16 = .ok (.iconst 0, 1) := by decide +kernel
theorem d_X6_reset_17 : decode b_X6_reset 17 = .ok (.putfield 21, 3) := by decide +kernel
theorem d_X6_reset_20 : decode b_X6_reset 20 = .ok (.aload_n 0, 1) := by decide +kernel
theorem d_X6_reset_21 : decode b_X6_reset 21 = .ok (.iconst (-1), 1) := by decide +kernel
theorem d_X6_reset_22 : decode b_X6_reset 22 = .ok (.putfield 25, 3) := by decide +kernel
theorem d_X6_reset_25 : decode b_X6_reset 25 = .ok (.aload_n 0, 1) := by decide +kernel
theorem d_X6_reset_26 : decode b_X6_reset 26 = .ok (.iconst 0, 1) := by decide +kernel
theorem d_X6_reset_27 : decode b_X6_reset 27 = .ok (.putfield 28, 3) := by decide +kernel
theorem d_X6_reset_30 : decode b_X6_reset 30 = .ok (.aload_n 0, 1) := by decide +kernel
theorem d_X6_reset_31 : decode b_X6_reset 31 = .ok (.iconst 0, 1) := by decide +kernel
theorem d_X6_reset_32 : decode b_X6_reset 32 = .ok (.putfield 31, 3) := by decide +kernel
theorem d_X6_reset_35 : decode b_X6_reset 35 = .ok (.aload_n 0, 1) := by decide +kernel
theorem d_X6_reset_36 : decode b_X6_reset 36 = .ok (.bipush (-2), 2) := by decide +kernel
theorem d_X6_reset_38 : decode b_X6_reset 38 = .ok (.putfield 36, 3) := by decide +kernel
theorem d_X6_reset_41 : decode b_X6_reset 41 = .ok (.aload_n 0, 1) := by decide +kernel
theorem d_X6_reset_42 : decode b_X6_reset 42 = .ok (.iconst 0, 1) := by decide +kernel
theorem d_X6_reset_43 : decode b_X6_reset 43 = .ok (.putfield 39, 3) := by decide +kernel
theorem d_X6_reset_46 : decode b_X6_reset 46 = .ok (.aload_n 0, 1) := by decide +kernel
theorem d_X6_reset_47 : decode b_X6_reset 47 = .ok (.iload_n 1, 1) := by decide +kernel
theorem d_X6_reset_48 : decode b_X6_reset 48 = .ok (.putfield 42, 3) := by decide +kernel
theorem d_X6_reset_51 : decode b_X6_reset 51 = .ok (.aload_n 0, 1) := by decide +kernel
theorem d_X6_reset_52 : decode b_X6_reset 52 = .ok (.iconst (-1), 1) := by decide +kernel
theorem d_X6_reset_53 : decode b_X6_reset 53 = .ok (.putfield 45, 3) := by decide +kernel
theorem d_X6_reset_56 : decode b_X6_reset 56 = .ok (.aload_n 0, 1) := by decide +kernel
theorem d_X6_reset_57 : decode b_X6_reset 57 = .ok (.iconst 0, 1) := by decide +kernel
theorem d_X6_reset_58 : decode b_X6_reset 58 = .ok (.putfield 48, 3) := by decide +kernel
theorem d_X6_reset_61 : decode b_X6_reset 61 = .ok (.aload_n 0, 1) := by decide +kernel
theorem d_X6_reset_62 : decode b_X6_reset 62 = .ok (.iconst 0, 1) := by decide +kernel
theorem d_X6_reset_63 : decode b_X6_reset 63 = .ok (.putfield 51, 3) := by decide +kernel
theorem d_X6_reset_66 : decode b_X6_reset 66 = .ok (.return_, 1) := by decide +kernel
theorem d_X0_emit_0 : decode b_X0_emit 0 = .ok (.aload_n 0, 1) := by decide +kernel
theorem d_X0_emit_1 : decode b_X0_emit 1 = .ok (.getfield 18, 3) := by decide +kernel
theorem d_X0_emit_4 : decode b_X0_emit 4 = .ok (.istore 5, 2) := by decide +kernel
theorem d_X0_emit_6 : decode b_X0_emit 6 = .ok (.iload 5, 2) := by decide +kernel
theorem d_X0_emit_8 : decode b_X0_emit 8 = .ok (.ifCond .lt 82, 3) := by decide +kernel
theorem d_X0_emit_11 : decode b_X0_emit 11 = .ok (.iload 5, 2) := by decide +kernel
theorem d_X0_emit_13 : decode b_X0_emit 13 = .ok (.aload_n 0, 1) := by decide +kernel
theorem d_X0_emit_14 : decode b_X0_emit 14 = .ok (.getfield 14, 3) := by decide +kernel
theorem d_X0_emit_17 : decode b_X0_emit 17 = .ok (.arraylength, 1) := by decide +kernel
theorem d_X0_emit_18 : decode b_X0_emit 18 = .ok (.iconst 4, 1) := by decide +kernel
theorem d_X0_emit_19 : decode b_X0_emit 19 = .ok (.isub, 1) := by decide +kernel
theorem d_X0_emit_20 : decode b_X0_emit 20 = .ok (.if_icmp .ge 70, 3) := by decide +kernel
theorem d_X0_emit_23 : decode b_X0_emit 23 = .ok (.aload_n 0, 1) := by decide +kernel
theorem d_X0_emit_24 : decode b_X0_emit 24 = .ok (.getfield 14, 3) := by decide +kernel
theorem d_X0_emit_27 : decode b_X0_emit 27 = .ok (.iload 5, 2) := by decide +kernel
theorem d_X0_emit_29 : decode b_X0_emit 29 = .ok (.iload_n 1, 1) := by decide +kernel
theorem d_X0_emit_30 : decode b_X0_emit 30 = .ok (.iastore, 1) := by decide +kernel
theorem d_X0_emit_31 : decode b_X0_emit 31 = .ok (.aload_n 0, 1) := by decide +kernel
theorem d_X0_emit_32 : decode b_X0_emit 32 = .ok (.getfield 14, 3) := by decide +kernel
theorem d_X0_emit_35 : decode b_X0_emit 35 = .ok (.iload 5, 2) := by decide +kernel
theorem d_X0_emit_37 : decode b_X0_emit 37 = .ok (.iconst 1, 1) := by decide +kernel
theorem d_X0_emit_38 : decode b_X0_emit 38 = .ok (.iadd, 1) := by decide +kernel
theorem d_X0_emit_39 : decode b_X0_emit 39 = .ok (.iload_n 2, 1) := by decide +kernel
theorem d_X0_emit_40 : decode b_X0_emit 40 = .ok (.iastore, 1) := by decide +kernel
theorem d_X0_emit_41 : decode b_X0_emit 41 = .ok (.aload_n 0, 1) := by decide +kernel
theorem d_X0_emit_42 : decode b_X0_emit 42 = .ok (.getfield 14, 3) := by decide +kernel
theorem d_X0_emit_45 : decode b_X0_emit 45 = .ok (.iload 5, 2) := by decide +kernel
theorem d_X0_emit_47 : decode b_X0_emit 47 = .ok (.iconst 2, 1) := by decide +kernel
theorem d_X0_emit_48 : decode b_X0_emit 48 = .ok (.iadd, 1) := by decide +kernel
theorem d_X0_emit_49 : decode b_X0_emit 49 = .ok (.iload_n 3, 1) := by decide +kernel
theorem d_X0_emit_50 : decode b_X0_emit 50 = .ok (.iastore, 1) := by decide +kernel
theorem d_X0_emit_51 : decode b_X0_emit 51 = .ok (.aload_n 0, 1) := by decide +kernel
theorem d_X0_emit_52 : decode b_X0_emit 52 = .ok (.getfield 14, 3) := by decide +kernel
theorem d_X0_emit_55 : decode b_X0_emit 55 = .ok (.iload 5, 2) := by decide +kernel
theorem d_X0_emit_57 : decode b_X0_emit 57 = .ok (.iconst 3, 1) := by decide +kernel
theorem d_X0_emit_58 : decode b_X0_emit 58 = .ok (.iadd, 1) := by decide +kernel
theorem d_X0_emit_59 : decode b_X0_emit 59 = .ok (.iload 4, 2) := by decide +kernel
theorem d_X0_emit_61 : decode b_X0_emit 61 = .ok (.iastore, 1) := by decide +kernel
theorem d_X0_emit_62 : decode b_X0_emit 62 = .ok (.aload_n 0, 1) := by decide +kernel
theorem d_X0_emit_63 : decode b_X0_emit 63 = .ok (.iload 5, 2) := by decide +kernel
theorem d_X0_emit_65 : decode b_X0_emit 65 = .ok (.iload_n 1, 1) := by decide +kernel
theorem d_X0_emit_66 : decode b_X0_emit 66 = .ok (.ifCond .lt 19, 3) := by decide +kernel
theorem d_X0_emit_69 : decode b_X0_emit 69 = .ok (.iload_n 1, 1) := by decide +kernel
theorem d_X0_emit_70 : decode b_X0_emit 70 = .ok (.getstatic 22, 3) := by decide +kernel
theorem d_X0_emit_73 : decode b_X0_emit 73 = .ok (.arraylength, 1) := by decide +kernel
theorem d_X0_emit_74 : decode b_X0_emit 74 = .ok (.if_icmp .ge 11, 3) := by decide +kernel
theorem d_X0_emit_77 : decode b_X0_emit 77 = .ok (.getstatic 22, 3) := by decide +kernel
theorem d_X0_emit_80 : decode b_X0_emit 80 = .ok (.iload_n 1, 1) := by decide +kernel
theorem d_X0_emit_81 : decode b_X0_emit 81 = .ok (.iaload, 1) := by decide +kernel
theorem d_X0_emit_82 : decode b_X0_emit 82 = .ok (.goto 4, 3) := by decide +kernel
theorem d_X0_emit_85 : decode b_X0_emit 85 = .ok (.iconst 0, 1) := by decide +kernel
theorem d_X0_emit_86 : decode b_X0_emit 86 = .ok (.iadd, 1) := by decide +kernel
theorem d_X0_emit_87 : decode b_X0_emit 87 = .ok (.putfield 18, 3) := by decide +kernel
theorem d_X0_emit_90 : decode b_X0_emit 90 = .ok (.iload 5, 2) := by decide +kernel
theorem d_X0_emit_92 : decode b_X0_emit 92 = .ok (.ireturn, 1) := by decide +kernel
theorem d_X2_string_0 : decode b_X2_string 0 = .ok (.aload_n 0, 1) := by decide +kernel
theorem d_X2_string_1 : decode b_X2_string 1 = .ok (.getfield 36, 3) := by decide +kernel
theorem d_X2_string_4 : decode b_X2_string 4 = .ok (.iload_n 1, 1) := by decide +kernel
theorem d_X2_string_5 : decode b_X2_string 5 = .ok (.invokevirtual 183, 3) := by decide +kernel
theorem d_X2_string_8 : decode b_X2_string 8 = .ok (.istore_n 2, 1) := by decide +kernel
theorem d_X2_string_9 : decode b_X2_string 9 = .ok (.aload_n 0, 1) := by decide +kernel
theorem d_X2_string_10 : decode b_X2_string 10 = .ok (.getfield 37, 3) := by decide +kernel
theorem d_X2_string_13 : decode b_X2_string 13 = .ok (.getfield 187, 3) := by decide +kernel
theorem d_X2_string_16 : decode b_X2_string 16 = .ok (.istore_n 3, 1) := by decide +kernel
theorem d_X2_string_17 : decode b_X2_string 17 = .ok (.iload_n 3, 1) := by decide +kernel
theorem d_X2_string_18 : decode b_X2_string 18 = .ok (.iload_n 2, 1) := by decide +kernel
theorem d_X2_string_19 : decode b_X2_string 19 = .ok (.iadd, 1) := by decide +kernel
theorem d_X2_string_20 : decode b_X2_string 20 = .ok (.iconst 1, 1) := by decide +kernel
theorem d_X2_string_21 : decode b_X2_string 21 = .ok (.iadd, 1) := by decide +kernel
theorem d_X2_string_22 : decode b_X2_string 22 = .ok (.sipush 16000, 3) := by decide +kernel
theorem d_X2_string_25 : decode b_X2_string 25 = .ok (.if_icmp .le 12, 3) := by decide +kernel
theorem d_X2_string_28 : decode b_X2_string 28 = .ok (.aload_n 0, 1) := by decide +kernel
theorem d_X2_string_29 : decode b_X2_string 29 = .ok (.getfield 37, 3) := by decide +kernel
theorem d_X2_string_32 : decode b_X2_string 32 = .ok (.iconst 4, 1) := by decide +kernel
theorem d_X2_string_33 : decode b_X2_string 33 = .ok (.iload_n 1, 1) := by decide +kernel
theorem d_X2_string_34 : decode b_X2_string 34 = .ok (.invokevirtual 164, 3) := by decide +kernel
theorem d_X2_string_37 : decode b_X2_string 37 = .ok (.aload_n 0, 1) := by decide +kernel
theorem d_X2_string_38 : decode b_X2_string 38 = .ok (.getfield 37, 3) := by decide +kernel
theorem d_X2_string_41 : decode b_X2_string 41 = .ok (.dup, 1) := by decide +kernel
theorem d_X2_string_42 : decode b_X2_string 42 = .ok (.getfield 187, 3) := by decide +kernel
theorem d_X2_string_45 : decode b_X2_string 45 = .ok (.iload_n 2, 1) := by decide +kernel
theorem d_X2_string_46 : decode b_X2_string 46 = .ok (.iconst 1, 1) := by decide +kernel
theorem d_X2_string_47 : decode b_X2_string 47 = .ok (.iadd, 1) := by decide +kernel
theorem d_X2_string_48 : decode b_X2_string 48 = .ok (.iadd, 1) := by decide +kernel
theorem d_X2_string_49 : decode b_X2_string 49 = .ok (.putfield 187, 3) := by decide +kernel
theorem d_X2_string_52 : decode b_X2_string 52 = .ok (.iconst 0, 1) := by decide +kernel
theorem d_X2_string_53 : decode b_X2_string 53 = .ok (.istore 4, 2) := by decide +kernel
theorem d_X2_string_55 : decode b_X2_string 55 = .ok (.iload 4, 2) := by decide +kernel
theorem d_X2_string_57 : decode b_X2_string 57 = .ok (.iload_n 2, 1) := by decide +kernel
theorem d_X2_string_58 : decode b_X2_string 58 = .ok (.if_icmp .ge 34, 3) := by decide +kernel
theorem d_X2_string_61 : decode b_X2_string 61 = .ok (.aload_n 0, 1) := by decide +kernel
theorem d_X2_string_62 : decode b_X2_string 62 = .ok (.getfield 45, 3) := by decide +kernel
theorem d_X2_string_65 : decode b_X2_string 65 = .ok (.iload_n 3, 1) := by decide +kernel
theorem d_X2_string_66 : decode b_X2_string 66 = .ok (.iload 4, 2) := by decide +kernel
theorem d_X2_string_68 : decode b_X2_string 68 = .ok (.iadd, 1) := by decide +kernel
theorem d_X2_string_69 : decode b_X2_string 69 = .ok (.bipush (-2), 2) := by decide +kernel
theorem d_X2_string_71 : decode b_X2_string 71 = .ok (.aload_n 0, 1) := by decide +kernel
theorem d_X2_string_72 : decode b_X2_string 72 = .ok (.getfield 36, 3) := by decide +kernel
theorem d_X2_string_75 : decode b_X2_string 75 = .ok (.getfield 192, 3) := by decide +kernel
theorem d_X2_string_78 : decode b_X2_string 78 = .ok (.iload 4, 2) := by decide +kernel
theorem d_X2_string_80 : decode b_X2_string 80 = .ok (.invokestatic 56, 3) := by decide +kernel
theorem d_X2_string_83 : decode b_X2_string 83 = .ok (.invokevirtual 195, 3) := by decide +kernel
theorem d_X2_string_86 : decode b_X2_string 86 = .ok (.iinc 4 1, 3) := by decide +kernel
theorem d_X2_string_89 : decode b_X2_string 89 = .ok (.goto (-34), 3) := by decide +kernel
theorem d_X2_string_92 : decode b_X2_string 92 = .ok (.aload_n 0, 1) := by decide +kernel
theorem d_X2_string_93 : decode b_X2_string 93 = .ok (.invokevirtual 167, 3) := by decide +kernel
theorem d_X2_string_96 : decode b_X2_string 96 = .ok (.astore 4, 2) := by decide +kernel
theorem d_X2_string_98 : decode b_X2_string 98 = .ok (.aload 4, 2) := by decide +kernel
theorem d_X2_string_100 : decode b_X2_string 100 = .ok (.iconst 1, 1) := by decide +kernel
theorem d_X2_string_101 : decode b_X2_string 101 = .ok (.iconst 2, 1) := by decide +kernel
theorem d_X2_string_102 : decode b_X2_string 102 = .ok (.invokevirtual 199, 3) := by decide +kernel
theorem d_X2_string_105 : decode b_X2_string 105 = .ok (.aload 4, 2) := by decide +kernel
theorem d_X2_string_107 : decode b_X2_string 107 = .ok (.iconst (-1), 1) := by decide +kernel
theorem d_X2_string_108 : decode b_X2_string 108 = .ok (.putfield 202, 3) := by decide +kernel
theorem d_X2_string_111 : decode b_X2_string 111 = .ok (.aload 4, 2) := by decide +kernel
theorem d_X2_string_113 : decode b_X2_string 113 = .ok (.iload_n 3, 1) := by decide +kernel
theorem d_X2_string_114 : decode b_X2_string 114 = .ok (.putfield 176, 3) := by decide +kernel
theorem d_X2_string_117 : decode b_X2_string 117 = .ok (.aload_n 0, 1) := by decide +kernel
theorem d_X2_string_118 : decode b_X2_string 118 = .ok (.getfield 46, 3) := by decide +kernel
theorem d_X2_string_121 : decode b_X2_string 121 = .ok (.iconst 3, 1) := by decide +kernel
theorem d_X2_string_122 : decode b_X2_string 122 = .ok (.aload_n 0, 1) := by decide +kernel
theorem d_X2_string_123 : decode b_X2_string 123 = .ok (.getfield 45, 3) := by decide +kernel
theorem d_X2_string_126 : decode b_X2_string 126 = .ok (.getfield 205, 3) := by decide +kernel
theorem d_X2_string_129 : decode b_X2_string 129 = .ok (.iconst 1, 1) := by decide +kernel
theorem d_X2_string_130 : decode b_X2_string 130 = .ok (.iadd, 1) := by decide +kernel
theorem d_X2_string_131 : decode b_X2_string 131 = .ok (.iload_n 3, 1) := by decide +kernel
theorem d_X2_string_132 : decode b_X2_string 132 = .ok (.iconst 0, 1) := by decide +kernel
theorem d_X2_string_133 : decode b_X2_string 133 = .ok (.invokevirtual 155, 3) := by decide +kernel
theorem d_X2_string_136 : decode b_X2_string 136 = .ok (.pop, 1) := by decide +kernel
theorem d_X2_string_137 : decode b_X2_string 137 = .ok (.return_, 1) := by decide +kernel
theorem d_X10_readCodes_0 : decode b_X10_readCodes 0 = .ok (.aload_n 0, 1) := by decide +kernel
theorem d_X10_readCodes_1 : decode b_X10_readCodes 1 = .ok (.getfield 15, 3) := by decide +kernel
theorem d_X10_readCodes_4 : decode b_X10_readCodes 4 = .ok (.iload_n 1, 1) := by decide +kernel
theorem d_X10_readCodes_5 : decode b_X10_readCodes 5 = .ok (.invokestatic 145, 3) := by decide +kernel
theorem d_X10_readCodes_8 : decode b_X10_readCodes 8 = .ok (.sipush 200, 3) := by decide +kernel
theorem d_X10_readCodes_11 : decode b_X10_readCodes 11 = .ok (.invokestatic 149, 3) := by decide +kernel
theorem d_X10_readCodes_14 : decode b_X10_readCodes 14 = .ok (.istore_n 2, 1) := by decide +kernel
theorem d_X10_readCodes_15 : decode b_X10_readCodes 15 = .ok (.aload_n 0, 1) := by decide +kernel
theorem d_X10_readCodes_16 : decode b_X10_readCodes 16 = .ok (.getfield 18, 3) := by decide +kernel
theorem d_X10_readCodes_19 : decode b_X10_readCodes 19 = .ok (.iload_n 1, 1) := by decide +kernel
theorem d_X10_readCodes_20 : decode b_X10_readCodes 20 = .ok (.invokestatic 145, 3) := by decide +kernel
theorem d_X10_readCodes_23 : decode b_X10_readCodes 23 = .ok (.iconst 1, 1) := by decide +kernel
theorem d_X10_readCodes_24 : decode b_X10_readCodes 24 = .ok (.iadd, 1) := by decide +kernel
theorem d_X10_readCodes_25 : decode b_X10_readCodes 25 = .ok (.istore_n 3, 1) := by decide +kernel
theorem d_X10_readCodes_26 : decode b_X10_readCodes 26 = .ok (.iconst 0, 1) := by decide +kernel
theorem d_X10_readCodes_27 : decode b_X10_readCodes 27 = .ok (.istore 4, 2) := by decide +kernel
theorem d_X10_readCodes_29 : decode b_X10_readCodes 29 = .ok (.iload 4, 2) := by decide +kernel
theorem d_X10_readCodes_31 : decode b_X10_readCodes 31 = .ok (.iload_n 2, 1) := by decide +kernel
theorem d_X10_readCodes_32 : decode b_X10_readCodes 32 = .ok (.if_icmp .ge 33, 3) := by decide +kernel
theorem d_X10_readCodes_35 : decode b_X10_readCodes 35 = .ok (.aload_n 0, 1) := by decide +kernel
theorem d_X10_readCodes_36 : decode b_X10_readCodes 36 = .ok (.getfield 24, 3) := by decide +kernel
theorem d_X10_readCodes_39 : decode b_X10_readCodes 39 = .ok (.iload 4, 2) := by decide +kernel
theorem d_X10_readCodes_41 : decode b_X10_readCodes 41 = .ok (.aload_n 0, 1) := by decide +kernel
theorem d_X10_readCodes_42 : decode b_X10_readCodes 42 = .ok (.iload_n 3, 1) := by decide +kernel
theorem d_X10_readCodes_43 : decode b_X10_readCodes 43 = .ok (.bipush 34, 2) := by decide +kernel
theorem d_X10_readCodes_45 : decode b_X10_readCodes 45 = .ok (.invokevirtual 133, 3) := by decide +kernel
theorem d_X10_readCodes_48 : decode b_X10_readCodes 48 = .ok (.invokestatic 151, 3) := by decide +kernel
theorem d_X10_readCodes_51 : decode b_X10_readCodes 51 = .ok (.iload_n 3, 1) := by decide +kernel
theorem d_X10_readCodes_52 : decode b_X10_readCodes 52 = .ok (.aload_n 0, 1) := by decide +kernel
theorem d_X10_readCodes_53 : decode b_X10_readCodes 53 = .ok (.iload_n 3, 1) := by decide +kernel
theorem d_X10_readCodes_54 : decode b_X10_readCodes 54 = .ok (.invokevirtual 137, 3) := by decide +kernel
theorem d_X10_readCodes_57 : decode b_X10_readCodes 57 = .ok (.iadd, 1) := by decide +kernel
theorem d_X10_readCodes_58 : decode b_X10_readCodes 58 = .ok (.istore_n 3, 1) := by decide +kernel
theorem d_X10_readCodes_59 : decode b_X10_readCodes 59 = .ok (.iinc 4 1, 3) := by decide +kernel
theorem d_X10_readCodes_62 : decode b_X10_readCodes 62 = .ok (.goto (-33), 3) := by decide +kernel
theorem d_X10_readCodes_65 : decode b_X10_readCodes 65 = .ok (.iload_n 2, 1) := by decide +kernel
theorem d_X10_readCodes_66 : decode b_X10_readCodes 66 = .ok (.ireturn, 1) := by decide +kernel
theorem d_X11_fail_0 : decode b_X11_fail 0 = .ok (.aload_n 0, 1) := by decide +kernel
theorem d_X11_fail_1 : decode b_X11_fail 1 = .ok (.getfield 48, 3) := by decide +kernel
theorem d_X11_fail_4 : decode b_X11_fail 4 = .ok (.ifCond .ne 13, 3) := by decide +kernel
theorem d_X11_fail_7 : decode b_X11_fail 7 = .ok (.aload_n 0, 1) := by decide +kernel
theorem d_X11_fail_8 : decode b_X11_fail 8 = .ok (.iload_n 1, 1) := by decide +kernel
theorem d_X11_fail_9 : decode b_X11_fail 9 = .ok (.putfield 48, 3) := by decide +kernel
theorem d_X11_fail_12 : decode b_X11_fail 12 = .ok (.aload_n 0, 1) := by decide +kernel
theorem d_X11_fail_13 : decode b_X11_fail 13 = .ok (.iload_n 2, 1) := by decide +kernel
theorem d_X11_fail_14 : decode b_X11_fail 14 = .ok (.putfield 51, 3) := by decide +kernel
theorem d_X11_fail_17 : decode b_X11_fail 17 = .ok (.return_, 1) := by decide +kernel
theorem d_X8_addInitial_0 : decode b_X8_addInitial 0 = .ok (.aload_n 0, 1) := by decide +kernel
theorem d_X8_addInitial_1 : decode b_X8_addInitial 1 = .ok (.getfield 43, 3) := by decide +kernel
theorem d_X8_addInitial_4 : decode b_X8_addInitial 4 = .ok (.aload_n 0, 1) := by decide +kernel
theorem d_X8_addInitial_5 : decode b_X8_addInitial 5 = .ok (.getfield 39, 3) := by decide +kernel
theorem d_X8_addInitial_8 : decode b_X8_addInitial 8 = .ok (.iload_n 1, 1) := by decide +kernel
theorem d_X8_addInitial_9 : decode b_X8_addInitial 9 = .ok (.invokestatic 112, 3) := by decide +kernel
theorem d_X8_addInitial_12 : decode b_X8_addInitial 12 = .ok (.aload_n 0, 1) := by decide +kernel
theorem d_X8_addInitial_13 : decode b_X8_addInitial 13 = .ok (.getfield 46, 3) := by decide +kernel
theorem d_X8_addInitial_16 : decode b_X8_addInitial 16 = .ok (.aload_n 0, 1) := by decide +kernel
theorem d_X8_addInitial_17 : decode b_X8_addInitial 17 = .ok (.getfield 39, 3) := by decide +kernel
theorem d_X8_addInitial_20 : decode b_X8_addInitial 20 = .ok (.iload_n 2, 1) := by decide +kernel
theorem d_X8_addInitial_21 : decode b_X8_addInitial 21 = .ok (.invokestatic 112, 3) := by decide +kernel
theorem d_X8_addInitial_24 : decode b_X8_addInitial 24 = .ok (.aload_n 0, 1) := by decide +kernel
theorem d_X8_addInitial_25 : decode b_X8_addInitial 25 = .ok (.getfield 49, 3) := by decide +kernel
theorem d_X8_addInitial_28 : decode b_X8_addInitial 28 = .ok (.aload_n 0, 1) := by decide +kernel
theorem d_X8_addInitial_29 : decode b_X8_addInitial 29 = .ok (.getfield 39, 3) := by decide +kernel
theorem d_X8_addInitial_32 : decode b_X8_addInitial 32 = .ok (.iload_n 3, 1) := by decide +kernel
theorem d_X8_addInitial_33 : decode b_X8_addInitial 33 = .ok (.invokestatic 112, 3) := by decide +kernel
theorem d_X8_addInitial_36 : decode b_X8_addInitial 36 = .ok (.aload_n 0, 1) := by decide +kernel
theorem d_X8_addInitial_37 : decode b_X8_addInitial 37 = .ok (.aload_n 0, 1) := by decide +kernel
theorem d_X8_addInitial_38 : decode b_X8_addInitial 38 = .ok (.getfield 39, 3) := by decide +kernel
theorem d_X8_addInitial_41 : decode b_X8_addInitial 41 = .ok (.iconst 1, 1) := by decide +kernel
theorem d_X8_addInitial_42 : decode b_X8_addInitial 42 = .ok (.iadd, 1) := by decide +kernel
theorem d_X8_addInitial_43 : decode b_X8_addInitial 43 = .ok (.ldc 42, 2) := by decide +kernel
theorem d_X8_addInitial_45 : decode b_X8_addInitial 45 = .ok (.invokestatic 116, 3) := by decide +kernel
theorem d_X8_addInitial_48 : decode b_X8_addInitial 48 = .ok (.putfield 39, 3) := by decide +kernel
theorem d_X8_addInitial_51 : decode b_X8_addInitial 51 = .ok (.return_, 1) := by decide +kernel
theorem d_X6_become_0 : decode b_X6_become 0 = .ok (.aload_n 0, 1) := by decide +kernel
theorem d_X6_become_1 : decode b_X6_become 1 = .ok (.iconst 0, 1) := by decide +kernel
theorem d_X6_become_2 : decode b_X6_become 2 = .ok (.putfield 11, 3) := by decide +kernel
theorem d_X6_become_5 : decode b_X6_become 5 = .ok (.aload_n 0, 1) := by decide +kernel
theorem d_X6_become_6 : decode b_X6_become 6 = .ok (.iload_n 1, 1) := by decide +kernel
theorem d_X6_become_7 : decode b_X6_become 7 = .ok (.putfield 15, 3) := by decide +kernel
theorem d_X6_become_10 : decode b_X6_become 10 = .ok (.aload_n 0, 1) := by decide +kernel
theorem d_X6_become_11 : decode b_X6_become 11 = .ok (.iload_n 2, 1) := by decide +kernel
theorem d_X6_become_12 : decode b_X6_become 12 = .ok (.putfield 31, 3) := by decide +kernel
theorem d_X6_become_15 : decode b_X6_become 15 = .ok (.aload_n 0, 1) := by decide +kernel
theorem d_X6_become_16 : decode b_X6_become 16 = .ok (.iconst 0, 1) := by decide +kernel
theorem d_X6_become_17 : decode b_X6_become 17 = .ok (.putfield 21, 3) := by decide +kernel
theorem d_X6_become_20 : decode b_X6_become 20 = .ok (.return_, 1) := by decide +kernel
theorem d_X2_named_0 : decode b_X2_named 0 = .ok (.aload_n 0, 1) := by decide +kernel
theorem d_X2_named_1 : decode b_X2_named 1 = .ok (.getfield 37, 3) := by decide +kernel
theorem d_X2_named_4 : decode b_X2_named 4 = .ok (.iconst 0, 1) := by decide +kernel
theorem d_X2_named_5 : decode b_X2_named 5 = .ok (.iload_n 1, 1) := by decide +kernel
theorem d_X2_named_6 : decode b_X2_named 6 = .ok (.invokevirtual 208, 3) := by decide +kernel
theorem d_X2_named_9 : decode b_X2_named 9 = .ok (.istore_n 2, 1) := by decide +kernel
theorem d_X2_named_10 : decode b_X2_named 10 = .ok (.iload_n 2, 1) := by decide +kernel
theorem d_X2_named_11 : decode b_X2_named 11 = .ok (.ifCond .ge 14, 3) := by decide +kernel
theorem d_X2_named_14 : decode b_X2_named 14 = .ok (.aload_n 0, 1) := by decide +kernel
theorem d_X2_named_15 : decode b_X2_named 15 = .ok (.getfield 37, 3) := by decide +kernel
theorem d_X2_named_18 : decode b_X2_named 18 = .ok (.iload_n 1, 1) := by decide +kernel
theorem d_X2_named_19 : decode b_X2_named 19 = .ok (.invokevirtual 212, 3) := by decide +kernel
theorem d_X2_named_22 : decode b_X2_named 22 = .ok (.goto 4, 3) := by decide +kernel
theorem d_X2_named_25 : decode b_X2_named 25 = .ok (.iconst (-1), 1) := by decide +kernel
theorem d_X2_named_26 : decode b_X2_named 26 = .ok (.istore_n 3, 1) := by decide +kernel
theorem d_X2_named_27 : decode b_X2_named 27 = .ok (.iload_n 2, 1) := by decide +kernel
theorem d_X2_named_28 : decode b_X2_named 28 = .ok (.ifCond .ge 25, 3) := by decide +kernel
theorem d_X2_named_31 : decode b_X2_named 31 = .ok (.iload_n 3, 1) := by decide +kernel
theorem d_X2_named_32 : decode b_X2_named 32 = .ok (.ifCond .lt 15, 3) := by decide +kernel
theorem d_X2_named_35 : decode b_X2_named 35 = .ok (.aload_n 0, 1) := by decide +kernel
theorem d_X2_named_36 : decode b_X2_named 36 = .ok (.getfield 45, 3) := by decide +kernel
theorem d_X2_named_39 : decode b_X2_named 39 = .ok (.iload_n 3, 1) := by decide +kernel
theorem d_X2_named_40 : decode b_X2_named 40 = .ok (.iconst 1, 1) := by decide +kernel
theorem d_X2_named_41 : decode b_X2_named 41 = .ok (.invokevirtual 215, 3) := by decide +kernel
theorem d_X2_named_44 : decode b_X2_named 44 = .ok (.ifCond .eq 9, 3) := by decide +kernel
theorem d_X2_named_47 : decode b_X2_named 47 = .ok (.aload_n 0, 1) := by decide +kernel
theorem d_X2_named_48 : decode b_X2_named 48 = .ok (.iload_n 1, 1) := by decide +kernel
theorem d_X2_named_49 : decode b_X2_named 49 = .ok (.invokevirtual 219, 3) := by decide +kernel
theorem d_X2_named_52 : decode b_X2_named 52 = .ok (.return_, 1) := by decide +kernel
theorem d_X2_named_53 : decode b_X2_named 53 = .ok (.aload_n 0, 1) := by decide +kernel
theorem d_X2_named_54 : decode b_X2_named 54 = .ok (.invokevirtual 167, 3) := by decide +kernel
theorem d_X2_named_57 : decode b_X2_named 57 = .ok (.astore 4, 2) := by decide +kernel
theorem d_X2_named_59 : decode b_X2_named 59 = .ok (.aload 4, 2) := by decide +kernel
theorem d_X2_named_61 : decode b_X2_named 61 = .ok (.iload_n 2, 1) := by decide +kernel
theorem d_X2_named_62 : decode b_X2_named 62 = .ok (.iload_n 3, 1) := by decide +kernel
theorem d_X2_named_63 : decode b_X2_named 63 = .ok (.invokestatic 222, 3) := by decide +kernel
theorem d_X2_named_66 : decode b_X2_named 66 = .ok (.putfield 159, 3) := by decide +kernel
theorem d_X2_named_69 : decode b_X2_named 69 = .ok (.aload 4, 2) := by decide +kernel
theorem d_X2_named_71 : decode b_X2_named 71 = .ok (.iload_n 2, 1) := by decide +kernel
theorem d_X2_named_72 : decode b_X2_named 72 = .ok (.ifCond .lt 7, 3) := by decide +kernel
theorem d_X2_named_75 : decode b_X2_named 75 = .ok (.iconst 1, 1) := by decide +kernel
theorem d_X2_named_76 : decode b_X2_named 76 = .ok (.goto 4, 3) := by decide +kernel
theorem d_X2_named_79 : decode b_X2_named 79 = .ok (.iconst 2, 1) := by decide +kernel
theorem d_X2_named_80 : decode b_X2_named 80 = .ok (.putfield 149, 3) := by decide +kernel
theorem d_X2_named_83 : decode b_X2_named 83 = .ok (.aload 4, 2) := by decide +kernel
theorem d_X2_named_85 : decode b_X2_named 85 = .ok (.iload_n 2, 1) := by decide +kernel
theorem d_X2_named_86 : decode b_X2_named 86 = .ok (.ifCond .lt 17, 3) := by decide +kernel
theorem d_X2_named_89 : decode b_X2_named 89 = .ok (.aload_n 0, 1) := by decide +kernel
theorem d_X2_named_90 : decode b_X2_named 90 = .ok (.getfield 37, 3) := by decide +kernel
theorem d_X2_named_93 : decode b_X2_named 93 = .ok (.getfield 227, 3) := by decide +kernel
theorem d_X2_named_96 : decode b_X2_named 96 = .ok (.iload_n 2, 1) := by decide +kernel
theorem d_X2_named_97 : decode b_X2_named 97 = .ok (.invokestatic 56, 3) := by decide +kernel
theorem d_X2_named_100 : decode b_X2_named 100 = .ok (.goto 14, 3) := by decide +kernel
theorem d_X2_named_103 : decode b_X2_named 103 = .ok (.aload_n 0, 1) := by decide +kernel
theorem d_X2_named_104 : decode b_X2_named 104 = .ok (.getfield 45, 3) := by decide +kernel
theorem d_X2_named_107 : decode b_X2_named 107 = .ok (.getfield 230, 3) := by decide +kernel
theorem d_X2_named_110 : decode b_X2_named 110 = .ok (.iload_n 3, 1) := by decide +kernel
theorem d_X2_named_111 : decode b_X2_named 111 = .ok (.invokestatic 56, 3) := by decide +kernel
theorem d_X2_named_114 : decode b_X2_named 114 = .ok (.putfield 233, 3) := by decide +kernel
theorem d_X2_named_117 : decode b_X2_named 117 = .ok (.aload_n 0, 1) := by decide +kernel
theorem d_X2_named_118 : decode b_X2_named 118 = .ok (.getfield 45, 3) := by decide +kernel
theorem d_X2_named_121 : decode b_X2_named 121 = .ok (.iload_n 3, 1) := by decide +kernel
theorem d_X2_named_122 : decode b_X2_named 122 = .ok (.bipush 8, 2) := by decide +kernel
theorem d_X2_named_124 : decode b_X2_named 124 = .ok (.invokevirtual 236, 3) := by decide +kernel
theorem d_X2_named_127 : decode b_X2_named 127 = .ok (.iload_n 2, 1) := by decide +kernel
theorem d_X2_named_128 : decode b_X2_named 128 = .ok (.ifCond .lt 13, 3) := by decide +kernel
theorem d_X2_named_131 : decode b_X2_named 131 = .ok (.aload_n 0, 1) := by decide +kernel
theorem d_X2_named_132 : decode b_X2_named 132 = .ok (.getfield 37, 3) := by decide +kernel
theorem d_X2_named_135 : decode b_X2_named 135 = .ok (.getfield 239, 3) := by decide +kernel
theorem d_X2_named_138 : decode b_X2_named 138 = .ok (.goto 10, 3) := by decide +kernel
theorem d_X2_named_141 : decode b_X2_named 141 = .ok (.aload_n 0, 1) := by decide +kernel
theorem d_X2_named_142 : decode b_X2_named 142 = .ok (.getfield 45, 3) := by decide +kernel
theorem d_X2_named_145 : decode b_X2_named 145 = .ok (.getfield 242, 3) := by decide +kernel
theorem d_X2_named_148 : decode b_X2_named 148 = .ok (.aload 4, 2) := by decide +kernel
theorem d_X2_named_150 : decode b_X2_named 150 = .ok (.getfield 159, 3) := by decide +kernel
theorem d_X2_named_153 : decode b_X2_named 153 = .ok (.invokestatic 56, 3) := by decide +kernel
theorem d_X2_named_156 : decode b_X2_named 156 = .ok (.ifCond .lt 9, 3) := by decide +kernel
theorem d_X2_named_159 : decode b_X2_named 159 = .ok (.aload_n 0, 1) := by decide +kernel
theorem d_X2_named_160 : decode b_X2_named 160 = .ok (.aload 4, 2) := by decide +kernel
theorem d_X2_named_162 : decode b_X2_named 162 = .ok (.invokevirtual 245, 3) := by decide +kernel
theorem d_X2_named_165 : decode b_X2_named 165 = .ok (.return_, 1) := by decide +kernel
theorem d_X11_localFrom_0 : decode b_X11_localFrom 0 = .ok (.aload_n 0, 1) := by decide +kernel
theorem d_X11_localFrom_1 : decode b_X11_localFrom 1 = .ok (.getfield 72, 3) := by decide +kernel
theorem d_X11_localFrom_4 : decode b_X11_localFrom 4 = .ok (.iconst 1, 1) := by decide +kernel
theorem d_X11_localFrom_5 : decode b_X11_localFrom 5 = .ok (.isub, 1) := by decide +kernel
theorem d_X11_localFrom_6 : decode b_X11_localFrom 6 = .ok (.istore_n 3, 1) := by decide +kernel
theorem d_X11_localFrom_7 : decode b_X11_localFrom 7 = .ok (.iload_n 3, 1) := by decide +kernel
theorem d_X11_localFrom_8 : decode b_X11_localFrom 8 = .ok (.iload_n 1, 1) := by decide +kernel
theorem d_X11_localFrom_9 : decode b_X11_localFrom 9 = .ok (.if_icmp .lt 42, 3) := by decide +kernel
theorem d_X11_localFrom_12 : decode b_X11_localFrom 12 = .ok (.aload_n 0, 1) := by decide +kernel
theorem d_X11_localFrom_13 : decode b_X11_localFrom 13 = .ok (.getfield 30, 3) := by decide +kernel
theorem d_X11_localFrom_16 : decode b_X11_localFrom 16 = .ok (.iload_n 3, 1) := by decide +kernel
theorem d_X11_localFrom_17 : decode b_X11_localFrom 17 = .ok (.invokestatic 82, 3) := by decide +kernel
theorem d_X11_localFrom_20 : decode b_X11_localFrom 20 = .ok (.istore 4, 2) := by decide +kernel
theorem d_X11_localFrom_22 : decode b_X11_localFrom 22 = .ok (.aload_n 0, 1) := by decide +kernel
theorem d_X11_localFrom_23 : decode b_X11_localFrom 23 = .ok (.getfield 36, 3) := by decide +kernel
theorem d_X11_localFrom_26 : decode b_X11_localFrom 26 = .ok (.aload_n 0, 1) := by decide +kernel
theorem d_X11_localFrom_27 : decode b_X11_localFrom 27 = .ok (.getfield 18, 3) := by decide +kernel
theorem d_X11_localFrom_30 : decode b_X11_localFrom 30 = .ok (.iload 4, 2) := by decide +kernel
theorem d_X11_localFrom_32 : decode b_X11_localFrom 32 = .ok (.invokestatic 82, 3) := by decide +kernel
theorem d_X11_localFrom_35 : decode b_X11_localFrom 35 = .ok (.iload_n 2, 1) := by decide +kernel
theorem d_X11_localFrom_36 : decode b_X11_localFrom 36 = .ok (.invokevirtual 86, 3) := by decide +kernel
theorem d_X11_localFrom_39 : decode b_X11_localFrom 39 = .ok (.ifCond .eq 6, 3) := by decide +kernel
theorem d_X11_localFrom_42 : decode b_X11_localFrom 42 = .ok (.iload 4, 2) := by decide +kernel
theorem d_X11_localFrom_44 : decode b_X11_localFrom 44 = .ok (.ireturn, 1) := by decide +kernel
theorem d_X11_localFrom_45 : decode b_X11_localFrom 45 = .ok (.iinc 3 (-1), 3) := by decide +kernel
theorem d_X11_localFrom_48 : decode b_X11_localFrom 48 = .ok (.goto (-41), 3) := by decide +kernel
theorem d_X11_localFrom_51 : decode b_X11_localFrom 51 = .ok (.iconst (-1), 1) := by decide +kernel
theorem d_X11_localFrom_52 : decode b_X11_localFrom 52 = .ok (.ireturn, 1) := by decide +kernel
theorem d_X10_sameName_0 : decode b_X10_sameName 0 = .ok (.aload_n 0, 1) := by decide +kernel
theorem d_X10_sameName_1 : decode b_X10_sameName 1 = .ok (.getfield 15, 3) := by decide +kernel
theorem d_X10_sameName_4 : decode b_X10_sameName 4 = .ok (.iload_n 1, 1) := by decide +kernel
theorem d_X10_sameName_5 : decode b_X10_sameName 5 = .ok (.invokestatic 145, 3) := by decide +kernel
theorem d_X10_sameName_8 : decode b_X10_sameName 8 = .ok (.istore_n 3, 1) := by decide +kernel
theorem d_X10_sameName_9 : decode b_X10_sameName 9 = .ok (.iload_n 3, 1) := by decide +kernel
theorem d_X10_sameName_10 : decode b_X10_sameName 10 = .ok (.aload_n 0, 1) := by decide +kernel
theorem d_X10_sameName_11 : decode b_X10_sameName 11 = .ok (.getfield 15, 3) := by decide +kernel
theorem d_X10_sameName_14 : decode b_X10_sameName 14 = .ok (.iload_n 2, 1) := by decide +kernel
theorem d_X10_sameName_15 : decode b_X10_sameName 15 = .ok (.invokestatic 145, 3) := by decide +kernel
theorem d_X10_sameName_18 : decode b_X10_sameName 18 = .ok (.if_icmp .eq 5, 3) := by decide +kernel
theorem d_X10_sameName_21 : decode b_X10_sameName 21 = .ok (.iconst 0, 1) := by decide +kernel
theorem d_X10_sameName_22 : decode b_X10_sameName 22 = .ok (.ireturn, 1) := by decide +kernel
theorem d_X10_sameName_23 : decode b_X10_sameName 23 = .ok (.aload_n 0, 1) := by decide +kernel
theorem d_X10_sameName_24 : decode b_X10_sameName 24 = .ok (.getfield 18, 3) := by decide +kernel
theorem d_X10_sameName_27 : decode b_X10_sameName 27 = .ok (.iload_n 1, 1) := by decide +kernel
theorem d_X10_sameName_28 : decode b_X10_sameName 28 = .ok (.invokestatic 145, 3) := by decide +kernel
theorem d_X10_sameName_31 : decode b_X10_sameName 31 = .ok (.istore 4, 2) := by decide +kernel
theorem d_X10_sameName_33 : decode b_X10_sameName 33 = .ok (.aload_n 0, 1) := by decide +kernel
theorem d_X10_sameName_34 : decode b_X10_sameName 34 = .ok (.getfield 18, 3) := by decide +kernel
theorem d_X10_sameName_37 : decode b_X10_sameName 37 = .ok (.iload_n 2, 1) := by decide +kernel
theorem d_X10_sameName_38 : decode b_X10_sameName 38 = .ok (.invokestatic 145, 3) := by decide +kernel
theorem d_X10_sameName_41 : decode b_X10_sameName 41 = .ok (.istore 5, 2) := by decide +kernel
theorem d_X10_sameName_43 : decode b_X10_sameName 43 = .ok (.iconst 0, 1) := by decide +kernel
theorem d_X10_sameName_44 : decode b_X10_sameName 44 = .ok (.istore 6, 2) := by decide +kernel
theorem d_X10_sameName_46 : decode b_X10_sameName 46 = .ok (.iload 6, 2) := by decide +kernel
theorem d_X10_sameName_48 : decode b_X10_sameName 48 = .ok (.iload_n 3, 1) := by decide +kernel
theorem d_X10_sameName_49 : decode b_X10_sameName 49 = .ok (.if_icmp .ge 60, 3) := by decide +kernel
theorem d_X10_sameName_52 : decode b_X10_sameName 52 = .ok (.iload 4, 2) := by decide +kernel
theorem d_X10_sameName_54 : decode b_X10_sameName 54 = .ok (.iload 6, 2) := by decide +kernel
theorem d_X10_sameName_56 : decode b_X10_sameName 56 = .ok (.iadd, 1) := by decide +kernel
theorem d_X10_sameName_57 : decode b_X10_sameName 57 = .ok (.aload_n 0, 1) := by decide +kernel
theorem d_X10_sameName_58 : decode b_X10_sameName 58 = .ok (.getfield 27, 3) := by decide +kernel
theorem d_X10_sameName_61 : decode b_X10_sameName 61 = .ok (.arraylength, 1) := by decide +kernel
theorem d_X10_sameName_62 : decode b_X10_sameName 62 = .ok (.if_icmp .ge 39, 3) := by decide +kernel
theorem d_X10_sameName_65 : decode b_X10_sameName 65 = .ok (.iload 5, 2) := by decide +kernel
theorem d_X10_sameName_67 : decode b_X10_sameName 67 = .ok (.iload 6, 2) := by decide +kernel
theorem d_X10_sameName_69 : decode b_X10_sameName 69 = .ok (.iadd, 1) := by decide +kernel
theorem d_X10_sameName_70 : decode b_X10_sameName 70 = .ok (.aload_n 0, 1) := by decide +kernel
theorem d_X10_sameName_71 : decode b_X10_sameName 71 = .ok (.getfield 27, 3) := by decide +kernel
theorem d_X10_sameName_74 : decode b_X10_sameName 74 = .ok (.arraylength, 1) := by decide +kernel
theorem d_X10_sameName_75 : decode b_X10_sameName 75 = .ok (.if_icmp .ge 26, 3) := by decide +kernel
theorem d_X10_sameName_78 : decode b_X10_sameName 78 = .ok (.aload_n 0, 1) := by decide +kernel
theorem d_X10_sameName_79 : decode b_X10_sameName 79 = .ok (.getfield 27, 3) := by decide +kernel
theorem d_X10_sameName_82 : decode b_X10_sameName 82 = .ok (.iload 4, 2) := by decide +kernel
theorem d_X10_sameName_84 : decode b_X10_sameName 84 = .ok (.iload 6, 2) := by decide +kernel
theorem d_X10_sameName_86 : decode b_X10_sameName 86 = .ok (.iadd, 1) := by decide +kernel
theorem d_X10_sameName_87 : decode b_X10_sameName 87 = .ok (.baload, 1) := by decide +kernel
theorem d_X10_sameName_88 : decode b_X10_sameName 88 = .ok (.aload_n 0, 1) := by decide +kernel
theorem d_X10_sameName_89 : decode b_X10_sameName 89 = .ok (.getfield 27, 3) := by decide +kernel
theorem d_X10_sameName_92 : decode b_X10_sameName 92 = .ok (.iload 5, 2) := by decide +kernel
theorem d_X10_sameName_94 : decode b_X10_sameName 94 = .ok (.iload 6, 2) := by decide +kernel
theorem d_X10_sameName_96 : decode b_X10_sameName 96 = .ok (.iadd, 1) := by decide +kernel
theorem d_X10_sameName_97 : decode b_X10_sameName 97 = .ok (.baload, 1) := by decide +kernel
theorem d_X10_sameName_98 : decode b_X10_sameName 98 = .ok (.if_icmp .eq 5, 3) := by decide +kernel
theorem d_X10_sameName_101 : decode b_X10_sameName 101 = .ok (.iconst 0, 1) := by decide +kernel
theorem d_X10_sameName_102 : decode b_X10_sameName 102 = .ok (.ireturn, 1) := by decide +kernel
theorem d_X10_sameName_103 : decode b_X10_sameName 103 = .ok (.iinc 6 1, 3) := by decide +kernel
theorem d_X10_sameName_106 : decode b_X10_sameName 106 = .ok (.goto (-60), 3) := by decide +kernel
theorem d_X10_sameName_109 : decode b_X10_sameName 109 = .ok (.iconst 1, 1) := by decide +kernel
theorem d_X10_sameName_110 : decode b_X10_sameName 110 = .ok (.ireturn, 1) := by decide +kernel
theorem d_X11_outerOf_0 : decode b_X11_outerOf 0 = .ok (.iconst 0, 1) := by decide +kernel
theorem d_X11_outerOf_1 : decode b_X11_outerOf 1 = .ok (.istore_n 2, 1) := by decide +kernel
theorem d_X11_outerOf_2 : decode b_X11_outerOf 2 = .ok (.iload_n 2, 1) := by decide +kernel
theorem d_X11_outerOf_3 : decode b_X11_outerOf 3 = .ok (.aload_n 0, 1) := by decide +kernel
theorem d_X11_outerOf_4 : decode b_X11_outerOf 4 = .ok (.getfield 57, 3) := by decide +kernel
theorem d_X11_outerOf_7 : decode b_X11_outerOf 7 = .ok (.if_icmp .ge 43, 3) := by decide +kernel
theorem d_X11_outerOf_10 : decode b_X11_outerOf 10 = .ok (.aload_n 0, 1) := by decide +kernel
theorem d_X11_outerOf_11 : decode b_X11_outerOf 11 = .ok (.getfield 36, 3) := by decide +kernel
theorem d_X11_outerOf_14 : decode b_X11_outerOf 14 = .ok (.aload_n 0, 1) := by decide +kernel
theorem d_X11_outerOf_15 : decode b_X11_outerOf 15 = .ok (.getfield 9, 3) := by decide +kernel
theorem d_X11_outerOf_18 : decode b_X11_outerOf 18 = .ok (.iload_n 2, 1) := by decide +kernel
theorem d_X11_outerOf_19 : decode b_X11_outerOf 19 = .ok (.invokestatic 82, 3) := by decide +kernel
theorem d_X11_outerOf_22 : decode b_X11_outerOf 22 = .ok (.iload_n 1, 1) := by decide +kernel
theorem d_X11_outerOf_23 : decode b_X11_outerOf 23 = .ok (.invokevirtual 86, 3) := by decide +kernel
theorem d_X11_outerOf_26 : decode b_X11_outerOf 26 = .ok (.ifCond .eq 18, 3) := by decide +kernel
theorem d_X11_outerOf_29 : decode b_X11_outerOf 29 = .ok (.aload_n 0, 1) := by decide +kernel
theorem d_X11_outerOf_30 : decode b_X11_outerOf 30 = .ok (.getfield 40, 3) := by decide +kernel
theorem d_X11_outerOf_33 : decode b_X11_outerOf 33 = .ok (.getfield 92, 3) := by decide +kernel
theorem d_X11_outerOf_36 : decode b_X11_outerOf 36 = .ok (.aload_n 0, 1) := by decide +kernel
theorem d_X11_outerOf_37 : decode b_X11_outerOf 37 = .ok (.getfield 57, 3) := by decide +kernel
theorem d_X11_outerOf_40 : decode b_X11_outerOf 40 = .ok (.isub, 1) := by decide +kernel
theorem d_X11_outerOf_41 : decode b_X11_outerOf 41 = .ok (.iload_n 2, 1) := by decide +kernel
theorem d_X11_outerOf_42 : decode b_X11_outerOf 42 = .ok (.iadd, 1) := by decide +kernel
theorem d_X11_outerOf_43 : decode b_X11_outerOf 43 = .ok (.ireturn, 1) := by decide +kernel
theorem d_X11_outerOf_44 : decode b_X11_outerOf 44 = .ok (.iinc 2 1, 3) := by decide +kernel
theorem d_X11_outerOf_47 : decode b_X11_outerOf 47 = .ok (.goto (-45), 3) := by decide +kernel
theorem d_X11_outerOf_50 : decode b_X11_outerOf 50 = .ok (.iconst (-1), 1) := by decide +kernel
theorem d_X11_outerOf_51 : decode b_X11_outerOf 51 = .ok (.ireturn, 1) := by decide +kernel
theorem d_X8_is_0 : decode b_X8_is 0 = .ok (.aload_n 0, 1) := by decide +kernel
theorem d_X8_is_1 : decode b_X8_is 1 = .ok (.getfield 15, 3) := by decide +kernel
theorem d_X8_is_4 : decode b_X8_is 4 = .ok (.iload_n 1, 1) := by decide +kernel
theorem d_X8_is_5 : decode b_X8_is 5 = .ok (.invokestatic 88, 3) := by decide +kernel
theorem d_X8_is_8 : decode b_X8_is 8 = .ok (.iload_n 2, 1) := by decide +kernel
theorem d_X8_is_9 : decode b_X8_is 9 = .ok (.iand, 1) := by decide +kernel
theorem d_X8_is_10 : decode b_X8_is 10 = .ok (.ifCond .eq 7, 3) := by decide +kernel
theorem d_X8_is_13 : decode b_X8_is 13 = .ok (.iconst 1, 1) := by decide +kernel
theorem d_X8_is_14 : decode b_X8_is 14 = .ok (.goto 4, 3) := by decide +kernel
theorem d_X8_is_17 : decode b_X8_is 17 = .ok (.iconst 0, 1) := by decide +kernel
theorem d_X8_is_18 : decode b_X8_is 18 = .ok (.ireturn, 1) := by decide +kernel
theorem d_X2_refuse_0 : decode b_X2_refuse 0 = .ok (.aload_n 0, 1) := by decide +kernel
theorem d_X2_refuse_1 : decode b_X2_refuse 1 = .ok (.getfield 37, 3) := by decide +kernel
theorem d_X2_refuse_4 : decode b_X2_refuse 4 = .ok (.iconst 2, 1) := by decide +kernel
theorem d_X2_refuse_5 : decode b_X2_refuse 5 = .ok (.iload_n 1, 1) := by decide +kernel
theorem d_X2_refuse_6 : decode b_X2_refuse 6 = .ok (.invokevirtual 164, 3) := by decide +kernel
theorem d_X2_refuse_9 : decode b_X2_refuse 9 = .ok (.return_, 1) := by decide +kernel
theorem d_X8_mark_0 : decode b_X8_mark 0 = .ok (.aload_n 0, 1) := by decide +kernel
theorem d_X8_mark_1 : decode b_X8_mark 1 = .ok (.getfield 15, 3) := by decide +kernel
theorem d_X8_mark_4 : decode b_X8_mark 4 = .ok (.iload_n 1, 1) := by decide +kernel
theorem d_X8_mark_5 : decode b_X8_mark 5 = .ok (.aload_n 0, 1) := by decide +kernel
theorem d_X8_mark_6 : decode b_X8_mark 6 = .ok (.getfield 15, 3) := by decide +kernel
theorem d_X8_mark_9 : decode b_X8_mark 9 = .ok (.iload_n 1, 1) := by decide +kernel
theorem d_X8_mark_10 : decode b_X8_mark 10 = .ok (.invokestatic 88, 3) := by decide +kernel
theorem d_X8_mark_13 : decode b_X8_mark 13 = .ok (.iload_n 2, 1) := by decide +kernel
theorem d_X8_mark_14 : decode b_X8_mark 14 = .ok (.ior, 1) := by decide +kernel
theorem d_X8_mark_15 : decode b_X8_mark 15 = .ok (.invokestatic 112, 3) := by decide +kernel
theorem d_X8_mark_18 : decode b_X8_mark 18 = .ok (.return_, 1) := by decide +kernel
theorem d_X2_address_0 : decode b_X2_address 0 = .ok (.aload_n 1, 1) := by decide +kernel
theorem d_X2_address_1 : decode b_X2_address 1 = .ok (.getfield 149, 3) := by decide +kernel
theorem d_X2_address_4 : decode b_X2_address 4 = .ok (.iconst 2, 1) := by decide +kernel
theorem d_X2_address_5 : decode b_X2_address 5 = .ok (.if_icmp .ne 7, 3) := by decide +kernel
theorem d_X2_address_8 : decode b_X2_address 8 = .ok (.iconst 1, 1) := by decide +kernel
theorem d_X2_address_9 : decode b_X2_address 9 = .ok (.goto 4, 3) := by decide +kernel
theorem d_X2_address_12 : decode b_X2_address 12 = .ok (.iconst 0, 1) := by decide +kernel
theorem d_X2_address_13 : decode b_X2_address 13 = .ok (.istore_n 2, 1) := by decide +kernel
theorem d_X2_address_14 : decode b_X2_address 14 = .ok (.aload_n 1, 1) := by decide +kernel
theorem d_X2_address_15 : decode b_X2_address 15 = .ok (.getfield 149, 3) := by decide +kernel
theorem d_X2_address_18 : decode b_X2_address 18 = .ok (.iconst 1, 1) := by decide +kernel
theorem d_X2_address_19 : decode b_X2_address 19 = .ok (.if_icmp .ne 37, 3) := by decide +kernel
theorem d_X2_address_22 : decode b_X2_address 22 = .ok (.aload_n 0, 1) := by decide +kernel
theorem d_X2_address_23 : decode b_X2_address 23 = .ok (.getfield 37, 3) := by decide +kernel
theorem d_X2_address_26 : decode b_X2_address 26 = .ok (.getfield 249, 3) := by decide +kernel
theorem d_X2_address_29 : decode b_X2_address 29 = .ok (.aload_n 1, 1) := by decide +kernel
theorem d_X2_address_30 : decode b_X2_address 30 = .ok (.getfield 159, 3) := by decide +kernel
theorem d_X2_address_33 : decode b_X2_address 33 = .ok (.iconst 1, 1) := by decide +kernel
theorem d_X2_address_34 : decode b_X2_address 34 = .ok (.invokestatic 252, 3) := by decide +kernel
theorem d_X2_address_37 : decode b_X2_address 37 = .ok (.aload_n 0, 1) := by decide +kernel
theorem d_X2_address_38 : decode b_X2_address 38 = .ok (.getfield 46, 3) := by decide +kernel
theorem d_X2_address_41 : decode b_X2_address 41 = .ok (.bipush 14, 2) := by decide +kernel
theorem d_X2_address_43 : decode b_X2_address 43 = .ok (.aload_n 1, 1) := by decide +kernel
theorem d_X2_address_44 : decode b_X2_address 44 = .ok (.getfield 159, 3) := by decide +kernel
theorem d_X2_address_47 : decode b_X2_address 47 = .ok (.iconst 0, 1) := by decide +kernel
theorem d_X2_address_48 : decode b_X2_address 48 = .ok (.iconst 0, 1) := by decide +kernel
theorem d_X2_address_49 : decode b_X2_address 49 = .ok (.invokevirtual 155, 3) := by decide +kernel
theorem d_X2_address_52 : decode b_X2_address 52 = .ok (.pop, 1) := by decide +kernel
theorem d_X2_address_53 : decode b_X2_address 53 = .ok (.goto 22, 3) := by decide +kernel
theorem d_X2_address_56 : decode b_X2_address 56 = .ok (.iload_n 2, 1) := by decide +kernel
theorem d_X2_address_57 : decode b_X2_address 57 = .ok (.ifCond .eq 18, 3) := by decide +kernel
theorem d_X2_address_60 : decode b_X2_address 60 = .ok (.aload_n 0, 1) := by decide +kernel
theorem d_X2_address_61 : decode b_X2_address 61 = .ok (.getfield 46, 3) := by decide +kernel
theorem d_X2_address_64 : decode b_X2_address 64 = .ok (.iconst 4, 1) := by decide +kernel
theorem d_X2_address_65 : decode b_X2_address 65 = .ok (.aload_n 1, 1) := by decide +kernel
theorem d_X2_address_66 : decode b_X2_address 66 = .ok (.getfield 159, 3) := by decide +kernel
theorem d_X2_address_69 : decode b_X2_address 69 = .ok (.iconst 0, 1) := by decide +kernel
theorem d_X2_address_70 : decode b_X2_address 70 = .ok (.iconst 0, 1) := by decide +kernel
theorem d_X2_address_71 : decode b_X2_address 71 = .ok (.invokevirtual 155, 3) := by decide +kernel
theorem d_X2_address_74 : decode b_X2_address 74 = .ok (.pop, 1) := by decide +kernel
theorem d_X2_address_75 : decode b_X2_address 75 = .ok (.aload_n 1, 1) := by decide +kernel
theorem d_X2_address_76 : decode b_X2_address 76 = .ok (.aload_n 1, 1) := by decide +kernel
theorem d_X2_address_77 : decode b_X2_address 77 = .ok (.getfield 233, 3) := by decide +kernel
theorem d_X2_address_80 : decode b_X2_address 80 = .ok (.iconst 1, 1) := by decide +kernel
theorem d_X2_address_81 : decode b_X2_address 81 = .ok (.iadd, 1) := by decide +kernel
theorem d_X2_address_82 : decode b_X2_address 82 = .ok (.iload_n 2, 1) := by decide +kernel
theorem d_X2_address_83 : decode b_X2_address 83 = .ok (.ifCond .eq 7, 3) := by decide +kernel
theorem d_X2_address_86 : decode b_X2_address 86 = .ok (.iconst 2, 1) := by decide +kernel
theorem d_X2_address_87 : decode b_X2_address 87 = .ok (.goto 4, 3) := by decide +kernel
theorem d_X2_address_90 : decode b_X2_address 90 = .ok (.iconst 0, 1) := by decide +kernel
theorem d_X2_address_91 : decode b_X2_address 91 = .ok (.invokevirtual 199, 3) := by decide +kernel
theorem d_X2_address_94 : decode b_X2_address 94 = .ok (.aload_n 1, 1) := by decide +kernel
theorem d_X2_address_95 : decode b_X2_address 95 = .ok (.aload_n 1, 1) := by decide +kernel
theorem d_X2_address_96 : decode b_X2_address 96 = .ok (.getfield 159, 3) := by decide +kernel
theorem d_X2_address_99 : decode b_X2_address 99 = .ok (.putfield 202, 3) := by decide +kernel
theorem d_X2_address_102 : decode b_X2_address 102 = .ok (.aload_n 1, 1) := by decide +kernel
theorem d_X2_address_103 : decode b_X2_address 103 = .ok (.iconst 0, 1) := by decide +kernel
theorem d_X2_address_104 : decode b_X2_address 104 = .ok (.putfield 176, 3) := by decide +kernel
theorem d_X2_address_107 : decode b_X2_address 107 = .ok (.return_, 1) := by decide +kernel
theorem d_X2_callee_0 : decode b_X2_callee 0 = .ok (.aload_n 0, 1) := by decide +kernel
theorem d_X2_callee_1 : decode b_X2_callee 1 = .ok (.getfield 37, 3) := by decide +kernel
theorem d_X2_callee_4 : decode b_X2_callee 4 = .ok (.iconst 0, 1) := by decide +kernel
theorem d_X2_callee_5 : decode b_X2_callee 5 = .ok (.iload_n 1, 1) := by decide +kernel
theorem d_X2_callee_6 : decode b_X2_callee 6 = .ok (.invokevirtual 208, 3) := by decide +kernel
theorem d_X2_callee_9 : decode b_X2_callee 9 = .ok (.ifCond .ge 14, 3) := by decide +kernel
theorem d_X2_callee_12 : decode b_X2_callee 12 = .ok (.aload_n 0, 1) := by decide +kernel
theorem d_X2_callee_13 : decode b_X2_callee 13 = .ok (.getfield 37, 3) := by decide +kernel
theorem d_X2_callee_16 : decode b_X2_callee 16 = .ok (.iload_n 1, 1) := by decide +kernel
theorem d_X2_callee_17 : decode b_X2_callee 17 = .ok (.invokevirtual 212, 3) := by decide +kernel
theorem d_X2_callee_20 : decode b_X2_callee 20 = .ok (.goto 4, 3) := by decide +kernel
theorem d_X2_callee_23 : decode b_X2_callee 23 = .ok (.iconst (-1), 1) := by decide +kernel
theorem d_X2_callee_24 : decode b_X2_callee 24 = .ok (.istore_n 2, 1) := by decide +kernel
theorem d_X2_callee_25 : decode b_X2_callee 25 = .ok (.iload_n 2, 1) := by decide +kernel
theorem d_X2_callee_26 : decode b_X2_callee 26 = .ok (.ifCond .lt 15, 3) := by decide +kernel
theorem d_X2_callee_29 : decode b_X2_callee 29 = .ok (.aload_n 0, 1) := by decide +kernel
theorem d_X2_callee_30 : decode b_X2_callee 30 = .ok (.getfield 45, 3) := by decide +kernel
theorem d_X2_callee_33 : decode b_X2_callee 33 = .ok (.iload_n 2, 1) := by decide +kernel
theorem d_X2_callee_34 : decode b_X2_callee 34 = .ok (.iconst 1, 1) := by decide +kernel
theorem d_X2_callee_35 : decode b_X2_callee 35 = .ok (.invokevirtual 215, 3) := by decide +kernel
theorem d_X2_callee_38 : decode b_X2_callee 38 = .ok (.ifCond .ne 9, 3) := by decide +kernel
theorem d_X2_callee_41 : decode b_X2_callee 41 = .ok (.aload_n 0, 1) := by decide +kernel
theorem d_X2_callee_42 : decode b_X2_callee 42 = .ok (.iload_n 1, 1) := by decide +kernel
theorem d_X2_callee_43 : decode b_X2_callee 43 = .ok (.invokevirtual 219, 3) := by decide +kernel
theorem d_X2_callee_46 : decode b_X2_callee 46 = .ok (.return_, 1) := by decide +kernel
theorem d_X2_callee_47 : decode b_X2_callee 47 = .ok (.aload_n 0, 1) := by decide +kernel
theorem d_X2_callee_48 : decode b_X2_callee 48 = .ok (.getfield 37, 3) := by decide +kernel
theorem d_X2_callee_51 : decode b_X2_callee 51 = .ok (.iload_n 2, 1) := by decide +kernel
theorem d_X2_callee_52 : decode b_X2_callee 52 = .ok (.iload_n 1, 1) := by decide +kernel
theorem d_X2_callee_53 : decode b_X2_callee 53 = .ok (.invokevirtual 256, 3) := by decide +kernel
theorem d_X2_callee_56 : decode b_X2_callee 56 = .ok (.aload_n 0, 1) := by decide +kernel
theorem d_X2_callee_57 : decode b_X2_callee 57 = .ok (.invokevirtual 167, 3) := by decide +kernel
theorem d_X2_callee_60 : decode b_X2_callee 60 = .ok (.astore_n 3, 1) := by decide +kernel
theorem d_X2_callee_61 : decode b_X2_callee 61 = .ok (.aload_n 3, 1) := by decide +kernel
theorem d_X2_callee_62 : decode b_X2_callee 62 = .ok (.iconst 4, 1) := by decide +kernel
theorem d_X2_callee_63 : decode b_X2_callee 63 = .ok (.putfield 149, 3) := by decide +kernel
theorem d_X2_callee_66 : decode b_X2_callee 66 = .ok (.aload_n 3, 1) := by decide +kernel
theorem d_X2_callee_67 : decode b_X2_callee 67 = .ok (.iload_n 2, 1) := by decide +kernel
theorem d_X2_callee_68 : decode b_X2_callee 68 = .ok (.putfield 159, 3) := by decide +kernel
theorem d_X2_callee_71 : decode b_X2_callee 71 = .ok (.aload_n 3, 1) := by decide +kernel
theorem d_X2_callee_72 : decode b_X2_callee 72 = .ok (.aload_n 0, 1) := by decide +kernel
theorem d_X2_callee_73 : decode b_X2_callee 73 = .ok (.getfield 45, 3) := by decide +kernel
theorem d_X2_callee_76 : decode b_X2_callee 76 = .ok (.getfield 230, 3) := by decide +kernel
theorem d_X2_callee_79 : decode b_X2_callee 79 = .ok (.iload_n 2, 1) := by decide +kernel
theorem d_X2_callee_80 : decode b_X2_callee 80 = .ok (.invokestatic 56, 3) := by decide +kernel
theorem d_X2_callee_83 : decode b_X2_callee 83 = .ok (.putfield 233, 3) := by decide +kernel
theorem d_X2_callee_86 : decode b_X2_callee 86 = .ok (.aload_n 3, 1) := by decide +kernel
theorem d_X2_callee_87 : decode b_X2_callee 87 = .ok (.iconst 0, 1) := by decide +kernel
theorem d_X2_callee_88 : decode b_X2_callee 88 = .ok (.putfield 161, 3) := by decide +kernel
theorem d_X2_callee_91 : decode b_X2_callee 91 = .ok (.return_, 1) := by decide +kernel
theorem d_X11_mentionCall_0 : decode b_X11_mentionCall 0 = .ok (.iload_n 1, 1) := by decide +kernel
theorem d_X11_mentionCall_1 : decode b_X11_mentionCall 1 = .ok (.aload_n 0, 1) := by decide +kernel
theorem d_X11_mentionCall_2 : decode b_X11_mentionCall 2 = .ok (.getfield 40, 3) := by decide +kernel
theorem d_X11_mentionCall_5 : decode b_X11_mentionCall 5 = .ok (.getfield 92, 3) := by decide +kernel
theorem d_X11_mentionCall_8 : decode b_X11_mentionCall 8 = .ok (.aload_n 0, 1) := by decide +kernel
theorem d_X11_mentionCall_9 : decode b_X11_mentionCall 9 = .ok (.getfield 57, 3) := by decide +kernel
theorem d_X11_mentionCall_12 : decode b_X11_mentionCall 12 = .ok (.isub, 1) := by decide +kernel
theorem d_X11_mentionCall_13 : decode b_X11_mentionCall 13 = .ok (.isub, 1) := by decide +kernel
theorem d_X11_mentionCall_14 : decode b_X11_mentionCall 14 = .ok (.istore_n 3, 1) := by decide +kernel
theorem d_X11_mentionCall_15 : decode b_X11_mentionCall 15 = .ok (.aload_n 0, 1) := by decide +kernel
theorem d_X11_mentionCall_16 : decode b_X11_mentionCall 16 = .ok (.getfield 40, 3) := by decide +kernel
theorem d_X11_mentionCall_19 : decode b_X11_mentionCall 19 = .ok (.iload_n 1, 1) := by decide +kernel
theorem d_X11_mentionCall_20 : decode b_X11_mentionCall 20 = .ok (.bipush 8, 2) := by decide +kernel
theorem d_X11_mentionCall_22 : decode b_X11_mentionCall 22 = .ok (.invokevirtual 111, 3) := by decide +kernel
theorem d_X11_mentionCall_25 : decode b_X11_mentionCall 25 = .ok (.aload_n 0, 1) := by decide +kernel
theorem d_X11_mentionCall_26 : decode b_X11_mentionCall 26 = .ok (.getfield 15, 3) := by decide +kernel
theorem d_X11_mentionCall_29 : decode b_X11_mentionCall 29 = .ok (.iload_n 3, 1) := by decide +kernel
theorem d_X11_mentionCall_30 : decode b_X11_mentionCall 30 = .ok (.invokestatic 82, 3) := by decide +kernel
theorem d_X11_mentionCall_33 : decode b_X11_mentionCall 33 = .ok (.ifCond .ge 12, 3) := by decide +kernel
theorem d_X11_mentionCall_36 : decode b_X11_mentionCall 36 = .ok (.aload_n 0, 1) := by decide +kernel
theorem d_X11_mentionCall_37 : decode b_X11_mentionCall 37 = .ok (.getfield 15, 3) := by decide +kernel
theorem d_X11_mentionCall_40 : decode b_X11_mentionCall 40 = .ok (.iload_n 3, 1) := by decide +kernel
theorem d_X11_mentionCall_41 : decode b_X11_mentionCall 41 = .ok (.iload_n 2, 1) := by decide +kernel
theorem d_X11_mentionCall_42 : decode b_X11_mentionCall 42 = .ok (.invokestatic 78, 3) := by decide +kernel
theorem d_X11_mentionCall_45 : decode b_X11_mentionCall 45 = .ok (.return_, 1) := by decide +kernel
theorem d_X2_argument_0 : decode b_X2_argument 0 = .ok (.aload_n 0, 1) := by decide +kernel
theorem d_X2_argument_1 : decode b_X2_argument 1 = .ok (.invokevirtual 259, 3) := by decide +kernel
theorem d_X2_argument_4 : decode b_X2_argument 4 = .ok (.astore_n 1, 1) := by decide +kernel
theorem d_X2_argument_5 : decode b_X2_argument 5 = .ok (.aload_n 0, 1) := by decide +kernel
theorem d_X2_argument_6 : decode b_X2_argument 6 = .ok (.invokevirtual 104, 3) := by decide +kernel
theorem d_X2_argument_9 : decode b_X2_argument 9 = .ok (.astore_n 2, 1) := by decide +kernel
theorem d_X2_argument_10 : decode b_X2_argument 10 = .ok (.aload_n 0, 1) := by decide +kernel
theorem d_X2_argument_11 : decode b_X2_argument 11 = .ok (.getfield 45, 3) := by decide +kernel
theorem d_X2_argument_14 : decode b_X2_argument 14 = .ok (.getfield 242, 3) := by decide +kernel
theorem d_X2_argument_17 : decode b_X2_argument 17 = .ok (.aload_n 2, 1) := by decide +kernel
theorem d_X2_argument_18 : decode b_X2_argument 18 = .ok (.getfield 159, 3) := by decide +kernel
theorem d_X2_argument_21 : decode b_X2_argument 21 = .ok (.invokestatic 56, 3) := by decide +kernel
theorem d_X2_argument_24 : decode b_X2_argument 24 = .ok (.istore_n 3, 1) := by decide +kernel
theorem d_X2_argument_25 : decode b_X2_argument 25 = .ok (.aload_n 2, 1) := by decide +kernel
theorem d_X2_argument_26 : decode b_X2_argument 26 = .ok (.getfield 262, 3) := by decide +kernel
theorem d_X2_argument_29 : decode b_X2_argument 29 = .ok (.istore 4, 2) := by decide +kernel
theorem d_X2_argument_31 : decode b_X2_argument 31 = .ok (.iload 4, 2) := by decide +kernel
theorem d_X2_argument_33 : decode b_X2_argument 33 = .ok (.iload_n 3, 1) := by decide +kernel
theorem d_X2_argument_34 : decode b_X2_argument 34 = .ok (.invokestatic 265, 3) := by decide +kernel
theorem d_X2_argument_37 : decode b_X2_argument 37 = .ok (.if_icmp .ge 16, 3) := by decide +kernel
theorem d_X2_argument_40 : decode b_X2_argument 40 = .ok (.aload_n 1, 1) := by decide +kernel
theorem d_X2_argument_41 : decode b_X2_argument 41 = .ok (.iload_n 3, 1) := by decide +kernel
theorem d_X2_argument_42 : decode b_X2_argument 42 = .ok (.iload 4, 2) := by decide +kernel
theorem d_X2_argument_44 : decode b_X2_argument 44 = .ok (.invokestatic 268, 3) := by decide +kernel
theorem d_X2_argument_47 : decode b_X2_argument 47 = .ok (.invokevirtual 271, 3) := by decide +kernel
theorem d_X2_argument_50 : decode b_X2_argument 50 = .ok (.ifCond .ne 8, 3) := by decide +kernel
theorem d_X2_argument_53 : decode b_X2_argument 53 = .ok (.aload_n 2, 1) := by decide +kernel
theorem d_X2_argument_54 : decode b_X2_argument 54 = .ok (.iconst 1, 1) := by decide +kernel
theorem d_X2_argument_55 : decode b_X2_argument 55 = .ok (.putfield 275, 3) := by decide +kernel
theorem d_X2_argument_58 : decode b_X2_argument 58 = .ok (.aload_n 2, 1) := by decide +kernel
theorem d_X2_argument_59 : decode b_X2_argument 59 = .ok (.dup, 1) := by decide +kernel
theorem d_X2_argument_60 : decode b_X2_argument 60 = .ok (.getfield 262, 3) := by decide +kernel
theorem d_X2_argument_63 : decode b_X2_argument 63 = .ok (.iconst 1, 1) := by decide +kernel
theorem d_X2_argument_64 : decode b_X2_argument 64 = .ok (.iadd, 1) := by decide +kernel
theorem d_X2_argument_65 : decode b_X2_argument 65 = .ok (.putfield 262, 3) := by decide +kernel
theorem d_X2_argument_68 : decode b_X2_argument 68 = .ok (.aload_n 2, 1) := by decide +kernel
theorem d_X2_argument_69 : decode b_X2_argument 69 = .ok (.aload_n 2, 1) := by decide +kernel
theorem d_X2_argument_70 : decode b_X2_argument 70 = .ok (.getfield 161, 3) := by decide +kernel
theorem d_X2_argument_73 : decode b_X2_argument 73 = .ok (.aload_n 1, 1) := by decide +kernel
theorem d_X2_argument_74 : decode b_X2_argument 74 = .ok (.getfield 161, 3) := by decide +kernel
theorem d_X2_argument_77 : decode b_X2_argument 77 = .ok (.invokestatic 222, 3) := by decide +kernel
theorem d_X2_argument_80 : decode b_X2_argument 80 = .ok (.putfield 161, 3) := by decide +kernel
theorem d_X2_argument_83 : decode b_X2_argument 83 = .ok (.return_, 1) := by decide +kernel
theorem d_X2_pop_0 : decode b_X2_pop 0 = .ok (.aload_n 0, 1) := by decide +kernel
theorem d_X2_pop_1 : decode b_X2_pop 1 = .ok (.aload_n 0, 1) := by decide +kernel
theorem d_X2_pop_2 : decode b_X2_pop 2 = .ok (.invokevirtual 104, 3) := by decide +kernel
theorem d_X2_pop_5 : decode b_X2_pop 5 = .ok (.invokevirtual 112, 3) := by decide +kernel
theorem d_X2_pop_8 : decode b_X2_pop 8 = .ok (.astore_n 1, 1) := by decide +kernel
theorem d_X2_pop_9 : decode b_X2_pop 9 = .ok (.aload_n 0, 1) := by decide +kernel
theorem d_X2_pop_10 : decode b_X2_pop 10 = .ok (.dup, 1) := by decide +kernel
theorem d_X2_pop_11 : decode b_X2_pop 11 = .ok (.getfield 22, 3) := by decide +kernel
theorem d_X2_pop_14 : decode b_X2_pop 14 = .ok (.aload_n 0, 1) := by decide +kernel
theorem d_X2_pop_15 : decode b_X2_pop 15 = .ok (.getfield 22, 3) := by decide +kernel
theorem d_X2_pop_18 : decode b_X2_pop 18 = .ok (.ifCond .le 7, 3) := by decide +kernel
theorem d_X2_pop_21 : decode b_X2_pop 21 = .ok (.iconst 1, 1) := by decide +kernel
theorem d_X2_pop_22 : decode b_X2_pop 22 = .ok (.goto 4, 3) := by decide +kernel
theorem d_X2_pop_25 : decode b_X2_pop 25 = .ok (.iconst 0, 1) := by decide +kernel
theorem d_X2_pop_26 : decode b_X2_pop 26 = .ok (.isub, 1) := by decide +kernel
theorem d_X2_pop_27 : decode b_X2_pop 27 = .ok (.putfield 22, 3) := by decide +kernel
theorem d_X2_pop_30 : decode b_X2_pop 30 = .ok (.aload_n 1, 1) := by decide +kernel
theorem d_X2_pop_31 : decode b_X2_pop 31 = .ok (.areturn, 1) := by decide +kernel
theorem d_X2_top_0 : decode b_X2_top 0 = .ok (.aload_n 0, 1) := by decide +kernel
theorem d_X2_top_1 : decode b_X2_top 1 = .ok (.getfield 22, 3) := by decide +kernel
theorem d_X2_top_4 : decode b_X2_top 4 = .ok (.ifCond .le 29, 3) := by decide +kernel
theorem d_X2_top_7 : decode b_X2_top 7 = .ok (.aload_n 0, 1) := by decide +kernel
theorem d_X2_top_8 : decode b_X2_top 8 = .ok (.getfield 22, 3) := by decide +kernel
theorem d_X2_top_11 : decode b_X2_top 11 = .ok (.aload_n 0, 1) := by decide +kernel
theorem d_X2_top_12 : decode b_X2_top 12 = .ok (.getfield 13, 3) := by decide +kernel
theorem d_X2_top_15 : decode b_X2_top 15 = .ok (.arraylength, 1) := by decide +kernel
theorem d_X2_top_16 : decode b_X2_top 16 = .ok (.if_icmp .gt 17, 3) := by decide +kernel
theorem d_X2_top_19 : decode b_X2_top 19 = .ok (.aload_n 0, 1) := by decide +kernel
theorem d_X2_top_20 : decode b_X2_top 20 = .ok (.getfield 13, 3) := by decide +kernel
theorem d_X2_top_23 : decode b_X2_top 23 = .ok (.aload_n 0, 1) := by decide +kernel
theorem d_X2_top_24 : decode b_X2_top 24 = .ok (.getfield 22, 3) := by decide +kernel
theorem d_X2_top_27 : decode b_X2_top 27 = .ok (.iconst 1, 1) := by decide +kernel
theorem d_X2_top_28 : decode b_X2_top 28 = .ok (.isub, 1) := by decide +kernel
theorem d_X2_top_29 : decode b_X2_top 29 = .ok (.aaload, 1) := by decide +kernel
theorem d_X2_top_30 : decode b_X2_top 30 = .ok (.goto 7, 3) := by decide +kernel
theorem d_X2_top_33 : decode b_X2_top 33 = .ok (.aload_n 0, 1) := by decide +kernel
theorem d_X2_top_34 : decode b_X2_top 34 = .ok (.getfield 18, 3) := by decide +kernel
theorem d_X2_top_37 : decode b_X2_top 37 = .ok (.areturn, 1) := by decide +kernel
theorem d_X2_loaded_0 : decode b_X2_loaded 0 = .ok (.aload_n 1, 1) := by decide +kernel
theorem d_X2_loaded_1 : decode b_X2_loaded 1 = .ok (.invokevirtual 145, 3) := by decide +kernel
theorem d_X2_loaded_4 : decode b_X2_loaded 4 = .ok (.ifCond .eq 63, 3) := by decide +kernel
theorem d_X2_loaded_7 : decode b_X2_loaded 7 = .ok (.aload_n 1, 1) := by decide +kernel
theorem d_X2_loaded_8 : decode b_X2_loaded 8 = .ok (.getfield 149, 3) := by decide +kernel
theorem d_X2_loaded_11 : decode b_X2_loaded 11 = .ok (.iconst 3, 1) := by decide +kernel
theorem d_X2_loaded_12 : decode b_X2_loaded 12 = .ok (.if_icmp .ne 22, 3) := by decide +kernel
theorem d_X2_loaded_15 : decode b_X2_loaded 15 = .ok (.aload_n 0, 1) := by decide +kernel
theorem d_X2_loaded_16 : decode b_X2_loaded 16 = .ok (.getfield 46, 3) := by decide +kernel
theorem d_X2_loaded_19 : decode b_X2_loaded 19 = .ok (.bipush 18, 2) := by decide +kernel
theorem d_X2_loaded_21 : decode b_X2_loaded 21 = .ok (.aload_n 1, 1) := by decide +kernel
theorem d_X2_loaded_22 : decode b_X2_loaded 22 = .ok (.getfield 152, 3) := by decide +kernel
theorem d_X2_loaded_25 : decode b_X2_loaded 25 = .ok (.iconst 0, 1) := by decide +kernel
theorem d_X2_loaded_26 : decode b_X2_loaded 26 = .ok (.iconst 0, 1) := by decide +kernel
theorem d_X2_loaded_27 : decode b_X2_loaded 27 = .ok (.invokevirtual 155, 3) := by decide +kernel
theorem d_X2_loaded_30 : decode b_X2_loaded 30 = .ok (.pop, 1) := by decide +kernel
theorem d_X2_loaded_31 : decode b_X2_loaded 31 = .ok (.goto 31, 3) := by decide +kernel
theorem d_X2_loaded_34 : decode b_X2_loaded 34 = .ok (.aload_n 0, 1) := by decide +kernel
theorem d_X2_loaded_35 : decode b_X2_loaded 35 = .ok (.getfield 46, 3) := by decide +kernel
theorem d_X2_loaded_38 : decode b_X2_loaded 38 = .ok (.aload_n 1, 1) := by decide +kernel
theorem d_X2_loaded_39 : decode b_X2_loaded 39 = .ok (.getfield 149, 3) := by decide +kernel
theorem d_X2_loaded_42 : decode b_X2_loaded 42 = .ok (.iconst 1, 1) := by decide +kernel
theorem d_X2_loaded_43 : decode b_X2_loaded 43 = .ok (.if_icmp .ne 8, 3) := by decide +kernel
theorem d_X2_loaded_46 : decode b_X2_loaded 46 = .ok (.bipush 8, 2) := by decide +kernel
theorem d_X2_loaded_48 : decode b_X2_loaded 48 = .ok (.goto 4, 3) := by decide +kernel
theorem d_X2_loaded_51 : decode b_X2_loaded 51 = .ok (.iconst 5, 1) := by decide +kernel
theorem d_X2_loaded_52 : decode b_X2_loaded 52 = .ok (.aload_n 1, 1) := by decide +kernel
theorem d_X2_loaded_53 : decode b_X2_loaded 53 = .ok (.getfield 159, 3) := by decide +kernel
theorem d_X2_loaded_56 : decode b_X2_loaded 56 = .ok (.iconst 0, 1) := by decide +kernel
theorem d_X2_loaded_57 : decode b_X2_loaded 57 = .ok (.iconst 0, 1) := by decide +kernel
theorem d_X2_loaded_58 : decode b_X2_loaded 58 = .ok (.invokevirtual 155, 3) := by decide +kernel
theorem d_X2_loaded_61 : decode b_X2_loaded 61 = .ok (.pop, 1) := by decide +kernel
theorem d_X2_loaded_62 : decode b_X2_loaded 62 = .ok (.aload_n 1, 1) := by decide +kernel
theorem d_X2_loaded_63 : decode b_X2_loaded 63 = .ok (.iconst 0, 1) := by decide +kernel
theorem d_X2_loaded_64 : decode b_X2_loaded 64 = .ok (.putfield 149, 3) := by decide +kernel
theorem d_X2_loaded_67 : decode b_X2_loaded 67 = .ok (.aload_n 1, 1) := by decide +kernel
theorem d_X2_loaded_68 : decode b_X2_loaded 68 = .ok (.areturn, 1) := by decide +kernel
theorem d_X6_isPlace_0 : decode b_X6_isPlace 0 = .ok (.aload_n 0, 1) := by decide +kernel
theorem d_X6_isPlace_1 : decode b_X6_isPlace 1 = .ok (.getfield 11, 3) := by decide +kernel
theorem d_X6_isPlace_4 : decode b_X6_isPlace 4 = .ok (.iconst 1, 1) := by decide +kernel
theorem d_X6_isPlace_5 : decode b_X6_isPlace 5 = .ok (.if_icmp .eq 19, 3) := by decide +kernel
theorem d_X6_isPlace_8 : decode b_X6_isPlace 8 = .ok (.aload_n 0, 1) := by decide +kernel
theorem d_X6_isPlace_9 : decode b_X6_isPlace 9 = .ok (.getfield 11, 3) := by decide +kernel
theorem d_X6_isPlace_12 : decode b_X6_isPlace 12 = .ok (.iconst 2, 1) := by decide +kernel
theorem d_X6_isPlace_13 : decode b_X6_isPlace 13 = .ok (.if_icmp .eq 11, 3) := by decide +kernel
theorem d_X6_isPlace_16 : decode b_X6_isPlace 16 = .ok (.aload_n 0, 1) := by decide +kernel
theorem d_X6_isPlace_17 : decode b_X6_isPlace 17 = .ok (.getfield 11, 3) := by decide +kernel
theorem d_X6_isPlace_20 : decode b_X6_isPlace 20 = .ok (.iconst 3, 1) := by decide +kernel
theorem d_X6_isPlace_21 : decode b_X6_isPlace 21 = .ok (.if_icmp .ne 7, 3) := by decide +kernel
theorem d_X6_isPlace_24 : decode b_X6_isPlace 24 = .ok (.iconst 1, 1) := by decide +kernel
theorem d_X6_isPlace_25 : decode b_X6_isPlace 25 = .ok (.goto 4, 3) := by decide +kernel
theorem d_X6_isPlace_28 : decode b_X6_isPlace 28 = .ok (.iconst 0, 1) := by decide +kernel
theorem d_X6_isPlace_29 : decode b_X6_isPlace 29 = .ok (.ireturn, 1) := by decide +kernel
theorem d_X6_fits_0 : decode b_X6_fits 0 = .ok (.aload_n 0, 1) := by decide +kernel
theorem d_X6_fits_1 : decode b_X6_fits 1 = .ok (.getfield 15, 3) := by decide +kernel
theorem d_X6_fits_4 : decode b_X6_fits 4 = .ok (.iload_n 1, 1) := by decide +kernel
theorem d_X6_fits_5 : decode b_X6_fits 5 = .ok (.if_icmp .ne 8, 3) := by decide +kernel
theorem d_X6_fits_8 : decode b_X6_fits 8 = .ok (.iload_n 1, 1) := by decide +kernel
theorem d_X6_fits_9 : decode b_X6_fits 9 = .ok (.iconst (-1), 1) := by decide +kernel
theorem d_X6_fits_10 : decode b_X6_fits 10 = .ok (.if_icmp .ne 14, 3) := by decide +kernel
theorem d_X6_fits_13 : decode b_X6_fits 13 = .ok (.iload_n 1, 1) := by decide +kernel
theorem d_X6_fits_14 : decode b_X6_fits 14 = .ok (.ifCond .le 14, 3) := by decide +kernel
theorem d_X6_fits_17 : decode b_X6_fits 17 = .ok (.aload_n 0, 1) := by decide +kernel
theorem d_X6_fits_18 : decode b_X6_fits 18 = .ok (.getfield 21, 3) := by decide +kernel
theorem d_X6_fits_21 : decode b_X6_fits 21 = .ok (.ifCond .eq 7, 3) := by decide +kernel
theorem d_X6_fits_24 : decode b_X6_fits 24 = .ok (.iconst 1, 1) := by decide +kernel
theorem d_X6_fits_25 : decode b_X6_fits 25 = .ok (.goto 4, 3) := by decide +kernel
theorem d_X6_fits_28 : decode b_X6_fits 28 = .ok (.iconst 0, 1) := by decide +kernel
theorem d_X6_fits_29 : decode b_X6_fits 29 = .ok (.ireturn, 1) := by decide +kernel
theorem d_X2_call_0 : decode b_X2_call 0 = .ok (.aload_n 0, 1) := by decide +kernel
theorem d_X2_call_1 : decode b_X2_call 1 = .ok (.invokevirtual 104, 3) := by decide +kernel
theorem d_X2_call_4 : decode b_X2_call 4 = .ok (.astore_n 2, 1) := by decide +kernel
theorem d_X2_call_5 : decode b_X2_call 5 = .ok (.aload_n 2, 1) := by decide +kernel
theorem d_X2_call_6 : decode b_X2_call 6 = .ok (.getfield 275, 3) := by decide +kernel
theorem d_X2_call_9 : decode b_X2_call 9 = .ok (.ifCond .ne 27, 3) := by decide +kernel
theorem d_X2_call_12 : decode b_X2_call 12 = .ok (.aload_n 2, 1) := by decide +kernel
theorem d_X2_call_13 : decode b_X2_call 13 = .ok (.getfield 262, 3) := by decide +kernel
theorem d_X2_call_16 : decode b_X2_call 16 = .ok (.aload_n 0, 1) := by decide +kernel
theorem d_X2_call_17 : decode b_X2_call 17 = .ok (.getfield 45, 3) := by decide +kernel
theorem d_X2_call_20 : decode b_X2_call 20 = .ok (.getfield 242, 3) := by decide +kernel
theorem d_X2_call_23 : decode b_X2_call 23 = .ok (.aload_n 2, 1) := by decide +kernel
theorem d_X2_call_24 : decode b_X2_call 24 = .ok (.getfield 159, 3) := by decide +kernel
theorem d_X2_call_27 : decode b_X2_call 27 = .ok (.invokestatic 56, 3) := by decide +kernel
theorem d_X2_call_30 : decode b_X2_call 30 = .ok (.invokestatic 265, 3) := by decide +kernel
theorem d_X2_call_33 : decode b_X2_call 33 = .ok (.if_icmp .eq 8, 3) := by decide +kernel
theorem d_X2_call_36 : decode b_X2_call 36 = .ok (.aload_n 0, 1) := by decide +kernel
theorem d_X2_call_37 : decode b_X2_call 37 = .ok (.iload_n 1, 1) := by decide +kernel
theorem d_X2_call_38 : decode b_X2_call 38 = .ok (.invokevirtual 219, 3) := by decide +kernel
theorem d_X2_call_41 : decode b_X2_call 41 = .ok (.aload_n 0, 1) := by decide +kernel
theorem d_X2_call_42 : decode b_X2_call 42 = .ok (.getfield 46, 3) := by decide +kernel
theorem d_X2_call_45 : decode b_X2_call 45 = .ok (.bipush 32, 2) := by decide +kernel
theorem d_X2_call_47 : decode b_X2_call 47 = .ok (.aload_n 2, 1) := by decide +kernel
theorem d_X2_call_48 : decode b_X2_call 48 = .ok (.getfield 159, 3) := by decide +kernel
theorem d_X2_call_51 : decode b_X2_call 51 = .ok (.aload_n 0, 1) := by decide +kernel
theorem d_X2_call_52 : decode b_X2_call 52 = .ok (.iload_n 1, 1) := by decide +kernel
theorem d_X2_call_53 : decode b_X2_call 53 = .ok (.invokevirtual 278, 3) := by decide +kernel
theorem d_X2_call_56 : decode b_X2_call 56 = .ok (.iconst 0, 1) := by decide +kernel
theorem d_X2_call_57 : decode b_X2_call 57 = .ok (.invokevirtual 155, 3) := by decide +kernel
theorem d_X2_call_60 : decode b_X2_call 60 = .ok (.pop, 1) := by decide +kernel
theorem d_X2_call_61 : decode b_X2_call 61 = .ok (.aload_n 2, 1) := by decide +kernel
theorem d_X2_call_62 : decode b_X2_call 62 = .ok (.aload_n 2, 1) := by decide +kernel
theorem d_X2_call_63 : decode b_X2_call 63 = .ok (.getfield 233, 3) := by decide +kernel
theorem d_X2_call_66 : decode b_X2_call 66 = .ok (.iconst 0, 1) := by decide +kernel
theorem d_X2_call_67 : decode b_X2_call 67 = .ok (.invokevirtual 199, 3) := by decide +kernel
theorem d_X2_call_70 : decode b_X2_call 70 = .ok (.aload_n 0, 1) := by decide +kernel
theorem d_X2_call_71 : decode b_X2_call 71 = .ok (.aload_n 2, 1) := by decide +kernel
theorem d_X2_call_72 : decode b_X2_call 72 = .ok (.aload_n 2, 1) := by decide +kernel
theorem d_X2_call_73 : decode b_X2_call 73 = .ok (.getfield 161, 3) := by decide +kernel
theorem d_X2_call_76 : decode b_X2_call 76 = .ok (.iconst 1, 1) := by decide +kernel
theorem d_X2_call_77 : decode b_X2_call 77 = .ok (.iadd, 1) := by decide +kernel
theorem d_X2_call_78 : decode b_X2_call 78 = .ok (.iload_n 1, 1) := by decide +kernel
theorem d_X2_call_79 : decode b_X2_call 79 = .ok (.invokevirtual 281, 3) := by decide +kernel
theorem d_X2_call_82 : decode b_X2_call 82 = .ok (.return_, 1) := by decide +kernel
theorem d_X2_lineOf_0 : decode b_X2_lineOf 0 = .ok (.aload_n 0, 1) := by decide +kernel
theorem d_X2_lineOf_1 : decode b_X2_lineOf 1 = .ok (.getfield 36, 3) := by decide +kernel
theorem d_X2_lineOf_4 : decode b_X2_lineOf 4 = .ok (.getfield 134, 3) := by decide +kernel
theorem d_X2_lineOf_7 : decode b_X2_lineOf 7 = .ok (.iload_n 1, 1) := by decide +kernel
theorem d_X2_lineOf_8 : decode b_X2_lineOf 8 = .ok (.invokestatic 56, 3) := by decide +kernel
theorem d_X2_lineOf_11 : decode b_X2_lineOf 11 = .ok (.ireturn, 1) := by decide +kernel
theorem d_X2_raise_0 : decode b_X2_raise 0 = .ok (.aload_n 1, 1) := by decide +kernel
theorem d_X2_raise_1 : decode b_X2_raise 1 = .ok (.iload_n 2, 1) := by decide +kernel
theorem d_X2_raise_2 : decode b_X2_raise 2 = .ok (.putfield 161, 3) := by decide +kernel
theorem d_X2_raise_5 : decode b_X2_raise 5 = .ok (.iload_n 2, 1) := by decide +kernel
theorem d_X2_raise_6 : decode b_X2_raise 6 = .ok (.bipush 60, 2) := by decide +kernel
theorem d_X2_raise_8 : decode b_X2_raise 8 = .ok (.if_icmp .le 12, 3) := by decide +kernel
theorem d_X2_raise_11 : decode b_X2_raise 11 = .ok (.aload_n 0, 1) := by decide +kernel
theorem d_X2_raise_12 : decode b_X2_raise 12 = .ok (.getfield 37, 3) := by decide +kernel
theorem d_X2_raise_15 : decode b_X2_raise 15 = .ok (.iconst 4, 1) := by decide +kernel
theorem d_X2_raise_16 : decode b_X2_raise 16 = .ok (.iload_n 3, 1) := by decide +kernel
theorem d_X2_raise_17 : decode b_X2_raise 17 = .ok (.invokevirtual 164, 3) := by decide +kernel
theorem d_X2_raise_20 : decode b_X2_raise 20 = .ok (.return_, 1) := by decide +kernel
theorem d_X2_left_0 : decode b_X2_left 0 = .ok (.aload_n 0, 1) := by decide +kernel
theorem d_X2_left_1 : decode b_X2_left 1 = .ok (.iload_n 1, 1) := by decide +kernel
theorem d_X2_left_2 : decode b_X2_left 2 = .ok (.invokevirtual 285, 3) := by decide +kernel
theorem d_X2_left_5 : decode b_X2_left 5 = .ok (.istore_n 2, 1) := by decide +kernel
theorem d_X2_left_6 : decode b_X2_left 6 = .ok (.aload_n 0, 1) := by decide +kernel
theorem d_X2_left_7 : decode b_X2_left 7 = .ok (.invokevirtual 104, 3) := by decide +kernel
theorem d_X2_left_10 : decode b_X2_left 10 = .ok (.astore_n 3, 1) := by decide +kernel
theorem d_X2_left_11 : decode b_X2_left 11 = .ok (.iload_n 2, 1) := by decide +kernel
theorem d_X2_left_12 : decode b_X2_left 12 = .ok (.bipush 30, 2) := by decide +kernel
theorem d_X2_left_14 : decode b_X2_left 14 = .ok (.if_icmp .le 22, 3) := by decide +kernel
theorem d_X2_left_17 : decode b_X2_left 17 = .ok (.iload_n 2, 1) := by decide +kernel
theorem d_X2_left_18 : decode b_X2_left 18 = .ok (.bipush 40, 2) := by decide +kernel
theorem d_X2_left_20 : decode b_X2_left 20 = .ok (.if_icmp .gt 16, 3) := by decide +kernel
theorem d_X2_left_23 : decode b_X2_left 23 = .ok (.aload_n 0, 1) := by decide +kernel
theorem d_X2_left_24 : decode b_X2_left 24 = .ok (.aload_n 3, 1) := by decide +kernel
theorem d_X2_left_25 : decode b_X2_left 25 = .ok (.aload_n 0, 1) := by decide +kernel
theorem d_X2_left_26 : decode b_X2_left 26 = .ok (.iload_n 1, 1) := by decide +kernel
theorem d_X2_left_27 : decode b_X2_left 27 = .ok (.invokevirtual 278, 3) := by decide +kernel
theorem d_X2_left_30 : decode b_X2_left 30 = .ok (.invokevirtual 288, 3) := by decide +kernel
theorem d_X2_left_33 : decode b_X2_left 33 = .ok (.goto 15, 3) := by decide +kernel
theorem d_X2_left_36 : decode b_X2_left 36 = .ok (.iload_n 2, 1) := by decide +kernel
theorem d_X2_left_37 : decode b_X2_left 37 = .ok (.bipush 30, 2) := by decide +kernel
theorem d_X2_left_39 : decode b_X2_left 39 = .ok (.if_icmp .eq 9, 3) := by decide +kernel
theorem d_X2_left_42 : decode b_X2_left 42 = .ok (.aload_n 0, 1) := by decide +kernel
theorem d_X2_left_43 : decode b_X2_left 43 = .ok (.aload_n 3, 1) := by decide +kernel
theorem d_X2_left_44 : decode b_X2_left 44 = .ok (.invokevirtual 112, 3) := by decide +kernel
theorem d_X2_left_47 : decode b_X2_left 47 = .ok (.pop, 1) := by decide +kernel
theorem d_X2_left_48 : decode b_X2_left 48 = .ok (.iload_n 2, 1) := by decide +kernel
theorem d_X2_left_49 : decode b_X2_left 49 = .ok (.bipush 58, 2) := by decide +kernel
theorem d_X2_left_51 : decode b_X2_left 51 = .ok (.if_icmp .eq 9, 3) := by decide +kernel
theorem d_X2_left_54 : decode b_X2_left 54 = .ok (.iload_n 2, 1) := by decide +kernel
theorem d_X2_left_55 : decode b_X2_left 55 = .ok (.bipush 57, 2) := by decide +kernel
theorem d_X2_left_57 : decode b_X2_left 57 = .ok (.if_icmp .ne 30, 3) := by decide +kernel
theorem d_X2_left_60 : decode b_X2_left 60 = .ok (.aload_n 3, 1) := by decide +kernel
theorem d_X2_left_61 : decode b_X2_left 61 = .ok (.aload_n 0, 1) := by decide +kernel
theorem d_X2_left_62 : decode b_X2_left 62 = .ok (.getfield 46, 3) := by decide +kernel
theorem d_X2_left_65 : decode b_X2_left 65 = .ok (.iload_n 2, 1) := by decide +kernel
theorem d_X2_left_66 : decode b_X2_left 66 = .ok (.bipush 58, 2) := by decide +kernel
theorem d_X2_left_68 : decode b_X2_left 68 = .ok (.if_icmp .ne 8, 3) := by decide +kernel
theorem d_X2_left_71 : decode b_X2_left 71 = .ok (.bipush 29, 2) := by decide +kernel
theorem d_X2_left_73 : decode b_X2_left 73 = .ok (.goto 5, 3) := by decide +kernel
theorem d_X2_left_76 : decode b_X2_left 76 = .ok (.bipush 30, 2) := by decide +kernel
theorem d_X2_left_78 : decode b_X2_left 78 = .ok (.iconst (-1), 1) := by decide +kernel
theorem d_X2_left_79 : decode b_X2_left 79 = .ok (.iconst 0, 1) := by decide +kernel
theorem d_X2_left_80 : decode b_X2_left 80 = .ok (.iconst 0, 1) := by decide +kernel
theorem d_X2_left_81 : decode b_X2_left 81 = .ok (.invokevirtual 155, 3) := by decide +kernel
theorem d_X2_left_84 : decode b_X2_left 84 = .ok (.putfield 120, 3) := by decide +kernel
theorem d_X2_left_87 : decode b_X2_left 87 = .ok (.return_, 1) := by decide +kernel
theorem d_X2_kindOf_0 : decode b_X2_kindOf 0 = .ok (.aload_n 0, 1) := by decide +kernel
theorem d_X2_kindOf_1 : decode b_X2_kindOf 1 = .ok (.getfield 36, 3) := by decide +kernel
theorem d_X2_kindOf_4 : decode b_X2_kindOf 4 = .ok (.getfield 129, 3) := by decide +kernel
theorem d_X2_kindOf_7 : decode b_X2_kindOf 7 = .ok (.iload_n 1, 1) := by decide +kernel
theorem d_X2_kindOf_8 : decode b_X2_kindOf 8 = .ok (.invokestatic 56, 3) := by decide +kernel
theorem d_X2_kindOf_11 : decode b_X2_kindOf 11 = .ok (.ireturn, 1) := by decide +kernel
theorem d_X2_fetch_0 : decode b_X2_fetch 0 = .ok (.aload_n 1, 1) := by decide +kernel
theorem d_X2_fetch_1 : decode b_X2_fetch 1 = .ok (.getfield 149, 3) := by decide +kernel
theorem d_X2_fetch_4 : decode b_X2_fetch 4 = .ok (.iconst 3, 1) := by decide +kernel
theorem d_X2_fetch_5 : decode b_X2_fetch 5 = .ok (.if_icmp .ne 19, 3) := by decide +kernel
theorem d_X2_fetch_8 : decode b_X2_fetch 8 = .ok (.aload_n 0, 1) := by decide +kernel
theorem d_X2_fetch_9 : decode b_X2_fetch 9 = .ok (.getfield 46, 3) := by decide +kernel
theorem d_X2_fetch_12 : decode b_X2_fetch 12 = .ok (.bipush 21, 2) := by decide +kernel
theorem d_X2_fetch_14 : decode b_X2_fetch 14 = .ok (.iload_n 2, 1) := by decide +kernel
theorem d_X2_fetch_15 : decode b_X2_fetch 15 = .ok (.iconst 0, 1) := by decide +kernel
theorem d_X2_fetch_16 : decode b_X2_fetch 16 = .ok (.iconst 0, 1) := by decide +kernel
theorem d_X2_fetch_17 : decode b_X2_fetch 17 = .ok (.invokevirtual 155, 3) := by decide +kernel
theorem d_X2_fetch_20 : decode b_X2_fetch 20 = .ok (.pop, 1) := by decide +kernel
theorem d_X2_fetch_21 : decode b_X2_fetch 21 = .ok (.goto 38, 3) := by decide +kernel
theorem d_X2_fetch_24 : decode b_X2_fetch 24 = .ok (.aload_n 1, 1) := by decide +kernel
theorem d_X2_fetch_25 : decode b_X2_fetch 25 = .ok (.invokevirtual 145, 3) := by decide +kernel
theorem d_X2_fetch_28 : decode b_X2_fetch 28 = .ok (.ifCond .eq 31, 3) := by decide +kernel
theorem d_X2_fetch_31 : decode b_X2_fetch 31 = .ok (.aload_n 0, 1) := by decide +kernel
theorem d_X2_fetch_32 : decode b_X2_fetch 32 = .ok (.getfield 46, 3) := by decide +kernel
theorem d_X2_fetch_35 : decode b_X2_fetch 35 = .ok (.aload_n 1, 1) := by decide +kernel
theorem d_X2_fetch_36 : decode b_X2_fetch 36 = .ok (.getfield 149, 3) := by decide +kernel
theorem d_X2_fetch_39 : decode b_X2_fetch 39 = .ok (.iconst 1, 1) := by decide +kernel
theorem d_X2_fetch_40 : decode b_X2_fetch 40 = .ok (.if_icmp .ne 8, 3) := by decide +kernel
theorem d_X2_fetch_43 : decode b_X2_fetch 43 = .ok (.bipush 8, 2) := by decide +kernel
theorem d_X2_fetch_45 : decode b_X2_fetch 45 = .ok (.goto 4, 3) := by decide +kernel
theorem d_X2_fetch_48 : decode b_X2_fetch 48 = .ok (.iconst 5, 1) := by decide +kernel
theorem d_X2_fetch_49 : decode b_X2_fetch 49 = .ok (.aload_n 1, 1) := by decide +kernel
theorem d_X2_fetch_50 : decode b_X2_fetch 50 = .ok (.getfield 159, 3) := by decide +kernel
theorem d_X2_fetch_53 : decode b_X2_fetch 53 = .ok (.iconst 0, 1) := by decide +kernel
theorem d_X2_fetch_54 : decode b_X2_fetch 54 = .ok (.iconst 0, 1) := by decide +kernel
theorem d_X2_fetch_55 : decode b_X2_fetch 55 = .ok (.invokevirtual 155, 3) := by decide +kernel
theorem d_X2_fetch_58 : decode b_X2_fetch 58 = .ok (.pop, 1) := by decide +kernel
theorem d_X2_fetch_59 : decode b_X2_fetch 59 = .ok (.return_, 1) := by decide +kernel
theorem d_X2_binary_0 : decode b_X2_binary 0 = .ok (.aload_n 0, 1) := by decide +kernel
theorem d_X2_binary_1 : decode b_X2_binary 1 = .ok (.iload_n 1, 1) := by decide +kernel
theorem d_X2_binary_2 : decode b_X2_binary 2 = .ok (.invokevirtual 285, 3) := by decide +kernel
theorem d_X2_binary_5 : decode b_X2_binary 5 = .ok (.istore_n 2, 1) := by decide +kernel
theorem d_X2_binary_6 : decode b_X2_binary 6 = .ok (.aload_n 0, 1) := by decide +kernel
theorem d_X2_binary_7 : decode b_X2_binary 7 = .ok (.invokevirtual 259, 3) := by decide +kernel
theorem d_X2_binary_10 : decode b_X2_binary 10 = .ok (.astore_n 3, 1) := by decide +kernel
theorem d_X2_binary_11 : decode b_X2_binary 11 = .ok (.aload_n 0, 1) := by decide +kernel
theorem d_X2_binary_12 : decode b_X2_binary 12 = .ok (.invokevirtual 104, 3) := by decide +kernel
theorem d_X2_binary_15 : decode b_X2_binary 15 = .ok (.astore 4, 2) := by decide +kernel
theorem d_X2_binary_17 : decode b_X2_binary 17 = .ok (.iload_n 2, 1) := by decide +kernel
theorem d_X2_binary_18 : decode b_X2_binary 18 = .ok (.aload 4, 2) := by decide +kernel
theorem d_X2_binary_20 : decode b_X2_binary 20 = .ok (.aload_n 3, 1) := by decide +kernel
theorem d_X2_binary_21 : decode b_X2_binary 21 = .ok (.invokestatic 292, 3) := by decide +kernel
theorem d_X2_binary_24 : decode b_X2_binary 24 = .ok (.istore 5, 2) := by decide +kernel
theorem d_X2_binary_26 : decode b_X2_binary 26 = .ok (.iload 5, 2) := by decide +kernel
theorem d_X2_binary_28 : decode b_X2_binary 28 = .ok (.bipush (-2), 2) := by decide +kernel
theorem d_X2_binary_30 : decode b_X2_binary 30 = .ok (.if_icmp .ne 8, 3) := by decide +kernel
theorem d_X2_binary_33 : decode b_X2_binary 33 = .ok (.aload_n 0, 1) := by decide +kernel
theorem d_X2_binary_34 : decode b_X2_binary 34 = .ok (.iload_n 1, 1) := by decide +kernel
theorem d_X2_binary_35 : decode b_X2_binary 35 = .ok (.invokevirtual 219, 3) := by decide +kernel
theorem d_X2_binary_38 : decode b_X2_binary 38 = .ok (.iload_n 2, 1) := by decide +kernel
theorem d_X2_binary_39 : decode b_X2_binary 39 = .ok (.bipush 58, 2) := by decide +kernel
theorem d_X2_binary_41 : decode b_X2_binary 41 = .ok (.if_icmp .eq 9, 3) := by decide +kernel
theorem d_X2_binary_44 : decode b_X2_binary 44 = .ok (.iload_n 2, 1) := by decide +kernel
theorem d_X2_binary_45 : decode b_X2_binary 45 = .ok (.bipush 57, 2) := by decide +kernel
theorem d_X2_binary_47 : decode b_X2_binary 47 = .ok (.if_icmp .ne 38, 3) := by decide +kernel
theorem d_X2_binary_50 : decode b_X2_binary 50 = .ok (.aload_n 0, 1) := by decide +kernel
theorem d_X2_binary_51 : decode b_X2_binary 51 = .ok (.getfield 46, 3) := by decide +kernel
theorem d_X2_binary_54 : decode b_X2_binary 54 = .ok (.bipush 25, 2) := by decide +kernel
theorem d_X2_binary_56 : decode b_X2_binary 56 = .ok (.iconst 0, 1) := by decide +kernel
theorem d_X2_binary_57 : decode b_X2_binary 57 = .ok (.iconst 0, 1) := by decide +kernel
theorem d_X2_binary_58 : decode b_X2_binary 58 = .ok (.iconst 0, 1) := by decide +kernel
theorem d_X2_binary_59 : decode b_X2_binary 59 = .ok (.invokevirtual 155, 3) := by decide +kernel
theorem d_X2_binary_62 : decode b_X2_binary 62 = .ok (.pop, 1) := by decide +kernel
theorem d_X2_binary_63 : decode b_X2_binary 63 = .ok (.aload_n 0, 1) := by decide +kernel
theorem d_X2_binary_64 : decode b_X2_binary 64 = .ok (.getfield 46, 3) := by decide +kernel
theorem d_X2_binary_67 : decode b_X2_binary 67 = .ok (.aload 4, 2) := by decide +kernel
theorem d_X2_binary_69 : decode b_X2_binary 69 = .ok (.getfield 120, 3) := by decide +kernel
theorem d_X2_binary_72 : decode b_X2_binary 72 = .ok (.aload_n 0, 1) := by decide +kernel
theorem d_X2_binary_73 : decode b_X2_binary 73 = .ok (.getfield 46, 3) := by decide +kernel
theorem d_X2_binary_76 : decode b_X2_binary 76 = .ok (.getfield 137, 3) := by decide +kernel
theorem d_X2_binary_79 : decode b_X2_binary 79 = .ok (.invokevirtual 296, 3) := by decide +kernel
theorem d_X2_binary_82 : decode b_X2_binary 82 = .ok (.goto 26, 3) := by decide +kernel
theorem d_X2_binary_85 : decode b_X2_binary 85 = .ok (.aload_n 0, 1) := by decide +kernel
theorem d_X2_binary_86 : decode b_X2_binary 86 = .ok (.iload_n 2, 1) := by decide +kernel
theorem d_X2_binary_87 : decode b_X2_binary 87 = .ok (.aload 4, 2) := by decide +kernel
theorem d_X2_binary_89 : decode b_X2_binary 89 = .ok (.getfield 233, 3) := by decide +kernel
theorem d_X2_binary_92 : decode b_X2_binary 92 = .ok (.ifCond .le 7, 3) := by decide +kernel
theorem d_X2_binary_95 : decode b_X2_binary 95 = .ok (.iconst 1, 1) := by decide +kernel
theorem d_X2_binary_96 : decode b_X2_binary 96 = .ok (.goto 4, 3) := by decide +kernel
theorem d_X2_binary_99 : decode b_X2_binary 99 = .ok (.iconst 0, 1) := by decide +kernel
theorem d_X2_binary_100 : decode b_X2_binary 100 = .ok (.aload_n 0, 1) := by decide +kernel
theorem d_X2_binary_101 : decode b_X2_binary 101 = .ok (.iload_n 1, 1) := by decide +kernel
theorem d_X2_binary_102 : decode b_X2_binary 102 = .ok (.invokevirtual 278, 3) := by decide +kernel
theorem d_X2_binary_105 : decode b_X2_binary 105 = .ok (.invokevirtual 299, 3) := by decide +kernel
theorem d_X2_binary_108 : decode b_X2_binary 108 = .ok (.iload_n 2, 1) := by decide +kernel
theorem d_X2_binary_109 : decode b_X2_binary 109 = .ok (.aload 4, 2) := by decide +kernel
theorem d_X2_binary_111 : decode b_X2_binary 111 = .ok (.aload_n 3, 1) := by decide +kernel
theorem d_X2_binary_112 : decode b_X2_binary 112 = .ok (.invokestatic 303, 3) := by decide +kernel
theorem d_X2_binary_115 : decode b_X2_binary 115 = .ok (.aload 4, 2) := by decide +kernel
theorem d_X2_binary_117 : decode b_X2_binary 117 = .ok (.iload 5, 2) := by decide +kernel
theorem d_X2_binary_119 : decode b_X2_binary 119 = .ok (.aload 4, 2) := by decide +kernel
theorem d_X2_binary_121 : decode b_X2_binary 121 = .ok (.getfield 170, 3) := by decide +kernel
theorem d_X2_binary_124 : decode b_X2_binary 124 = .ok (.invokevirtual 199, 3) := by decide +kernel
theorem d_X2_binary_127 : decode b_X2_binary 127 = .ok (.aload_n 0, 1) := by decide +kernel
theorem d_X2_binary_128 : decode b_X2_binary 128 = .ok (.aload 4, 2) := by decide +kernel
theorem d_X2_binary_130 : decode b_X2_binary 130 = .ok (.invokevirtual 307, 3) := by decide +kernel
theorem d_X2_binary_133 : decode b_X2_binary 133 = .ok (.aload_n 0, 1) := by decide +kernel
theorem d_X2_binary_134 : decode b_X2_binary 134 = .ok (.aload 4, 2) := by decide +kernel
theorem d_X2_binary_136 : decode b_X2_binary 136 = .ok (.iconst 1, 1) := by decide +kernel
theorem d_X2_binary_137 : decode b_X2_binary 137 = .ok (.aload 4, 2) := by decide +kernel
theorem d_X2_binary_139 : decode b_X2_binary 139 = .ok (.getfield 161, 3) := by decide +kernel
theorem d_X2_binary_142 : decode b_X2_binary 142 = .ok (.aload_n 3, 1) := by decide +kernel
theorem d_X2_binary_143 : decode b_X2_binary 143 = .ok (.getfield 161, 3) := by decide +kernel
theorem d_X2_binary_146 : decode b_X2_binary 146 = .ok (.invokestatic 222, 3) := by decide +kernel
theorem d_X2_binary_149 : decode b_X2_binary 149 = .ok (.iadd, 1) := by decide +kernel
theorem d_X2_binary_150 : decode b_X2_binary 150 = .ok (.iload_n 1, 1) := by decide +kernel
theorem d_X2_binary_151 : decode b_X2_binary 151 = .ok (.invokevirtual 281, 3) := by decide +kernel
theorem d_X2_binary_154 : decode b_X2_binary 154 = .ok (.return_, 1) := by decide +kernel
theorem d_X2_typeOf_0 : decode b_X2_typeOf 0 = .ok (.aload_n 1, 1) := by decide +kernel
theorem d_X2_typeOf_1 : decode b_X2_typeOf 1 = .ok (.getfield 233, 3) := by decide +kernel
theorem d_X2_typeOf_4 : decode b_X2_typeOf 4 = .ok (.iconst (-1), 1) := by decide +kernel
theorem d_X2_typeOf_5 : decode b_X2_typeOf 5 = .ok (.if_icmp .eq 11, 3) := by decide +kernel
theorem d_X2_typeOf_8 : decode b_X2_typeOf 8 = .ok (.aload_n 2, 1) := by decide +kernel
theorem d_X2_typeOf_9 : decode b_X2_typeOf 9 = .ok (.getfield 233, 3) := by decide +kernel
theorem d_X2_typeOf_12 : decode b_X2_typeOf 12 = .ok (.iconst (-1), 1) := by decide +kernel
theorem d_X2_typeOf_13 : decode b_X2_typeOf 13 = .ok (.if_icmp .ne 6, 3) := by decide +kernel
theorem d_X2_typeOf_16 : decode b_X2_typeOf 16 = .ok (.bipush (-2), 2) := by decide +kernel
theorem d_X2_typeOf_18 : decode b_X2_typeOf 18 = .ok (.ireturn, 1) := by decide +kernel
theorem d_X2_typeOf_19 : decode b_X2_typeOf 19 = .ok (.aload_n 1, 1) := by decide +kernel
theorem d_X2_typeOf_20 : decode b_X2_typeOf 20 = .ok (.getfield 233, 3) := by decide +kernel
theorem d_X2_typeOf_23 : decode b_X2_typeOf 23 = .ok (.aload_n 2, 1) := by decide +kernel
theorem d_X2_typeOf_24 : decode b_X2_typeOf 24 = .ok (.getfield 233, 3) := by decide +kernel
theorem d_X2_typeOf_27 : decode b_X2_typeOf 27 = .ok (.if_icmp .ne 7, 3) := by decide +kernel
theorem d_X2_typeOf_30 : decode b_X2_typeOf 30 = .ok (.iconst 1, 1) := by decide +kernel
theorem d_X2_typeOf_31 : decode b_X2_typeOf 31 = .ok (.goto 4, 3) := by decide +kernel
theorem d_X2_typeOf_34 : decode b_X2_typeOf 34 = .ok (.iconst 0, 1) := by decide +kernel
theorem d_X2_typeOf_35 : decode b_X2_typeOf 35 = .ok (.istore_n 3, 1) := by decide +kernel
theorem d_X2_typeOf_36 : decode b_X2_typeOf 36 = .ok (.iload_n 0, 1) := by decide +kernel
theorem d_X2_typeOf_37 : decode b_X2_typeOf 37 = .ok (.tableswitch 177 43 58 #[121, 152, 177, 177, 177, 177, 177, 177, 81, 81, 110, 110, 110, 110, 79, 79], 79) := by decide +kernel
theorem d_X2_typeOf_116 : decode b_X2_typeOf 116 = .ok (.iconst 0, 1) := by decide +kernel
theorem d_X2_typeOf_117 : decode b_X2_typeOf 117 = .ok (.ireturn, 1) := by decide +kernel
theorem d_X2_typeOf_118 : decode b_X2_typeOf 118 = .ok (.aload_n 1, 1) := by decide +kernel
theorem d_X2_typeOf_119 : decode b_X2_typeOf 119 = .ok (.aload_n 2, 1) := by decide +kernel
theorem d_X2_typeOf_120 : decode b_X2_typeOf 120 = .ok (.getfield 233, 3) := by decide +kernel
theorem d_X2_typeOf_123 : decode b_X2_typeOf 123 = .ok (.invokevirtual 271, 3) := by decide +kernel
theorem d_X2_typeOf_126 : decode b_X2_typeOf 126 = .ok (.ifCond .ne 14, 3) := by decide +kernel
theorem d_X2_typeOf_129 : decode b_X2_typeOf 129 = .ok (.aload_n 2, 1) := by decide +kernel
theorem d_X2_typeOf_130 : decode b_X2_typeOf 130 = .ok (.aload_n 1, 1) := by decide +kernel
theorem d_X2_typeOf_131 : decode b_X2_typeOf 131 = .ok (.getfield 233, 3) := by decide +kernel
theorem d_X2_typeOf_134 : decode b_X2_typeOf 134 = .ok (.invokevirtual 271, 3) := by decide +kernel
theorem d_X2_typeOf_137 : decode b_X2_typeOf 137 = .ok (.ifCond .eq 7, 3) := by decide +kernel
theorem d_X2_typeOf_140 : decode b_X2_typeOf 140 = .ok (.iconst 0, 1) := by decide +kernel
theorem d_X2_typeOf_141 : decode b_X2_typeOf 141 = .ok (.goto 5, 3) := by decide +kernel
theorem d_X2_typeOf_144 : decode b_X2_typeOf 144 = .ok (.bipush (-2), 2) := by decide +kernel
theorem d_X2_typeOf_146 : decode b_X2_typeOf 146 = .ok (.ireturn, 1) := by decide +kernel
theorem d_X2_typeOf_147 : decode b_X2_typeOf 147 = .ok (.iload_n 3, 1) := by decide +kernel
theorem d_X2_typeOf_148 : decode b_X2_typeOf 148 = .ok (.ifCond .eq 7, 3) := by decide +kernel
theorem d_X2_typeOf_151 : decode b_X2_typeOf 151 = .ok (.iconst 0, 1) := by decide +kernel
theorem d_X2_typeOf_152 : decode b_X2_typeOf 152 = .ok (.goto 5, 3) := by decide +kernel
theorem d_X2_typeOf_155 : decode b_X2_typeOf 155 = .ok (.bipush (-2), 2) := by decide +kernel
theorem d_X2_typeOf_157 : decode b_X2_typeOf 157 = .ok (.ireturn, 1) := by decide +kernel
theorem d_X2_typeOf_158 : decode b_X2_typeOf 158 = .ok (.aload_n 2, 1) := by decide +kernel
theorem d_X2_typeOf_159 : decode b_X2_typeOf 159 = .ok (.getfield 233, 3) := by decide +kernel
theorem d_X2_typeOf_162 : decode b_X2_typeOf 162 = .ok (.ifCond .ne 10, 3) := by decide +kernel
theorem d_X2_typeOf_165 : decode b_X2_typeOf 165 = .ok (.aload_n 1, 1) := by decide +kernel
theorem d_X2_typeOf_166 : decode b_X2_typeOf 166 = .ok (.getfield 233, 3) := by decide +kernel
theorem d_X2_typeOf_169 : decode b_X2_typeOf 169 = .ok (.goto 19, 3) := by decide +kernel
theorem d_X2_typeOf_172 : decode b_X2_typeOf 172 = .ok (.aload_n 1, 1) := by decide +kernel
theorem d_X2_typeOf_173 : decode b_X2_typeOf 173 = .ok (.getfield 233, 3) := by decide +kernel
theorem d_X2_typeOf_176 : decode b_X2_typeOf 176 = .ok (.ifCond .ne 10, 3) := by decide +kernel
theorem d_X2_typeOf_179 : decode b_X2_typeOf 179 = .ok (.aload_n 2, 1) := by decide +kernel
theorem d_X2_typeOf_180 : decode b_X2_typeOf 180 = .ok (.getfield 233, 3) := by decide +kernel
theorem d_X2_typeOf_183 : decode b_X2_typeOf 183 = .ok (.goto 5, 3) := by decide +kernel
theorem d_X2_typeOf_186 : decode b_X2_typeOf 186 = .ok (.bipush (-2), 2) := by decide +kernel
theorem d_X2_typeOf_188 : decode b_X2_typeOf 188 = .ok (.ireturn, 1) := by decide +kernel
theorem d_X2_typeOf_189 : decode b_X2_typeOf 189 = .ok (.aload_n 2, 1) := by decide +kernel
theorem d_X2_typeOf_190 : decode b_X2_typeOf 190 = .ok (.getfield 233, 3) := by decide +kernel
theorem d_X2_typeOf_193 : decode b_X2_typeOf 193 = .ok (.ifCond .ne 10, 3) := by decide +kernel
theorem d_X2_typeOf_196 : decode b_X2_typeOf 196 = .ok (.aload_n 1, 1) := by decide +kernel
theorem d_X2_typeOf_197 : decode b_X2_typeOf 197 = .ok (.getfield 233, 3) := by decide +kernel
theorem d_X2_typeOf_200 : decode b_X2_typeOf 200 = .ok (.goto 13, 3) := by decide +kernel
theorem d_X2_typeOf_203 : decode b_X2_typeOf 203 = .ok (.iload_n 3, 1) := by decide +kernel
theorem d_X2_typeOf_204 : decode b_X2_typeOf 204 = .ok (.ifCond .eq 7, 3) := by decide +kernel
theorem d_X2_typeOf_207 : decode b_X2_typeOf 207 = .ok (.iconst 0, 1) := by decide +kernel
theorem d_X2_typeOf_208 : decode b_X2_typeOf 208 = .ok (.goto 5, 3) := by decide +kernel
theorem d_X2_typeOf_211 : decode b_X2_typeOf 211 = .ok (.bipush (-2), 2) := by decide +kernel
theorem d_X2_typeOf_213 : decode b_X2_typeOf 213 = .ok (.ireturn, 1) := by decide +kernel
theorem d_X2_typeOf_214 : decode b_X2_typeOf 214 = .ok (.iload_n 3, 1) := by decide +kernel
theorem d_X2_typeOf_215 : decode b_X2_typeOf 215 = .ok (.ifCond .eq 14, 3) := by decide +kernel
theorem d_X2_typeOf_218 : decode b_X2_typeOf 218 = .ok (.aload_n 1, 1) := by decide +kernel
theorem d_X2_typeOf_219 : decode b_X2_typeOf 219 = .ok (.getfield 233, 3) := by decide +kernel
theorem d_X2_typeOf_222 : decode b_X2_typeOf 222 = .ok (.ifCond .ne 7, 3) := by decide +kernel
theorem d_X2_typeOf_225 : decode b_X2_typeOf 225 = .ok (.iconst 0, 1) := by decide +kernel
theorem d_X2_typeOf_226 : decode b_X2_typeOf 226 = .ok (.goto 5, 3) := by decide +kernel
theorem d_X2_typeOf_229 : decode b_X2_typeOf 229 = .ok (.bipush (-2), 2) := by decide +kernel
theorem d_X2_typeOf_231 : decode b_X2_typeOf 231 = .ok (.ireturn, 1) := by decide +kernel
theorem d_X0_aim_0 : decode b_X0_aim 0 = .ok (.iload_n 1, 1) := by decide +kernel
theorem d_X0_aim_1 : decode b_X0_aim 1 = .ok (.istore_n 3, 1) := by decide +kernel
theorem d_X0_aim_2 : decode b_X0_aim 2 = .ok (.aload_n 0, 1) := by decide +kernel
theorem d_X0_aim_3 : decode b_X0_aim 3 = .ok (.getfield 18, 3) := by decide +kernel
theorem d_X0_aim_6 : decode b_X0_aim 6 = .ok (.istore 4, 2) := by decide +kernel
theorem d_X0_aim_8 : decode b_X0_aim 8 = .ok (.iload 4, 2) := by decide +kernel
theorem d_X0_aim_10 : decode b_X0_aim 10 = .ok (.ifCond .le 39, 3) := by decide +kernel
theorem d_X0_aim_13 : decode b_X0_aim 13 = .ok (.iload_n 3, 1) := by decide +kernel
theorem d_X0_aim_14 : decode b_X0_aim 14 = .ok (.ifCond .lt 35, 3) := by decide +kernel
theorem d_X0_aim_17 : decode b_X0_aim 17 = .ok (.aload_n 0, 1) := by decide +kernel
theorem d_X0_aim_18 : decode b_X0_aim 18 = .ok (.getfield 14, 3) := by decide +kernel
theorem d_X0_aim_21 : decode b_X0_aim 21 = .ok (.iload_n 3, 1) := by decide +kernel
theorem d_X0_aim_22 : decode b_X0_aim 22 = .ok (.iconst 1, 1) := by decide +kernel
theorem d_X0_aim_23 : decode b_X0_aim 23 = .ok (.iadd, 1) := by decide +kernel
theorem d_X0_aim_24 : decode b_X0_aim 24 = .ok (.invokestatic 31, 3) := by decide +kernel
theorem d_X0_aim_27 : decode b_X0_aim 27 = .ok (.istore 5, 2) := by decide +kernel
theorem d_X0_aim_29 : decode b_X0_aim 29 = .ok (.aload_n 0, 1) := by decide +kernel
theorem d_X0_aim_30 : decode b_X0_aim 30 = .ok (.getfield 14, 3) := by decide +kernel
theorem d_X0_aim_33 : decode b_X0_aim 33 = .ok (.iload_n 3, 1) := by decide +kernel
theorem d_X0_aim_34 : decode b_X0_aim 34 = .ok (.iconst 1, 1) := by decide +kernel
theorem d_X0_aim_35 : decode b_X0_aim 35 = .ok (.iadd, 1) := by decide +kernel
theorem d_X0_aim_36 : decode b_X0_aim 36 = .ok (.iload_n 2, 1) := by decide +kernel
theorem d_X0_aim_37 : decode b_X0_aim 37 = .ok (.invokestatic 35, 3) := by decide +kernel
theorem d_X0_aim_40 : decode b_X0_aim 40 = .ok (.iload 5, 2) := by decide +kernel
theorem d_X0_aim_42 : decode b_X0_aim 42 = .ok (.istore_n 3, 1) := by decide +kernel
theorem d_X0_aim_43 : decode b_X0_aim 43 = .ok (.iinc 4 (-1), 3) := by decide +kernel
theorem d_X0_aim_46 : decode b_X0_aim 46 = .ok (.goto (-38), 3) := by decide +kernel
theorem d_X0_aim_49 : decode b_X0_aim 49 = .ok (.return_, 1) := by decide +kernel
theorem d_X2_operate_0 : decode b_X2_operate 0 = .ok (.iload_n 2, 1) := by decide +kernel
theorem d_X2_operate_1 : decode b_X2_operate 1 = .ok (.ifCond .eq 19, 3) := by decide +kernel
theorem d_X2_operate_4 : decode b_X2_operate 4 = .ok (.iload_n 1, 1) := by decide +kernel
theorem d_X2_operate_5 : decode b_X2_operate 5 = .ok (.bipush 53, 2) := by decide +kernel
theorem d_X2_operate_7 : decode b_X2_operate 7 = .ok (.if_icmp .lt 13, 3) := by decide +kernel
theorem d_X2_operate_10 : decode b_X2_operate 10 = .ok (.iload_n 1, 1) := by decide +kernel
theorem d_X2_operate_11 : decode b_X2_operate 11 = .ok (.bipush 56, 2) := by decide +kernel
theorem d_X2_operate_13 : decode b_X2_operate 13 = .ok (.if_icmp .gt 7, 3) := by decide +kernel
theorem d_X2_operate_16 : decode b_X2_operate 16 = .ok (.iconst 1, 1) := by decide +kernel
theorem d_X2_operate_17 : decode b_X2_operate 17 = .ok (.goto 4, 3) := by decide +kernel
theorem d_X2_operate_20 : decode b_X2_operate 20 = .ok (.iconst 0, 1) := by decide +kernel
theorem d_X2_operate_21 : decode b_X2_operate 21 = .ok (.istore 4, 2) := by decide +kernel
theorem d_X2_operate_23 : decode b_X2_operate 23 = .ok (.aload_n 0, 1) := by decide +kernel
theorem d_X2_operate_24 : decode b_X2_operate 24 = .ok (.getfield 46, 3) := by decide +kernel
theorem d_X2_operate_27 : decode b_X2_operate 27 = .ok (.iload 4, 2) := by decide +kernel
theorem d_X2_operate_29 : decode b_X2_operate 29 = .ok (.ifCond .eq 9, 3) := by decide +kernel
theorem d_X2_operate_32 : decode b_X2_operate 32 = .ok (.iload_n 1, 1) := by decide +kernel
theorem d_X2_operate_33 : decode b_X2_operate 33 = .ok (.iconst 4, 1) := by decide +kernel
theorem d_X2_operate_34 : decode b_X2_operate 34 = .ok (.iadd, 1) := by decide +kernel
theorem d_X2_operate_35 : decode b_X2_operate 35 = .ok (.goto 4, 3) := by decide +kernel
theorem d_X2_operate_38 : decode b_X2_operate 38 = .ok (.iload_n 1, 1) := by decide +kernel
theorem d_X2_operate_39 : decode b_X2_operate 39 = .ok (.iload_n 3, 1) := by decide +kernel
theorem d_X2_operate_40 : decode b_X2_operate 40 = .ok (.iconst 0, 1) := by decide +kernel
theorem d_X2_operate_41 : decode b_X2_operate 41 = .ok (.iconst 0, 1) := by decide +kernel
theorem d_X2_operate_42 : decode b_X2_operate 42 = .ok (.invokevirtual 155, 3) := by decide +kernel
theorem d_X2_operate_45 : decode b_X2_operate 45 = .ok (.pop, 1) := by decide +kernel
theorem d_X2_operate_46 : decode b_X2_operate 46 = .ok (.return_, 1) := by decide +kernel
theorem d_X2_combine_0 : decode b_X2_combine 0 = .ok (.iload_n 0, 1) := by decide +kernel
theorem d_X2_combine_1 : decode b_X2_combine 1 = .ok (.bipush 46, 2) := by decide +kernel
theorem d_X2_combine_3 : decode b_X2_combine 3 = .ok (.if_icmp .eq 9, 3) := by decide +kernel
theorem d_X2_combine_6 : decode b_X2_combine 6 = .ok (.iload_n 0, 1) := by decide +kernel
theorem d_X2_combine_7 : decode b_X2_combine 7 = .ok (.bipush 47, 2) := by decide +kernel
theorem d_X2_combine_9 : decode b_X2_combine 9 = .ok (.if_icmp .ne 14, 3) := by decide +kernel
theorem d_X2_combine_12 : decode b_X2_combine 12 = .ok (.aload_n 2, 1) := by decide +kernel
theorem d_X2_combine_13 : decode b_X2_combine 13 = .ok (.getfield 176, 3) := by decide +kernel
theorem d_X2_combine_16 : decode b_X2_combine 16 = .ok (.ifCond .ne 7, 3) := by decide +kernel
theorem d_X2_combine_19 : decode b_X2_combine 19 = .ok (.iconst 1, 1) := by decide +kernel
theorem d_X2_combine_20 : decode b_X2_combine 20 = .ok (.goto 4, 3) := by decide +kernel
theorem d_X2_combine_23 : decode b_X2_combine 23 = .ok (.iconst 0, 1) := by decide +kernel
theorem d_X2_combine_24 : decode b_X2_combine 24 = .ok (.istore_n 3, 1) := by decide +kernel
theorem d_X2_combine_25 : decode b_X2_combine 25 = .ok (.iload_n 0, 1) := by decide +kernel
theorem d_X2_combine_26 : decode b_X2_combine 26 = .ok (.bipush 43, 2) := by decide +kernel
theorem d_X2_combine_28 : decode b_X2_combine 28 = .ok (.if_icmp .eq 9, 3) := by decide +kernel
theorem d_X2_combine_31 : decode b_X2_combine 31 = .ok (.iload_n 0, 1) := by decide +kernel
theorem d_X2_combine_32 : decode b_X2_combine 32 = .ok (.bipush 44, 2) := by decide +kernel
theorem d_X2_combine_34 : decode b_X2_combine 34 = .ok (.if_icmp .ne 7, 3) := by decide +kernel
theorem d_X2_combine_37 : decode b_X2_combine 37 = .ok (.iconst 1, 1) := by decide +kernel
theorem d_X2_combine_38 : decode b_X2_combine 38 = .ok (.goto 4, 3) := by decide +kernel
theorem d_X2_combine_41 : decode b_X2_combine 41 = .ok (.iconst 0, 1) := by decide +kernel
theorem d_X2_combine_42 : decode b_X2_combine 42 = .ok (.istore 4, 2) := by decide +kernel
theorem d_X2_combine_44 : decode b_X2_combine 44 = .ok (.aload_n 1, 1) := by decide +kernel
theorem d_X2_combine_45 : decode b_X2_combine 45 = .ok (.invokevirtual 310, 3) := by decide +kernel
theorem d_X2_combine_48 : decode b_X2_combine 48 = .ok (.ifCond .eq 39, 3) := by decide +kernel
theorem d_X2_combine_51 : decode b_X2_combine 51 = .ok (.aload_n 2, 1) := by decide +kernel
theorem d_X2_combine_52 : decode b_X2_combine 52 = .ok (.invokevirtual 310, 3) := by decide +kernel
theorem d_X2_combine_55 : decode b_X2_combine 55 = .ok (.ifCond .eq 32, 3) := by decide +kernel
theorem d_X2_combine_58 : decode b_X2_combine 58 = .ok (.iload_n 0, 1) := by decide +kernel
theorem d_X2_combine_59 : decode b_X2_combine 59 = .ok (.bipush 57, 2) := by decide +kernel
theorem d_X2_combine_61 : decode b_X2_combine 61 = .ok (.if_icmp .ge 26, 3) := by decide +kernel
theorem d_X2_combine_64 : decode b_X2_combine 64 = .ok (.iload_n 3, 1) := by decide +kernel
theorem d_X2_combine_65 : decode b_X2_combine 65 = .ok (.ifCond .ne 22, 3) := by decide +kernel
theorem d_X2_combine_68 : decode b_X2_combine 68 = .ok (.aload_n 1, 1) := by decide +kernel
theorem d_X2_combine_69 : decode b_X2_combine 69 = .ok (.iload_n 0, 1) := by decide +kernel
theorem d_X2_combine_70 : decode b_X2_combine 70 = .ok (.aload_n 1, 1) := by decide +kernel
theorem d_X2_combine_71 : decode b_X2_combine 71 = .ok (.getfield 176, 3) := by decide +kernel
theorem d_X2_combine_74 : decode b_X2_combine 74 = .ok (.aload_n 2, 1) := by decide +kernel
theorem d_X2_combine_75 : decode b_X2_combine 75 = .ok (.getfield 176, 3) := by decide +kernel
theorem d_X2_combine_78 : decode b_X2_combine 78 = .ok (.invokestatic 313, 3) := by decide +kernel
theorem d_X2_combine_81 : decode b_X2_combine 81 = .ok (.putfield 176, 3) := by decide +kernel
theorem d_X2_combine_84 : decode b_X2_combine 84 = .ok (.goto 97, 3) := by decide +kernel
theorem d_X2_combine_87 : decode b_X2_combine 87 = .ok (.iload 4, 2) := by decide +kernel
theorem d_X2_combine_89 : decode b_X2_combine 89 = .ok (.ifCond .eq 37, 3) := by decide +kernel
theorem d_X2_combine_92 : decode b_X2_combine 92 = .ok (.aload_n 1, 1) := by decide +kernel
theorem d_X2_combine_93 : decode b_X2_combine 93 = .ok (.getfield 170, 3) := by decide +kernel
theorem d_X2_combine_96 : decode b_X2_combine 96 = .ok (.iconst 2, 1) := by decide +kernel
theorem d_X2_combine_97 : decode b_X2_combine 97 = .ok (.if_icmp .ne 29, 3) := by decide +kernel
theorem d_X2_combine_100 : decode b_X2_combine 100 = .ok (.aload_n 2, 1) := by decide +kernel
theorem d_X2_combine_101 : decode b_X2_combine 101 = .ok (.invokevirtual 310, 3) := by decide +kernel
theorem d_X2_combine_104 : decode b_X2_combine 104 = .ok (.ifCond .eq 22, 3) := by decide +kernel
theorem d_X2_combine_107 : decode b_X2_combine 107 = .ok (.aload_n 1, 1) := by decide +kernel
theorem d_X2_combine_108 : decode b_X2_combine 108 = .ok (.iload_n 0, 1) := by decide +kernel
theorem d_X2_combine_109 : decode b_X2_combine 109 = .ok (.aload_n 1, 1) := by decide +kernel
theorem d_X2_combine_110 : decode b_X2_combine 110 = .ok (.getfield 176, 3) := by decide +kernel
theorem d_X2_combine_113 : decode b_X2_combine 113 = .ok (.aload_n 2, 1) := by decide +kernel
theorem d_X2_combine_114 : decode b_X2_combine 114 = .ok (.getfield 176, 3) := by decide +kernel
theorem d_X2_combine_117 : decode b_X2_combine 117 = .ok (.invokestatic 313, 3) := by decide +kernel
theorem d_X2_combine_120 : decode b_X2_combine 120 = .ok (.putfield 176, 3) := by decide +kernel
theorem d_X2_combine_123 : decode b_X2_combine 123 = .ok (.goto 58, 3) := by decide +kernel
theorem d_X2_combine_126 : decode b_X2_combine 126 = .ok (.iload_n 0, 1) := by decide +kernel
theorem d_X2_combine_127 : decode b_X2_combine 127 = .ok (.bipush 43, 2) := by decide +kernel
theorem d_X2_combine_129 : decode b_X2_combine 129 = .ok (.if_icmp .ne 47, 3) := by decide +kernel
theorem d_X2_combine_132 : decode b_X2_combine 132 = .ok (.aload_n 1, 1) := by decide +kernel
theorem d_X2_combine_133 : decode b_X2_combine 133 = .ok (.invokevirtual 310, 3) := by decide +kernel
theorem d_X2_combine_136 : decode b_X2_combine 136 = .ok (.ifCond .eq 40, 3) := by decide +kernel
theorem d_X2_combine_139 : decode b_X2_combine 139 = .ok (.aload_n 2, 1) := by decide +kernel
theorem d_X2_combine_140 : decode b_X2_combine 140 = .ok (.getfield 170, 3) := by decide +kernel
theorem d_X2_combine_143 : decode b_X2_combine 143 = .ok (.iconst 2, 1) := by decide +kernel
theorem d_X2_combine_144 : decode b_X2_combine 144 = .ok (.if_icmp .ne 32, 3) := by decide +kernel
theorem d_X2_combine_147 : decode b_X2_combine 147 = .ok (.aload_n 1, 1) := by decide +kernel
theorem d_X2_combine_148 : decode b_X2_combine 148 = .ok (.iconst 2, 1) := by decide +kernel
theorem d_X2_combine_149 : decode b_X2_combine 149 = .ok (.putfield 170, 3) := by decide +kernel
theorem d_X2_combine_152 : decode b_X2_combine 152 = .ok (.aload_n 1, 1) := by decide +kernel
theorem d_X2_combine_153 : decode b_X2_combine 153 = .ok (.aload_n 2, 1) := by decide +kernel
theorem d_X2_combine_154 : decode b_X2_combine 154 = .ok (.getfield 202, 3) := by decide +kernel
theorem d_X2_combine_157 : decode b_X2_combine 157 = .ok (.putfield 202, 3) := by decide +kernel
theorem d_X2_combine_160 : decode b_X2_combine 160 = .ok (.aload_n 1, 1) := by decide +kernel
theorem d_X2_combine_161 : decode b_X2_combine 161 = .ok (.dup, 1) := by decide +kernel
theorem d_X2_combine_162 : decode b_X2_combine 162 = .ok (.getfield 176, 3) := by decide +kernel
theorem d_X2_combine_165 : decode b_X2_combine 165 = .ok (.aload_n 2, 1) := by decide +kernel
theorem d_X2_combine_166 : decode b_X2_combine 166 = .ok (.getfield 176, 3) := by decide +kernel
theorem d_X2_combine_169 : decode b_X2_combine 169 = .ok (.iadd, 1) := by decide +kernel
theorem d_X2_combine_170 : decode b_X2_combine 170 = .ok (.putfield 176, 3) := by decide +kernel
theorem d_X2_combine_173 : decode b_X2_combine 173 = .ok (.goto 8, 3) := by decide +kernel
theorem d_X2_combine_176 : decode b_X2_combine 176 = .ok (.aload_n 1, 1) := by decide +kernel
theorem d_X2_combine_177 : decode b_X2_combine 177 = .ok (.iconst 0, 1) := by decide +kernel
theorem d_X2_combine_178 : decode b_X2_combine 178 = .ok (.putfield 170, 3) := by decide +kernel
theorem d_X2_combine_181 : decode b_X2_combine 181 = .ok (.return_, 1) := by decide +kernel
theorem d_X6_isConstant_0 : decode b_X6_isConstant 0 = .ok (.aload_n 0, 1) := by decide +kernel
theorem d_X6_isConstant_1 : decode b_X6_isConstant 1 = .ok (.getfield 31, 3) := by decide +kernel
theorem d_X6_isConstant_4 : decode b_X6_isConstant 4 = .ok (.iconst 1, 1) := by decide +kernel
theorem d_X6_isConstant_5 : decode b_X6_isConstant 5 = .ok (.if_icmp .ne 7, 3) := by decide +kernel
theorem d_X6_isConstant_8 : decode b_X6_isConstant 8 = .ok (.iconst 1, 1) := by decide +kernel
theorem d_X6_isConstant_9 : decode b_X6_isConstant 9 = .ok (.goto 4, 3) := by decide +kernel
theorem d_X6_isConstant_12 : decode b_X6_isConstant 12 = .ok (.iconst 0, 1) := by decide +kernel
theorem d_X6_isConstant_13 : decode b_X6_isConstant 13 = .ok (.ireturn, 1) := by decide +kernel
theorem d_X5_worked_0 : decode b_X5_worked 0 = .ok (.iload_n 0, 1) := by decide +kernel
theorem d_X5_worked_1 : decode b_X5_worked 1 = .ok (.tableswitch 117 41 50 #[55, 62, 69, 73, 77, 81, 93, 105, 109, 113], 55) := by decide +kernel
theorem d_X5_worked_56 : decode b_X5_worked 56 = .ok (.iload_n 1, 1) := by decide +kernel
theorem d_X5_worked_57 : decode b_X5_worked 57 = .ok (.iload_n 2, 1) := by decide +kernel
theorem d_X5_worked_58 : decode b_X5_worked 58 = .ok (.bipush 31, 2) := by decide +kernel
theorem d_X5_worked_60 : decode b_X5_worked 60 = .ok (.iand, 1) := by decide +kernel
theorem d_X5_worked_61 : decode b_X5_worked 61 = .ok (.ishl, 1) := by decide +kernel
theorem d_X5_worked_62 : decode b_X5_worked 62 = .ok (.ireturn, 1) := by decide +kernel
theorem d_X5_worked_63 : decode b_X5_worked 63 = .ok (.iload_n 1, 1) := by decide +kernel
theorem d_X5_worked_64 : decode b_X5_worked 64 = .ok (.iload_n 2, 1) := by decide +kernel
theorem d_X5_worked_65 : decode b_X5_worked 65 = .ok (.bipush 31, 2) := by decide +kernel
theorem d_X5_worked_67 : decode b_X5_worked 67 = .ok (.iand, 1) := by decide +kernel
theorem d_X5_worked_68 : decode b_X5_worked 68 = .ok (.ishr, 1) := by decide +kernel
theorem d_X5_worked_69 : decode b_X5_worked 69 = .ok (.ireturn, 1) := by decide +kernel
theorem d_X5_worked_70 : decode b_X5_worked 70 = .ok (.iload_n 1, 1) := by decide +kernel
theorem d_X5_worked_71 : decode b_X5_worked 71 = .ok (.iload_n 2, 1) := by decide +kernel
theorem d_X5_worked_72 : decode b_X5_worked 72 = .ok (.iadd, 1) := by decide +kernel
theorem d_X5_worked_73 : decode b_X5_worked 73 = .ok (.ireturn, 1) := by decide +kernel
theorem d_X5_worked_74 : decode b_X5_worked 74 = .ok (.iload_n 1, 1) := by decide +kernel
theorem d_X5_worked_75 : decode b_X5_worked 75 = .ok (.iload_n 2, 1) := by decide +kernel
theorem d_X5_worked_76 : decode b_X5_worked 76 = .ok (.isub, 1) := by decide +kernel
theorem d_X5_worked_77 : decode b_X5_worked 77 = .ok (.ireturn, 1) := by decide +kernel
theorem d_X5_worked_78 : decode b_X5_worked 78 = .ok (.iload_n 1, 1) := by decide +kernel
theorem d_X5_worked_79 : decode b_X5_worked 79 = .ok (.iload_n 2, 1) := by decide +kernel
theorem d_X5_worked_80 : decode b_X5_worked 80 = .ok (.imul, 1) := by decide +kernel
theorem d_X5_worked_81 : decode b_X5_worked 81 = .ok (.ireturn, 1) := by decide +kernel
theorem d_X5_worked_82 : decode b_X5_worked 82 = .ok (.iload_n 2, 1) := by decide +kernel
theorem d_X5_worked_83 : decode b_X5_worked 83 = .ok (.ifCond .ne 7, 3) := by decide +kernel
theorem d_X5_worked_86 : decode b_X5_worked 86 = .ok (.iconst 0, 1) := by decide +kernel
theorem d_X5_worked_87 : decode b_X5_worked 87 = .ok (.goto 6, 3) := by decide +kernel
theorem d_X5_worked_90 : decode b_X5_worked 90 = .ok (.iload_n 1, 1) := by decide +kernel
theorem d_X5_worked_91 : decode b_X5_worked 91 = .ok (.iload_n 2, 1) := by decide +kernel
theorem d_X5_worked_92 : decode b_X5_worked 92 = .ok (.idiv, 1) := by decide +kernel
theorem d_X5_worked_93 : decode b_X5_worked 93 = .ok (.ireturn, 1) := by decide +kernel
theorem d_X5_worked_94 : decode b_X5_worked 94 = .ok (.iload_n 2, 1) := by decide +kernel
theorem d_X5_worked_95 : decode b_X5_worked 95 = .ok (.ifCond .ne 7, 3) := by decide +kernel
theorem d_X5_worked_98 : decode b_X5_worked 98 = .ok (.iconst 0, 1) := by decide +kernel
theorem d_X5_worked_99 : decode b_X5_worked 99 = .ok (.goto 6, 3) := by decide +kernel
theorem d_X5_worked_102 : decode b_X5_worked 102 = .ok (.iload_n 1, 1) := by decide +kernel
theorem d_X5_worked_103 : decode b_X5_worked 103 = .ok (.iload_n 2, 1) := by decide +kernel
theorem d_X5_worked_104 : decode b_X5_worked 104 = .ok (.irem, 1) := by decide +kernel
theorem d_X5_worked_105 : decode b_X5_worked 105 = .ok (.ireturn, 1) := by decide +kernel
theorem d_X5_worked_106 : decode b_X5_worked 106 = .ok (.iload_n 1, 1) := by decide +kernel
theorem d_X5_worked_107 : decode b_X5_worked 107 = .ok (.iload_n 2, 1) := by decide +kernel
theorem d_X5_worked_108 : decode b_X5_worked 108 = .ok (.iand, 1) := by decide +kernel
theorem d_X5_worked_109 : decode b_X5_worked 109 = .ok (.ireturn, 1) := by decide +kernel
theorem d_X5_worked_110 : decode b_X5_worked 110 = .ok (.iload_n 1, 1) := by decide +kernel
theorem d_X5_worked_111 : decode b_X5_worked 111 = .ok (.iload_n 2, 1) := by decide +kernel
theorem d_X5_worked_112 : decode b_X5_worked 112 = .ok (.ior, 1) := by decide +kernel
theorem d_X5_worked_113 : decode b_X5_worked 113 = .ok (.ireturn, 1) := by decide +kernel
theorem d_X5_worked_114 : decode b_X5_worked 114 = .ok (.iload_n 1, 1) := by decide +kernel
theorem d_X5_worked_115 : decode b_X5_worked 115 = .ok (.iload_n 2, 1) := by decide +kernel
theorem d_X5_worked_116 : decode b_X5_worked 116 = .ok (.ixor, 1) := by decide +kernel
theorem d_X5_worked_117 : decode b_X5_worked 117 = .ok (.ireturn, 1) := by decide +kernel
theorem d_X5_worked_118 : decode b_X5_worked 118 = .ok (.iload_n 0, 1) := by decide +kernel
theorem d_X5_worked_119 : decode b_X5_worked 119 = .ok (.iload_n 1, 1) := by decide +kernel
theorem d_X5_worked_120 : decode b_X5_worked 120 = .ok (.iload_n 2, 1) := by decide +kernel
theorem d_X5_worked_121 : decode b_X5_worked 121 = .ok (.invokestatic 164, 3) := by decide +kernel
theorem d_X5_worked_124 : decode b_X5_worked 124 = .ok (.ifCond .eq 7, 3) := by decide +kernel
theorem d_X5_worked_127 : decode b_X5_worked 127 = .ok (.iconst 1, 1) := by decide +kernel
theorem d_X5_worked_128 : decode b_X5_worked 128 = .ok (.goto 4, 3) := by decide +kernel
theorem d_X5_worked_131 : decode b_X5_worked 131 = .ok (.iconst 0, 1) := by decide +kernel
theorem d_X5_worked_132 : decode b_X5_worked 132 = .ok (.ireturn, 1) := by decide +kernel
theorem d_X5_compared_0 : decode b_X5_compared 0 = .ok (.ldc 170, 2) := by decide +kernel
theorem d_X5_compared_2 : decode b_X5_compared 2 = .ok (.istore_n 3, 1) := by decide +kernel
theorem d_X5_compared_3 : decode b_X5_compared 3 = .ok (.iload_n 0, 1) := by decide +kernel
theorem d_X5_compared_4 : decode b_X5_compared 4 = .ok (.tableswitch 182 51 60 #[56, 67, 78, 89, 100, 111, 122, 137, 152, 167], 56) := by decide +kernel
theorem d_X5_compared_60 : decode b_X5_compared 60 = .ok (.iload_n 1, 1) := by decide +kernel
theorem d_X5_compared_61 : decode b_X5_compared 61 = .ok (.iload_n 2, 1) := by decide +kernel
theorem d_X5_compared_62 : decode b_X5_compared 62 = .ok (.if_icmp .ne 7, 3) := by decide +kernel
theorem d_X5_compared_65 : decode b_X5_compared 65 = .ok (.iconst 1, 1) := by decide +kernel
theorem d_X5_compared_66 : decode b_X5_compared 66 = .ok (.goto 4, 3) := by decide +kernel
theorem d_X5_compared_69 : decode b_X5_compared 69 = .ok (.iconst 0, 1) := by decide +kernel
theorem d_X5_compared_70 : decode b_X5_compared 70 = .ok (.ireturn, 1) := by decide +kernel
theorem d_X5_compared_71 : decode b_X5_compared 71 = .ok (.iload_n 1, 1) := by decide +kernel
theorem d_X5_compared_72 : decode b_X5_compared 72 = .ok (.iload_n 2, 1) := by decide +kernel
theorem d_X5_compared_73 : decode b_X5_compared 73 = .ok (.if_icmp .eq 7, 3) := by decide +kernel
theorem d_X5_compared_76 : decode b_X5_compared 76 = .ok (.iconst 1, 1) := by decide +kernel
theorem d_X5_compared_77 : decode b_X5_compared 77 = .ok (.goto 4, 3) := by decide +kernel
theorem d_X5_compared_80 : decode b_X5_compared 80 = .ok (.iconst 0, 1) := by decide +kernel
theorem d_X5_compared_81 : decode b_X5_compared 81 = .ok (.ireturn, 1) := by decide +kernel
theorem d_X5_compared_82 : decode b_X5_compared 82 = .ok (.iload_n 1, 1) := by decide +kernel
theorem d_X5_compared_83 : decode b_X5_compared 83 = .ok (.iload_n 2, 1) := by decide +kernel
theorem d_X5_compared_84 : decode b_X5_compared 84 = .ok (.if_icmp .ge 7, 3) := by decide +kernel
theorem d_X5_compared_87 : decode b_X5_compared 87 = .ok (.iconst 1, 1) := by decide +kernel
theorem d_X5_compared_88 : decode b_X5_compared 88 = .ok (.goto 4, 3) := by decide +kernel
theorem d_X5_compared_91 : decode b_X5_compared 91 = .ok (.iconst 0, 1) := by decide +kernel
theorem d_X5_compared_92 : decode b_X5_compared 92 = .ok (.ireturn, 1) := by decide +kernel
theorem d_X5_compared_93 : decode b_X5_compared 93 = .ok (.iload_n 1, 1) := by decide +kernel
theorem d_X5_compared_94 : decode b_X5_compared 94 = .ok (.iload_n 2, 1) := by decide +kernel
theorem d_X5_compared_95 : decode b_X5_compared 95 = .ok (.if_icmp .le 7, 3) := by decide +kernel
theorem d_X5_compared_98 : decode b_X5_compared 98 = .ok (.iconst 1, 1) := by decide +kernel
theorem d_X5_compared_99 : decode b_X5_compared 99 = .ok (.goto 4, 3) := by decide +kernel
theorem d_X5_compared_102 : decode b_X5_compared 102 = .ok (.iconst 0, 1) := by decide +kernel
theorem d_X5_compared_103 : decode b_X5_compared 103 = .ok (.ireturn, 1) := by decide +kernel
theorem d_X5_compared_104 : decode b_X5_compared 104 = .ok (.iload_n 1, 1) := by decide +kernel
theorem d_X5_compared_105 : decode b_X5_compared 105 = .ok (.iload_n 2, 1) := by decide +kernel
theorem d_X5_compared_106 : decode b_X5_compared 106 = .ok (.if_icmp .gt 7, 3) := by decide +kernel
theorem d_X5_compared_109 : decode b_X5_compared 109 = .ok (.iconst 1, 1) := by decide +kernel
theorem d_X5_compared_110 : decode b_X5_compared 110 = .ok (.goto 4, 3) := by decide +kernel
theorem d_X5_compared_113 : decode b_X5_compared 113 = .ok (.iconst 0, 1) := by decide +kernel
theorem d_X5_compared_114 : decode b_X5_compared 114 = .ok (.ireturn, 1) := by decide +kernel
theorem d_X5_compared_115 : decode b_X5_compared 115 = .ok (.iload_n 1, 1) := by decide +kernel
theorem d_X5_compared_116 : decode b_X5_compared 116 = .ok (.iload_n 2, 1) := by decide +kernel
theorem d_X5_compared_117 : decode b_X5_compared 117 = .ok (.if_icmp .lt 7, 3) := by decide +kernel
theorem d_X5_compared_120 : decode b_X5_compared 120 = .ok (.iconst 1, 1) := by decide +kernel
theorem d_X5_compared_121 : decode b_X5_compared 121 = .ok (.goto 4, 3) := by decide +kernel
theorem d_X5_compared_124 : decode b_X5_compared 124 = .ok (.iconst 0, 1) := by decide +kernel
theorem d_X5_compared_125 : decode b_X5_compared 125 = .ok (.ireturn, 1) := by decide +kernel
theorem d_X5_compared_126 : decode b_X5_compared 126 = .ok (.iload_n 1, 1) := by decide +kernel
theorem d_X5_compared_127 : decode b_X5_compared 127 = .ok (.iload_n 3, 1) := by decide +kernel
theorem d_X5_compared_128 : decode b_X5_compared 128 = .ok (.iadd, 1) := by decide +kernel
theorem d_X5_compared_129 : decode b_X5_compared 129 = .ok (.iload_n 2, 1) := by decide +kernel
theorem d_X5_compared_130 : decode b_X5_compared 130 = .ok (.iload_n 3, 1) := by decide +kernel
theorem d_X5_compared_131 : decode b_X5_compared 131 = .ok (.iadd, 1) := by decide +kernel
theorem d_X5_compared_132 : decode b_X5_compared 132 = .ok (.if_icmp .ge 7, 3) := by decide +kernel
theorem d_X5_compared_135 : decode b_X5_compared 135 = .ok (.iconst 1, 1) := by decide +kernel
theorem d_X5_compared_136 : decode b_X5_compared 136 = .ok (.goto 4, 3) := by decide +kernel
theorem d_X5_compared_139 : decode b_X5_compared 139 = .ok (.iconst 0, 1) := by decide +kernel
theorem d_X5_compared_140 : decode b_X5_compared 140 = .ok (.ireturn, 1) := by decide +kernel
theorem d_X5_compared_141 : decode b_X5_compared 141 = .ok (.iload_n 1, 1) := by decide +kernel
theorem d_X5_compared_142 : decode b_X5_compared 142 = .ok (.iload_n 3, 1) := by decide +kernel
theorem d_X5_compared_143 : decode b_X5_compared 143 = .ok (.iadd, 1) := by decide +kernel
theorem d_X5_compared_144 : decode b_X5_compared 144 = .ok (.iload_n 2, 1) := by decide +kernel
theorem d_X5_compared_145 : decode b_X5_compared 145 = .ok (.iload_n 3, 1) := by decide +kernel
theorem d_X5_compared_146 : decode b_X5_compared 146 = .ok (.iadd, 1) := by decide +kernel
theorem d_X5_compared_147 : decode b_X5_compared 147 = .ok (.if_icmp .le 7, 3) := by decide +kernel
theorem d_X5_compared_150 : decode b_X5_compared 150 = .ok (.iconst 1, 1) := by decide +kernel
theorem d_X5_compared_151 : decode b_X5_compared 151 = .ok (.goto 4, 3) := by decide +kernel
theorem d_X5_compared_154 : decode b_X5_compared 154 = .ok (.iconst 0, 1) := by decide +kernel
theorem d_X5_compared_155 : decode b_X5_compared 155 = .ok (.ireturn, 1) := by decide +kernel
theorem d_X5_compared_156 : decode b_X5_compared 156 = .ok (.iload_n 1, 1) := by decide +kernel
theorem d_X5_compared_157 : decode b_X5_compared 157 = .ok (.iload_n 3, 1) := by decide +kernel
theorem d_X5_compared_158 : decode b_X5_compared 158 = .ok (.iadd, 1) := by decide +kernel
theorem d_X5_compared_159 : decode b_X5_compared 159 = .ok (.iload_n 2, 1) := by decide +kernel
theorem d_X5_compared_160 : decode b_X5_compared 160 = .ok (.iload_n 3, 1) := by decide +kernel
theorem d_X5_compared_161 : decode b_X5_compared 161 = .ok (.iadd, 1) := by decide +kernel
theorem d_X5_compared_162 : decode b_X5_compared 162 = .ok (.if_icmp .gt 7, 3) := by decide +kernel
theorem d_X5_compared_165 : decode b_X5_compared 165 = .ok (.iconst 1, 1) := by decide +kernel
theorem d_X5_compared_166 : decode b_X5_compared 166 = .ok (.goto 4, 3) := by decide +kernel
theorem d_X5_compared_169 : decode b_X5_compared 169 = .ok (.iconst 0, 1) := by decide +kernel
theorem d_X5_compared_170 : decode b_X5_compared 170 = .ok (.ireturn, 1) := by decide +kernel
theorem d_X5_compared_171 : decode b_X5_compared 171 = .ok (.iload_n 1, 1) := by decide +kernel
theorem d_X5_compared_172 : decode b_X5_compared 172 = .ok (.iload_n 3, 1) := by decide +kernel
theorem d_X5_compared_173 : decode b_X5_compared 173 = .ok (.iadd, 1) := by decide +kernel
theorem d_X5_compared_174 : decode b_X5_compared 174 = .ok (.iload_n 2, 1) := by decide +kernel
theorem d_X5_compared_175 : decode b_X5_compared 175 = .ok (.iload_n 3, 1) := by decide +kernel
theorem d_X5_compared_176 : decode b_X5_compared 176 = .ok (.iadd, 1) := by decide +kernel
theorem d_X5_compared_177 : decode b_X5_compared 177 = .ok (.if_icmp .lt 7, 3) := by decide +kernel
theorem d_X5_compared_180 : decode b_X5_compared 180 = .ok (.iconst 1, 1) := by decide +kernel
theorem d_X5_compared_181 : decode b_X5_compared 181 = .ok (.goto 4, 3) := by decide +kernel
theorem d_X5_compared_184 : decode b_X5_compared 184 = .ok (.iconst 0, 1) := by decide +kernel
theorem d_X5_compared_185 : decode b_X5_compared 185 = .ok (.ireturn, 1) := by decide +kernel
theorem d_X5_compared_186 : decode b_X5_compared 186 = .ok (.iconst 0, 1) := by decide +kernel
theorem d_X5_compared_187 : decode b_X5_compared 187 = .ok (.ireturn, 1) := by decide +kernel
theorem d_X2_fold_0 : decode b_X2_fold 0 = .ok (.aload_n 0, 1) := by decide +kernel
theorem d_X2_fold_1 : decode b_X2_fold 1 = .ok (.getfield 37, 3) := by decide +kernel
theorem d_X2_fold_4 : decode b_X2_fold 4 = .ok (.getfield 319, 3) := by decide +kernel
theorem d_X2_fold_7 : decode b_X2_fold 7 = .ok (.ifCond .le 36, 3) := by decide +kernel
theorem d_X2_fold_10 : decode b_X2_fold 10 = .ok (.aload_n 1, 1) := by decide +kernel
theorem d_X2_fold_11 : decode b_X2_fold 11 = .ok (.invokevirtual 310, 3) := by decide +kernel
theorem d_X2_fold_14 : decode b_X2_fold 14 = .ok (.ifCond .eq 29, 3) := by decide +kernel
theorem d_X2_fold_17 : decode b_X2_fold 17 = .ok (.aload_n 0, 1) := by decide +kernel
theorem d_X2_fold_18 : decode b_X2_fold 18 = .ok (.getfield 46, 3) := by decide +kernel
theorem d_X2_fold_21 : decode b_X2_fold 21 = .ok (.aload_n 1, 1) := by decide +kernel
theorem d_X2_fold_22 : decode b_X2_fold 22 = .ok (.getfield 322, 3) := by decide +kernel
theorem d_X2_fold_25 : decode b_X2_fold 25 = .ok (.invokevirtual 325, 3) := by decide +kernel
theorem d_X2_fold_28 : decode b_X2_fold 28 = .ok (.aload_n 0, 1) := by decide +kernel
theorem d_X2_fold_29 : decode b_X2_fold 29 = .ok (.getfield 46, 3) := by decide +kernel
theorem d_X2_fold_32 : decode b_X2_fold 32 = .ok (.iconst 1, 1) := by decide +kernel
theorem d_X2_fold_33 : decode b_X2_fold 33 = .ok (.aload_n 1, 1) := by decide +kernel
theorem d_X2_fold_34 : decode b_X2_fold 34 = .ok (.getfield 176, 3) := by decide +kernel
theorem d_X2_fold_37 : decode b_X2_fold 37 = .ok (.iconst 0, 1) := by decide +kernel
theorem d_X2_fold_38 : decode b_X2_fold 38 = .ok (.iconst 0, 1) := by decide +kernel
theorem d_X2_fold_39 : decode b_X2_fold 39 = .ok (.invokevirtual 155, 3) := by decide +kernel
theorem d_X2_fold_42 : decode b_X2_fold 42 = .ok (.pop, 1) := by decide +kernel
theorem d_X2_fold_43 : decode b_X2_fold 43 = .ok (.return_, 1) := by decide +kernel
theorem d_X0_cut_0 : decode b_X0_cut 0 = .ok (.aload_n 0, 1) := by decide +kernel
theorem d_X0_cut_1 : decode b_X0_cut 1 = .ok (.iload_n 1, 1) := by decide +kernel
theorem d_X0_cut_2 : decode b_X0_cut 2 = .ok (.aload_n 0, 1) := by decide +kernel
theorem d_X0_cut_3 : decode b_X0_cut 3 = .ok (.getfield 18, 3) := by decide +kernel
theorem d_X0_cut_6 : decode b_X0_cut 6 = .ok (.invokestatic 25, 3) := by decide +kernel
theorem d_X0_cut_9 : decode b_X0_cut 9 = .ok (.putfield 18, 3) := by decide +kernel
theorem d_X0_cut_12 : decode b_X0_cut 12 = .ok (.return_, 1) := by decide +kernel
theorem d_X2_assign_0 : decode b_X2_assign 0 = .ok (.aload_n 0, 1) := by decide +kernel
theorem d_X2_assign_1 : decode b_X2_assign 1 = .ok (.iload_n 1, 1) := by decide +kernel
theorem d_X2_assign_2 : decode b_X2_assign 2 = .ok (.invokevirtual 285, 3) := by decide +kernel
theorem d_X2_assign_5 : decode b_X2_assign 5 = .ok (.istore_n 2, 1) := by decide +kernel
theorem d_X2_assign_6 : decode b_X2_assign 6 = .ok (.aload_n 0, 1) := by decide +kernel
theorem d_X2_assign_7 : decode b_X2_assign 7 = .ok (.invokevirtual 259, 3) := by decide +kernel
theorem d_X2_assign_10 : decode b_X2_assign 10 = .ok (.astore_n 3, 1) := by decide +kernel
theorem d_X2_assign_11 : decode b_X2_assign 11 = .ok (.aload_n 0, 1) := by decide +kernel
theorem d_X2_assign_12 : decode b_X2_assign 12 = .ok (.invokevirtual 104, 3) := by decide +kernel
theorem d_X2_assign_15 : decode b_X2_assign 15 = .ok (.astore 4, 2) := by decide +kernel
theorem d_X2_assign_17 : decode b_X2_assign 17 = .ok (.iload_n 2, 1) := by decide +kernel
theorem d_X2_assign_18 : decode b_X2_assign 18 = .ok (.bipush 33, 2) := by decide +kernel
theorem d_X2_assign_20 : decode b_X2_assign 20 = .ok (.if_icmp .eq 9, 3) := by decide +kernel
theorem d_X2_assign_23 : decode b_X2_assign 23 = .ok (.iload_n 2, 1) := by decide +kernel
theorem d_X2_assign_24 : decode b_X2_assign 24 = .ok (.bipush 34, 2) := by decide +kernel
theorem d_X2_assign_26 : decode b_X2_assign 26 = .ok (.if_icmp .ne 7, 3) := by decide +kernel
theorem d_X2_assign_29 : decode b_X2_assign 29 = .ok (.iconst 1, 1) := by decide +kernel
theorem d_X2_assign_30 : decode b_X2_assign 30 = .ok (.goto 4, 3) := by decide +kernel
theorem d_X2_assign_33 : decode b_X2_assign 33 = .ok (.iconst 0, 1) := by decide +kernel
theorem d_X2_assign_34 : decode b_X2_assign 34 = .ok (.istore 5, 2) := by decide +kernel
theorem d_X2_assign_36 : decode b_X2_assign 36 = .ok (.iload_n 2, 1) := by decide +kernel
theorem d_X2_assign_37 : decode b_X2_assign 37 = .ok (.bipush 30, 2) := by decide +kernel
theorem d_X2_assign_39 : decode b_X2_assign 39 = .ok (.if_icmp .ne 15, 3) := by decide +kernel
theorem d_X2_assign_42 : decode b_X2_assign 42 = .ok (.aload_n 3, 1) := by decide +kernel
theorem d_X2_assign_43 : decode b_X2_assign 43 = .ok (.aload 4, 2) := by decide +kernel
theorem d_X2_assign_45 : decode b_X2_assign 45 = .ok (.getfield 233, 3) := by decide +kernel
theorem d_X2_assign_48 : decode b_X2_assign 48 = .ok (.invokevirtual 271, 3) := by decide +kernel
theorem d_X2_assign_51 : decode b_X2_assign 51 = .ok (.goto 28, 3) := by decide +kernel
theorem d_X2_assign_54 : decode b_X2_assign 54 = .ok (.aload_n 3, 1) := by decide +kernel
theorem d_X2_assign_55 : decode b_X2_assign 55 = .ok (.getfield 233, 3) := by decide +kernel
theorem d_X2_assign_58 : decode b_X2_assign 58 = .ok (.ifCond .ne 20, 3) := by decide +kernel
theorem d_X2_assign_61 : decode b_X2_assign 61 = .ok (.iload 5, 2) := by decide +kernel
theorem d_X2_assign_63 : decode b_X2_assign 63 = .ok (.ifCond .ne 11, 3) := by decide +kernel
theorem d_X2_assign_66 : decode b_X2_assign 66 = .ok (.aload 4, 2) := by decide +kernel
theorem d_X2_assign_68 : decode b_X2_assign 68 = .ok (.getfield 233, 3) := by decide +kernel
theorem d_X2_assign_71 : decode b_X2_assign 71 = .ok (.ifCond .ne 7, 3) := by decide +kernel
theorem d_X2_assign_74 : decode b_X2_assign 74 = .ok (.iconst 1, 1) := by decide +kernel
theorem d_X2_assign_75 : decode b_X2_assign 75 = .ok (.goto 4, 3) := by decide +kernel
theorem d_X2_assign_78 : decode b_X2_assign 78 = .ok (.iconst 0, 1) := by decide +kernel
theorem d_X2_assign_79 : decode b_X2_assign 79 = .ok (.istore 6, 2) := by decide +kernel
theorem d_X2_assign_81 : decode b_X2_assign 81 = .ok (.aload 4, 2) := by decide +kernel
theorem d_X2_assign_83 : decode b_X2_assign 83 = .ok (.invokevirtual 145, 3) := by decide +kernel
theorem d_X2_assign_86 : decode b_X2_assign 86 = .ok (.ifCond .eq 8, 3) := by decide +kernel
theorem d_X2_assign_89 : decode b_X2_assign 89 = .ok (.iload 6, 2) := by decide +kernel
theorem d_X2_assign_91 : decode b_X2_assign 91 = .ok (.ifCond .ne 8, 3) := by decide +kernel
theorem d_X2_assign_94 : decode b_X2_assign 94 = .ok (.aload_n 0, 1) := by decide +kernel
theorem d_X2_assign_95 : decode b_X2_assign 95 = .ok (.iload_n 1, 1) := by decide +kernel
theorem d_X2_assign_96 : decode b_X2_assign 96 = .ok (.invokevirtual 219, 3) := by decide +kernel
theorem d_X2_assign_99 : decode b_X2_assign 99 = .ok (.iload_n 2, 1) := by decide +kernel
theorem d_X2_assign_100 : decode b_X2_assign 100 = .ok (.bipush 30, 2) := by decide +kernel
theorem d_X2_assign_102 : decode b_X2_assign 102 = .ok (.if_icmp .eq 17, 3) := by decide +kernel
theorem d_X2_assign_105 : decode b_X2_assign 105 = .ok (.aload_n 0, 1) := by decide +kernel
theorem d_X2_assign_106 : decode b_X2_assign 106 = .ok (.iload_n 2, 1) := by decide +kernel
theorem d_X2_assign_107 : decode b_X2_assign 107 = .ok (.bipush 10, 2) := by decide +kernel
theorem d_X2_assign_109 : decode b_X2_assign 109 = .ok (.iadd, 1) := by decide +kernel
theorem d_X2_assign_110 : decode b_X2_assign 110 = .ok (.iconst 0, 1) := by decide +kernel
theorem d_X2_assign_111 : decode b_X2_assign 111 = .ok (.aload_n 0, 1) := by decide +kernel
theorem d_X2_assign_112 : decode b_X2_assign 112 = .ok (.iload_n 1, 1) := by decide +kernel
theorem d_X2_assign_113 : decode b_X2_assign 113 = .ok (.invokevirtual 278, 3) := by decide +kernel
theorem d_X2_assign_116 : decode b_X2_assign 116 = .ok (.invokevirtual 299, 3) := by decide +kernel
theorem d_X2_assign_119 : decode b_X2_assign 119 = .ok (.aload 4, 2) := by decide +kernel
theorem d_X2_assign_121 : decode b_X2_assign 121 = .ok (.getfield 149, 3) := by decide +kernel
theorem d_X2_assign_124 : decode b_X2_assign 124 = .ok (.iconst 3, 1) := by decide +kernel
theorem d_X2_assign_125 : decode b_X2_assign 125 = .ok (.if_icmp .ne 23, 3) := by decide +kernel
theorem d_X2_assign_128 : decode b_X2_assign 128 = .ok (.aload_n 0, 1) := by decide +kernel
theorem d_X2_assign_129 : decode b_X2_assign 129 = .ok (.getfield 46, 3) := by decide +kernel
theorem d_X2_assign_132 : decode b_X2_assign 132 = .ok (.bipush 19, 2) := by decide +kernel
theorem d_X2_assign_134 : decode b_X2_assign 134 = .ok (.aload_n 0, 1) := by decide +kernel
theorem d_X2_assign_135 : decode b_X2_assign 135 = .ok (.iload_n 1, 1) := by decide +kernel
theorem d_X2_assign_136 : decode b_X2_assign 136 = .ok (.invokevirtual 278, 3) := by decide +kernel
theorem d_X2_assign_139 : decode b_X2_assign 139 = .ok (.iconst 0, 1) := by decide +kernel
theorem d_X2_assign_140 : decode b_X2_assign 140 = .ok (.iconst 0, 1) := by decide +kernel
theorem d_X2_assign_141 : decode b_X2_assign 141 = .ok (.invokevirtual 155, 3) := by decide +kernel
theorem d_X2_assign_144 : decode b_X2_assign 144 = .ok (.pop, 1) := by decide +kernel
theorem d_X2_assign_145 : decode b_X2_assign 145 = .ok (.goto 34, 3) := by decide +kernel
theorem d_X2_assign_148 : decode b_X2_assign 148 = .ok (.aload_n 0, 1) := by decide +kernel
theorem d_X2_assign_149 : decode b_X2_assign 149 = .ok (.getfield 46, 3) := by decide +kernel
theorem d_X2_assign_152 : decode b_X2_assign 152 = .ok (.aload 4, 2) := by decide +kernel
theorem d_X2_assign_154 : decode b_X2_assign 154 = .ok (.getfield 149, 3) := by decide +kernel
theorem d_X2_assign_157 : decode b_X2_assign 157 = .ok (.iconst 1, 1) := by decide +kernel
theorem d_X2_assign_158 : decode b_X2_assign 158 = .ok (.if_icmp .ne 8, 3) := by decide +kernel
theorem d_X2_assign_161 : decode b_X2_assign 161 = .ok (.bipush 9, 2) := by decide +kernel
theorem d_X2_assign_163 : decode b_X2_assign 163 = .ok (.goto 5, 3) := by decide +kernel
theorem d_X2_assign_166 : decode b_X2_assign 166 = .ok (.bipush 6, 2) := by decide +kernel
theorem d_X2_assign_168 : decode b_X2_assign 168 = .ok (.aload 4, 2) := by decide +kernel
theorem d_X2_assign_170 : decode b_X2_assign 170 = .ok (.getfield 159, 3) := by decide +kernel
theorem d_X2_assign_173 : decode b_X2_assign 173 = .ok (.iconst 0, 1) := by decide +kernel
theorem d_X2_assign_174 : decode b_X2_assign 174 = .ok (.iconst 0, 1) := by decide +kernel
theorem d_X2_assign_175 : decode b_X2_assign 175 = .ok (.invokevirtual 155, 3) := by decide +kernel
theorem d_X2_assign_178 : decode b_X2_assign 178 = .ok (.pop, 1) := by decide +kernel
theorem d_X2_assign_179 : decode b_X2_assign 179 = .ok (.aload 4, 2) := by decide +kernel
theorem d_X2_assign_181 : decode b_X2_assign 181 = .ok (.aload 4, 2) := by decide +kernel
theorem d_X2_assign_183 : decode b_X2_assign 183 = .ok (.getfield 233, 3) := by decide +kernel
theorem d_X2_assign_186 : decode b_X2_assign 186 = .ok (.iconst 0, 1) := by decide +kernel
theorem d_X2_assign_187 : decode b_X2_assign 187 = .ok (.invokevirtual 199, 3) := by decide +kernel
theorem d_X2_assign_190 : decode b_X2_assign 190 = .ok (.aload_n 0, 1) := by decide +kernel
theorem d_X2_assign_191 : decode b_X2_assign 191 = .ok (.aload 4, 2) := by decide +kernel
theorem d_X2_assign_193 : decode b_X2_assign 193 = .ok (.iconst 1, 1) := by decide +kernel
theorem d_X2_assign_194 : decode b_X2_assign 194 = .ok (.aload 4, 2) := by decide +kernel
theorem d_X2_assign_196 : decode b_X2_assign 196 = .ok (.getfield 161, 3) := by decide +kernel
theorem d_X2_assign_199 : decode b_X2_assign 199 = .ok (.aload_n 3, 1) := by decide +kernel
theorem d_X2_assign_200 : decode b_X2_assign 200 = .ok (.getfield 161, 3) := by decide +kernel
theorem d_X2_assign_203 : decode b_X2_assign 203 = .ok (.invokestatic 222, 3) := by decide +kernel
theorem d_X2_assign_206 : decode b_X2_assign 206 = .ok (.iadd, 1) := by decide +kernel
theorem d_X2_assign_207 : decode b_X2_assign 207 = .ok (.iload_n 1, 1) := by decide +kernel
theorem d_X2_assign_208 : decode b_X2_assign 208 = .ok (.invokevirtual 281, 3) := by decide +kernel
theorem d_X2_assign_211 : decode b_X2_assign 211 = .ok (.return_, 1) := by decide +kernel
theorem d_X2_index_0 : decode b_X2_index 0 = .ok (.aload_n 0, 1) := by decide +kernel
theorem d_X2_index_1 : decode b_X2_index 1 = .ok (.invokevirtual 259, 3) := by decide +kernel
theorem d_X2_index_4 : decode b_X2_index 4 = .ok (.astore_n 2, 1) := by decide +kernel
theorem d_X2_index_5 : decode b_X2_index 5 = .ok (.aload_n 0, 1) := by decide +kernel
theorem d_X2_index_6 : decode b_X2_index 6 = .ok (.invokevirtual 104, 3) := by decide +kernel
theorem d_X2_index_9 : decode b_X2_index 9 = .ok (.astore_n 3, 1) := by decide +kernel
theorem d_X2_index_10 : decode b_X2_index 10 = .ok (.aload_n 2, 1) := by decide +kernel
theorem d_X2_index_11 : decode b_X2_index 11 = .ok (.getfield 233, 3) := by decide +kernel
theorem d_X2_index_14 : decode b_X2_index 14 = .ok (.ifCond .eq 8, 3) := by decide +kernel
theorem d_X2_index_17 : decode b_X2_index 17 = .ok (.aload_n 0, 1) := by decide +kernel
theorem d_X2_index_18 : decode b_X2_index 18 = .ok (.iload_n 1, 1) := by decide +kernel
theorem d_X2_index_19 : decode b_X2_index 19 = .ok (.invokevirtual 219, 3) := by decide +kernel
theorem d_X2_index_22 : decode b_X2_index 22 = .ok (.aload_n 0, 1) := by decide +kernel
theorem d_X2_index_23 : decode b_X2_index 23 = .ok (.getfield 46, 3) := by decide +kernel
theorem d_X2_index_26 : decode b_X2_index 26 = .ok (.bipush 43, 2) := by decide +kernel
theorem d_X2_index_28 : decode b_X2_index 28 = .ok (.iconst 0, 1) := by decide +kernel
theorem d_X2_index_29 : decode b_X2_index 29 = .ok (.iconst 0, 1) := by decide +kernel
theorem d_X2_index_30 : decode b_X2_index 30 = .ok (.iconst 0, 1) := by decide +kernel
theorem d_X2_index_31 : decode b_X2_index 31 = .ok (.invokevirtual 155, 3) := by decide +kernel
theorem d_X2_index_34 : decode b_X2_index 34 = .ok (.pop, 1) := by decide +kernel
theorem d_X2_index_35 : decode b_X2_index 35 = .ok (.aload_n 0, 1) := by decide +kernel
theorem d_X2_index_36 : decode b_X2_index 36 = .ok (.aload_n 3, 1) := by decide +kernel
theorem d_X2_index_37 : decode b_X2_index 37 = .ok (.iload_n 1, 1) := by decide +kernel
theorem d_X2_index_38 : decode b_X2_index 38 = .ok (.invokevirtual 328, 3) := by decide +kernel
theorem d_X2_index_41 : decode b_X2_index 41 = .ok (.aload_n 0, 1) := by decide +kernel
theorem d_X2_index_42 : decode b_X2_index 42 = .ok (.aload_n 3, 1) := by decide +kernel
theorem d_X2_index_43 : decode b_X2_index 43 = .ok (.iconst 1, 1) := by decide +kernel
theorem d_X2_index_44 : decode b_X2_index 44 = .ok (.aload_n 3, 1) := by decide +kernel
theorem d_X2_index_45 : decode b_X2_index 45 = .ok (.getfield 161, 3) := by decide +kernel
theorem d_X2_index_48 : decode b_X2_index 48 = .ok (.aload_n 2, 1) := by decide +kernel
theorem d_X2_index_49 : decode b_X2_index 49 = .ok (.getfield 161, 3) := by decide +kernel
theorem d_X2_index_52 : decode b_X2_index 52 = .ok (.invokestatic 222, 3) := by decide +kernel
theorem d_X2_index_55 : decode b_X2_index 55 = .ok (.iadd, 1) := by decide +kernel
theorem d_X2_index_56 : decode b_X2_index 56 = .ok (.iload_n 1, 1) := by decide +kernel
theorem d_X2_index_57 : decode b_X2_index 57 = .ok (.invokevirtual 281, 3) := by decide +kernel
theorem d_X2_index_60 : decode b_X2_index 60 = .ok (.return_, 1) := by decide +kernel
theorem d_X2_pointed_0 : decode b_X2_pointed 0 = .ok (.aload_n 1, 1) := by decide +kernel
theorem d_X2_pointed_1 : decode b_X2_pointed 1 = .ok (.getfield 233, 3) := by decide +kernel
theorem d_X2_pointed_4 : decode b_X2_pointed 4 = .ok (.iconst 1, 1) := by decide +kernel
theorem d_X2_pointed_5 : decode b_X2_pointed 5 = .ok (.if_icmp .ge 8, 3) := by decide +kernel
theorem d_X2_pointed_8 : decode b_X2_pointed 8 = .ok (.aload_n 0, 1) := by decide +kernel
theorem d_X2_pointed_9 : decode b_X2_pointed 9 = .ok (.iload_n 2, 1) := by decide +kernel
theorem d_X2_pointed_10 : decode b_X2_pointed 10 = .ok (.invokevirtual 219, 3) := by decide +kernel
theorem d_X2_pointed_13 : decode b_X2_pointed 13 = .ok (.aload_n 1, 1) := by decide +kernel
theorem d_X2_pointed_14 : decode b_X2_pointed 14 = .ok (.aload_n 1, 1) := by decide +kernel
theorem d_X2_pointed_15 : decode b_X2_pointed 15 = .ok (.getfield 233, 3) := by decide +kernel
theorem d_X2_pointed_18 : decode b_X2_pointed 18 = .ok (.iconst 1, 1) := by decide +kernel
theorem d_X2_pointed_19 : decode b_X2_pointed 19 = .ok (.isub, 1) := by decide +kernel
theorem d_X2_pointed_20 : decode b_X2_pointed 20 = .ok (.iconst 0, 1) := by decide +kernel
theorem d_X2_pointed_21 : decode b_X2_pointed 21 = .ok (.invokevirtual 199, 3) := by decide +kernel
theorem d_X2_pointed_24 : decode b_X2_pointed 24 = .ok (.aload_n 1, 1) := by decide +kernel
theorem d_X2_pointed_25 : decode b_X2_pointed 25 = .ok (.iconst 3, 1) := by decide +kernel
theorem d_X2_pointed_26 : decode b_X2_pointed 26 = .ok (.putfield 149, 3) := by decide +kernel
theorem d_X2_pointed_29 : decode b_X2_pointed 29 = .ok (.aload_n 1, 1) := by decide +kernel
theorem d_X2_pointed_30 : decode b_X2_pointed 30 = .ok (.aload_n 0, 1) := by decide +kernel
theorem d_X2_pointed_31 : decode b_X2_pointed 31 = .ok (.iload_n 2, 1) := by decide +kernel
theorem d_X2_pointed_32 : decode b_X2_pointed 32 = .ok (.invokevirtual 278, 3) := by decide +kernel
theorem d_X2_pointed_35 : decode b_X2_pointed 35 = .ok (.putfield 152, 3) := by decide +kernel
theorem d_X2_pointed_38 : decode b_X2_pointed 38 = .ok (.return_, 1) := by decide +kernel
theorem d_X2_unary_0 : decode b_X2_unary 0 = .ok (.aload_n 0, 1) := by decide +kernel
theorem d_X2_unary_1 : decode b_X2_unary 1 = .ok (.iload_n 1, 1) := by decide +kernel
theorem d_X2_unary_2 : decode b_X2_unary 2 = .ok (.invokevirtual 285, 3) := by decide +kernel
theorem d_X2_unary_5 : decode b_X2_unary 5 = .ok (.istore_n 2, 1) := by decide +kernel
theorem d_X2_unary_6 : decode b_X2_unary 6 = .ok (.aload_n 0, 1) := by decide +kernel
theorem d_X2_unary_7 : decode b_X2_unary 7 = .ok (.invokevirtual 104, 3) := by decide +kernel
theorem d_X2_unary_10 : decode b_X2_unary 10 = .ok (.astore_n 3, 1) := by decide +kernel
theorem d_X2_unary_11 : decode b_X2_unary 11 = .ok (.iload_n 2, 1) := by decide +kernel
theorem d_X2_unary_12 : decode b_X2_unary 12 = .ok (.bipush 61, 2) := by decide +kernel
theorem d_X2_unary_14 : decode b_X2_unary 14 = .ok (.if_icmp .eq 9, 3) := by decide +kernel
theorem d_X2_unary_17 : decode b_X2_unary 17 = .ok (.iload_n 2, 1) := by decide +kernel
theorem d_X2_unary_18 : decode b_X2_unary 18 = .ok (.bipush 62, 2) := by decide +kernel
theorem d_X2_unary_20 : decode b_X2_unary 20 = .ok (.if_icmp .ne 11, 3) := by decide +kernel
theorem d_X2_unary_23 : decode b_X2_unary 23 = .ok (.aload_n 0, 1) := by decide +kernel
theorem d_X2_unary_24 : decode b_X2_unary 24 = .ok (.aload_n 3, 1) := by decide +kernel
theorem d_X2_unary_25 : decode b_X2_unary 25 = .ok (.iload_n 1, 1) := by decide +kernel
theorem d_X2_unary_26 : decode b_X2_unary 26 = .ok (.iconst 0, 1) := by decide +kernel
theorem d_X2_unary_27 : decode b_X2_unary 27 = .ok (.invokevirtual 108, 3) := by decide +kernel
theorem d_X2_unary_30 : decode b_X2_unary 30 = .ok (.return_, 1) := by decide +kernel
theorem d_X2_unary_31 : decode b_X2_unary 31 = .ok (.iload_n 2, 1) := by decide +kernel
theorem d_X2_unary_32 : decode b_X2_unary 32 = .ok (.bipush 48, 2) := by decide +kernel
theorem d_X2_unary_34 : decode b_X2_unary 34 = .ok (.if_icmp .ne 32, 3) := by decide +kernel
theorem d_X2_unary_37 : decode b_X2_unary 37 = .ok (.aload_n 3, 1) := by decide +kernel
theorem d_X2_unary_38 : decode b_X2_unary 38 = .ok (.invokevirtual 145, 3) := by decide +kernel
theorem d_X2_unary_41 : decode b_X2_unary 41 = .ok (.ifCond .eq 12, 3) := by decide +kernel
theorem d_X2_unary_44 : decode b_X2_unary 44 = .ok (.aload_n 3, 1) := by decide +kernel
theorem d_X2_unary_45 : decode b_X2_unary 45 = .ok (.getfield 233, 3) := by decide +kernel
theorem d_X2_unary_48 : decode b_X2_unary 48 = .ok (.bipush 9, 2) := by decide +kernel
theorem d_X2_unary_50 : decode b_X2_unary 50 = .ok (.if_icmp .lt 8, 3) := by decide +kernel
theorem d_X2_unary_53 : decode b_X2_unary 53 = .ok (.aload_n 0, 1) := by decide +kernel
theorem d_X2_unary_54 : decode b_X2_unary 54 = .ok (.iload_n 1, 1) := by decide +kernel
theorem d_X2_unary_55 : decode b_X2_unary 55 = .ok (.invokevirtual 219, 3) := by decide +kernel
theorem d_X2_unary_58 : decode b_X2_unary 58 = .ok (.aload_n 0, 1) := by decide +kernel
theorem d_X2_unary_59 : decode b_X2_unary 59 = .ok (.aload_n 3, 1) := by decide +kernel
theorem d_X2_unary_60 : decode b_X2_unary 60 = .ok (.invokevirtual 245, 3) := by decide +kernel
theorem d_X2_unary_63 : decode b_X2_unary 63 = .ok (.goto 33, 3) := by decide +kernel
theorem d_X2_unary_66 : decode b_X2_unary 66 = .ok (.iload_n 2, 1) := by decide +kernel
theorem d_X2_unary_67 : decode b_X2_unary 67 = .ok (.bipush 45, 2) := by decide +kernel
theorem d_X2_unary_69 : decode b_X2_unary 69 = .ok (.if_icmp .ne 16, 3) := by decide +kernel
theorem d_X2_unary_72 : decode b_X2_unary 72 = .ok (.aload_n 0, 1) := by decide +kernel
theorem d_X2_unary_73 : decode b_X2_unary 73 = .ok (.aload_n 0, 1) := by decide +kernel
theorem d_X2_unary_74 : decode b_X2_unary 74 = .ok (.aload_n 3, 1) := by decide +kernel
theorem d_X2_unary_75 : decode b_X2_unary 75 = .ok (.invokevirtual 112, 3) := by decide +kernel
theorem d_X2_unary_78 : decode b_X2_unary 78 = .ok (.iload_n 1, 1) := by decide +kernel
theorem d_X2_unary_79 : decode b_X2_unary 79 = .ok (.invokevirtual 328, 3) := by decide +kernel
theorem d_X2_unary_82 : decode b_X2_unary 82 = .ok (.goto 14, 3) := by decide +kernel
theorem d_X2_unary_85 : decode b_X2_unary 85 = .ok (.aload_n 0, 1) := by decide +kernel
theorem d_X2_unary_86 : decode b_X2_unary 86 = .ok (.aload_n 0, 1) := by decide +kernel
theorem d_X2_unary_87 : decode b_X2_unary 87 = .ok (.aload_n 3, 1) := by decide +kernel
theorem d_X2_unary_88 : decode b_X2_unary 88 = .ok (.invokevirtual 112, 3) := by decide +kernel
theorem d_X2_unary_91 : decode b_X2_unary 91 = .ok (.iload_n 2, 1) := by decide +kernel
theorem d_X2_unary_92 : decode b_X2_unary 92 = .ok (.iload_n 1, 1) := by decide +kernel
theorem d_X2_unary_93 : decode b_X2_unary 93 = .ok (.invokevirtual 331, 3) := by decide +kernel
theorem d_X2_unary_96 : decode b_X2_unary 96 = .ok (.aload_n 0, 1) := by decide +kernel
theorem d_X2_unary_97 : decode b_X2_unary 97 = .ok (.aload_n 3, 1) := by decide +kernel
theorem d_X2_unary_98 : decode b_X2_unary 98 = .ok (.iconst 1, 1) := by decide +kernel
theorem d_X2_unary_99 : decode b_X2_unary 99 = .ok (.aload_n 3, 1) := by decide +kernel
theorem d_X2_unary_100 : decode b_X2_unary 100 = .ok (.getfield 161, 3) := by decide +kernel
theorem d_X2_unary_103 : decode b_X2_unary 103 = .ok (.iadd, 1) := by decide +kernel
theorem d_X2_unary_104 : decode b_X2_unary 104 = .ok (.iload_n 1, 1) := by decide +kernel
theorem d_X2_unary_105 : decode b_X2_unary 105 = .ok (.invokevirtual 281, 3) := by decide +kernel
theorem d_X2_unary_108 : decode b_X2_unary 108 = .ok (.return_, 1) := by decide +kernel
theorem d_X2_step_0 : decode b_X2_step 0 = .ok (.aload_n 1, 1) := by decide +kernel
theorem d_X2_step_1 : decode b_X2_step 1 = .ok (.invokevirtual 145, 3) := by decide +kernel
theorem d_X2_step_4 : decode b_X2_step 4 = .ok (.ifCond .ne 8, 3) := by decide +kernel
theorem d_X2_step_7 : decode b_X2_step 7 = .ok (.aload_n 0, 1) := by decide +kernel
theorem d_X2_step_8 : decode b_X2_step 8 = .ok (.iload_n 2, 1) := by decide +kernel
theorem d_X2_step_9 : decode b_X2_step 9 = .ok (.invokevirtual 219, 3) := by decide +kernel
theorem d_X2_step_12 : decode b_X2_step 12 = .ok (.aload_n 0, 1) := by decide +kernel
theorem d_X2_step_13 : decode b_X2_step 13 = .ok (.iload_n 2, 1) := by decide +kernel
theorem d_X2_step_14 : decode b_X2_step 14 = .ok (.invokevirtual 285, 3) := by decide +kernel
theorem d_X2_step_17 : decode b_X2_step 17 = .ok (.bipush 61, 2) := by decide +kernel
theorem d_X2_step_19 : decode b_X2_step 19 = .ok (.if_icmp .ne 7, 3) := by decide +kernel
theorem d_X2_step_22 : decode b_X2_step 22 = .ok (.iconst 1, 1) := by decide +kernel
theorem d_X2_step_23 : decode b_X2_step 23 = .ok (.goto 4, 3) := by decide +kernel
theorem d_X2_step_26 : decode b_X2_step 26 = .ok (.iconst (-1), 1) := by decide +kernel
theorem d_X2_step_27 : decode b_X2_step 27 = .ok (.istore 4, 2) := by decide +kernel
theorem d_X2_step_29 : decode b_X2_step 29 = .ok (.iload_n 3, 1) := by decide +kernel
theorem d_X2_step_30 : decode b_X2_step 30 = .ok (.ifCond .eq 8, 3) := by decide +kernel
theorem d_X2_step_33 : decode b_X2_step 33 = .ok (.iload 4, 2) := by decide +kernel
theorem d_X2_step_35 : decode b_X2_step 35 = .ok (.goto 4, 3) := by decide +kernel
theorem d_X2_step_38 : decode b_X2_step 38 = .ok (.iconst 0, 1) := by decide +kernel
theorem d_X2_step_39 : decode b_X2_step 39 = .ok (.istore 5, 2) := by decide +kernel
theorem d_X2_step_41 : decode b_X2_step 41 = .ok (.aload_n 1, 1) := by decide +kernel
theorem d_X2_step_42 : decode b_X2_step 42 = .ok (.getfield 149, 3) := by decide +kernel
theorem d_X2_step_45 : decode b_X2_step 45 = .ok (.iconst 3, 1) := by decide +kernel
theorem d_X2_step_46 : decode b_X2_step 46 = .ok (.if_icmp .ne 25, 3) := by decide +kernel
theorem d_X2_step_49 : decode b_X2_step 49 = .ok (.aload_n 0, 1) := by decide +kernel
theorem d_X2_step_50 : decode b_X2_step 50 = .ok (.getfield 46, 3) := by decide +kernel
theorem d_X2_step_53 : decode b_X2_step 53 = .ok (.bipush 20, 2) := by decide +kernel
theorem d_X2_step_55 : decode b_X2_step 55 = .ok (.aload_n 0, 1) := by decide +kernel
theorem d_X2_step_56 : decode b_X2_step 56 = .ok (.iload_n 2, 1) := by decide +kernel
theorem d_X2_step_57 : decode b_X2_step 57 = .ok (.invokevirtual 278, 3) := by decide +kernel
theorem d_X2_step_60 : decode b_X2_step 60 = .ok (.iload 4, 2) := by decide +kernel
theorem d_X2_step_62 : decode b_X2_step 62 = .ok (.iload 5, 2) := by decide +kernel
theorem d_X2_step_64 : decode b_X2_step 64 = .ok (.invokevirtual 155, 3) := by decide +kernel
theorem d_X2_step_67 : decode b_X2_step 67 = .ok (.pop, 1) := by decide +kernel
theorem d_X2_step_68 : decode b_X2_step 68 = .ok (.goto 34, 3) := by decide +kernel
theorem d_X2_step_71 : decode b_X2_step 71 = .ok (.aload_n 0, 1) := by decide +kernel
theorem d_X2_step_72 : decode b_X2_step 72 = .ok (.getfield 46, 3) := by decide +kernel
theorem d_X2_step_75 : decode b_X2_step 75 = .ok (.aload_n 1, 1) := by decide +kernel
theorem d_X2_step_76 : decode b_X2_step 76 = .ok (.getfield 149, 3) := by decide +kernel
theorem d_X2_step_79 : decode b_X2_step 79 = .ok (.iconst 1, 1) := by decide +kernel
theorem d_X2_step_80 : decode b_X2_step 80 = .ok (.if_icmp .ne 8, 3) := by decide +kernel
theorem d_X2_step_83 : decode b_X2_step 83 = .ok (.bipush 10, 2) := by decide +kernel
theorem d_X2_step_85 : decode b_X2_step 85 = .ok (.goto 5, 3) := by decide +kernel
theorem d_X2_step_88 : decode b_X2_step 88 = .ok (.bipush 7, 2) := by decide +kernel
theorem d_X2_step_90 : decode b_X2_step 90 = .ok (.aload_n 1, 1) := by decide +kernel
theorem d_X2_step_91 : decode b_X2_step 91 = .ok (.getfield 159, 3) := by decide +kernel
theorem d_X2_step_94 : decode b_X2_step 94 = .ok (.iload 4, 2) := by decide +kernel
theorem d_X2_step_96 : decode b_X2_step 96 = .ok (.iload 5, 2) := by decide +kernel
theorem d_X2_step_98 : decode b_X2_step 98 = .ok (.invokevirtual 155, 3) := by decide +kernel
theorem d_X2_step_101 : decode b_X2_step 101 = .ok (.pop, 1) := by decide +kernel
theorem d_X2_step_102 : decode b_X2_step 102 = .ok (.aload_n 1, 1) := by decide +kernel
theorem d_X2_step_103 : decode b_X2_step 103 = .ok (.aload_n 1, 1) := by decide +kernel
theorem d_X2_step_104 : decode b_X2_step 104 = .ok (.getfield 233, 3) := by decide +kernel
theorem d_X2_step_107 : decode b_X2_step 107 = .ok (.iconst 0, 1) := by decide +kernel
theorem d_X2_step_108 : decode b_X2_step 108 = .ok (.invokevirtual 199, 3) := by decide +kernel
theorem d_X2_step_111 : decode b_X2_step 111 = .ok (.aload_n 0, 1) := by decide +kernel
theorem d_X2_step_112 : decode b_X2_step 112 = .ok (.aload_n 1, 1) := by decide +kernel
theorem d_X2_step_113 : decode b_X2_step 113 = .ok (.iconst 1, 1) := by decide +kernel
theorem d_X2_step_114 : decode b_X2_step 114 = .ok (.aload_n 1, 1) := by decide +kernel
theorem d_X2_step_115 : decode b_X2_step 115 = .ok (.getfield 161, 3) := by decide +kernel
theorem d_X2_step_118 : decode b_X2_step 118 = .ok (.iadd, 1) := by decide +kernel
theorem d_X2_step_119 : decode b_X2_step 119 = .ok (.iload_n 2, 1) := by decide +kernel
theorem d_X2_step_120 : decode b_X2_step 120 = .ok (.invokevirtual 281, 3) := by decide +kernel
theorem d_X2_step_123 : decode b_X2_step 123 = .ok (.return_, 1) := by decide +kernel
theorem d_X2_invert_0 : decode b_X2_invert 0 = .ok (.iload_n 2, 1) := by decide +kernel
theorem d_X2_invert_1 : decode b_X2_invert 1 = .ok (.bipush 59, 2) := by decide +kernel
theorem d_X2_invert_3 : decode b_X2_invert 3 = .ok (.if_icmp .ne 14, 3) := by decide +kernel
theorem d_X2_invert_6 : decode b_X2_invert 6 = .ok (.aload_n 1, 1) := by decide +kernel
theorem d_X2_invert_7 : decode b_X2_invert 7 = .ok (.getfield 233, 3) := by decide +kernel
theorem d_X2_invert_10 : decode b_X2_invert 10 = .ok (.iconst (-1), 1) := by decide +kernel
theorem d_X2_invert_11 : decode b_X2_invert 11 = .ok (.if_icmp .ne 18, 3) := by decide +kernel
theorem d_X2_invert_14 : decode b_X2_invert 14 = .ok (.goto 10, 3) := by decide +kernel
theorem d_X2_invert_17 : decode b_X2_invert 17 = .ok (.aload_n 1, 1) := by decide +kernel
theorem d_X2_invert_18 : decode b_X2_invert 18 = .ok (.getfield 233, 3) := by decide +kernel
theorem d_X2_invert_21 : decode b_X2_invert 21 = .ok (.ifCond .eq 8, 3) := by decide +kernel
theorem d_X2_invert_24 : decode b_X2_invert 24 = .ok (.aload_n 0, 1) := by decide +kernel
theorem d_X2_invert_25 : decode b_X2_invert 25 = .ok (.iload_n 3, 1) := by decide +kernel
theorem d_X2_invert_26 : decode b_X2_invert 26 = .ok (.invokevirtual 219, 3) := by decide +kernel
theorem d_X2_invert_29 : decode b_X2_invert 29 = .ok (.iload_n 2, 1) := by decide +kernel
theorem d_X2_invert_30 : decode b_X2_invert 30 = .ok (.bipush 59, 2) := by decide +kernel
theorem d_X2_invert_32 : decode b_X2_invert 32 = .ok (.if_icmp .ne 8, 3) := by decide +kernel
theorem d_X2_invert_35 : decode b_X2_invert 35 = .ok (.bipush 24, 2) := by decide +kernel
theorem d_X2_invert_37 : decode b_X2_invert 37 = .ok (.goto 16, 3) := by decide +kernel
theorem d_X2_invert_40 : decode b_X2_invert 40 = .ok (.iload_n 2, 1) := by decide +kernel
theorem d_X2_invert_41 : decode b_X2_invert 41 = .ok (.bipush 60, 2) := by decide +kernel
theorem d_X2_invert_43 : decode b_X2_invert 43 = .ok (.if_icmp .ne 8, 3) := by decide +kernel
theorem d_X2_invert_46 : decode b_X2_invert 46 = .ok (.bipush 23, 2) := by decide +kernel
theorem d_X2_invert_48 : decode b_X2_invert 48 = .ok (.goto 5, 3) := by decide +kernel
theorem d_X2_invert_51 : decode b_X2_invert 51 = .ok (.bipush 22, 2) := by decide +kernel
theorem d_X2_invert_53 : decode b_X2_invert 53 = .ok (.istore 4, 2) := by decide +kernel
theorem d_X2_invert_55 : decode b_X2_invert 55 = .ok (.aload_n 0, 1) := by decide +kernel
theorem d_X2_invert_56 : decode b_X2_invert 56 = .ok (.getfield 46, 3) := by decide +kernel
theorem d_X2_invert_59 : decode b_X2_invert 59 = .ok (.iload 4, 2) := by decide +kernel
theorem d_X2_invert_61 : decode b_X2_invert 61 = .ok (.iconst 0, 1) := by decide +kernel
theorem d_X2_invert_62 : decode b_X2_invert 62 = .ok (.iconst 0, 1) := by decide +kernel
theorem d_X2_invert_63 : decode b_X2_invert 63 = .ok (.iconst 0, 1) := by decide +kernel
theorem d_X2_invert_64 : decode b_X2_invert 64 = .ok (.invokevirtual 155, 3) := by decide +kernel
theorem d_X2_invert_67 : decode b_X2_invert 67 = .ok (.pop, 1) := by decide +kernel
theorem d_X2_invert_68 : decode b_X2_invert 68 = .ok (.aload_n 1, 1) := by decide +kernel
theorem d_X2_invert_69 : decode b_X2_invert 69 = .ok (.iload 4, 2) := by decide +kernel
theorem d_X2_invert_71 : decode b_X2_invert 71 = .ok (.aload_n 1, 1) := by decide +kernel
theorem d_X2_invert_72 : decode b_X2_invert 72 = .ok (.getfield 176, 3) := by decide +kernel
theorem d_X2_invert_75 : decode b_X2_invert 75 = .ok (.invokestatic 334, 3) := by decide +kernel
theorem d_X2_invert_78 : decode b_X2_invert 78 = .ok (.putfield 176, 3) := by decide +kernel
theorem d_X2_invert_81 : decode b_X2_invert 81 = .ok (.aload_n 1, 1) := by decide +kernel
theorem d_X2_invert_82 : decode b_X2_invert 82 = .ok (.iconst 0, 1) := by decide +kernel
theorem d_X2_invert_83 : decode b_X2_invert 83 = .ok (.aload_n 1, 1) := by decide +kernel
theorem d_X2_invert_84 : decode b_X2_invert 84 = .ok (.invokevirtual 310, 3) := by decide +kernel
theorem d_X2_invert_87 : decode b_X2_invert 87 = .ok (.ifCond .eq 7, 3) := by decide +kernel
theorem d_X2_invert_90 : decode b_X2_invert 90 = .ok (.iconst 1, 1) := by decide +kernel
theorem d_X2_invert_91 : decode b_X2_invert 91 = .ok (.goto 4, 3) := by decide +kernel
theorem d_X2_invert_94 : decode b_X2_invert 94 = .ok (.iconst 0, 1) := by decide +kernel
theorem d_X2_invert_95 : decode b_X2_invert 95 = .ok (.invokevirtual 199, 3) := by decide +kernel
theorem d_X2_invert_98 : decode b_X2_invert 98 = .ok (.aload_n 0, 1) := by decide +kernel
theorem d_X2_invert_99 : decode b_X2_invert 99 = .ok (.aload_n 1, 1) := by decide +kernel
