theorem d_X12_feed_0 : decode b_X12_feed 0 = .ok (.aload_n 0, 1) := by decide +kernel
theorem d_X12_feed_1 : decode b_X12_feed 1 = .ok (.getfield 13, 3) := by decide +kernel
theorem d_X12_feed_4 : decode b_X12_feed 4 = .ok (.bipush 20, 2) := by decide +kernel
theorem d_X12_feed_6 : decode b_X12_feed 6 = .ok (.iadd, 1) := by decide +kernel
theorem d_X12_feed_7 : decode b_X12_feed 7 = .ok (.sipush 16000, 3) := by decide +kernel
theorem d_X12_feed_10 : decode b_X12_feed 10 = .ok (.if_icmp .gt 15, 3) := by decide +kernel
theorem d_X12_feed_13 : decode b_X12_feed 13 = .ok (.aload_n 0, 1) := by decide +kernel
theorem d_X12_feed_14 : decode b_X12_feed 14 = .ok (.getfield 17, 3) := by decide +kernel
theorem d_X12_feed_17 : decode b_X12_feed 17 = .ok (.bipush 20, 2) := by decide +kernel
theorem d_X12_feed_19 : decode b_X12_feed 19 = .ok (.iadd, 1) := by decide +kernel
theorem d_X12_feed_20 : decode b_X12_feed 20 = .ok (.ldc 118, 2) := by decide +kernel
theorem d_X12_feed_22 : decode b_X12_feed 22 = .ok (.if_icmp .le 5, 3) := by decide +kernel
theorem d_X12_feed_25 : decode b_X12_feed 25 = .ok (.iconst (-1), 1) := by decide +kernel
theorem d_X12_feed_26 : decode b_X12_feed 26 = .ok (.ireturn, 1) := by decide +kernel
theorem d_X12_feed_27 : decode b_X12_feed 27 = .ok (.aload_n 0, 1) := by decide +kernel
theorem d_X12_feed_28 : decode b_X12_feed 28 = .ok (.iload_n 1, 1) := by decide +kernel
theorem d_X12_feed_29 : decode b_X12_feed 29 = .ok (.invokevirtual 119, 3) := by decide +kernel
theorem d_X12_feed_32 : decode b_X12_feed 32 = .ok (.aload_n 0, 1) := by decide +kernel
theorem d_X12_feed_33 : decode b_X12_feed 33 = .ok (.iload_n 2, 1) := by decide +kernel
theorem d_X12_feed_34 : decode b_X12_feed 34 = .ok (.invokevirtual 119, 3) := by decide +kernel
theorem d_X12_feed_37 : decode b_X12_feed 37 = .ok (.aload_n 0, 1) := by decide +kernel
theorem d_X12_feed_38 : decode b_X12_feed 38 = .ok (.iload_n 3, 1) := by decide +kernel
theorem d_X12_feed_39 : decode b_X12_feed 39 = .ok (.invokevirtual 119, 3) := by decide +kernel
theorem d_X12_feed_42 : decode b_X12_feed 42 = .ok (.aload_n 0, 1) := by decide +kernel
theorem d_X12_feed_43 : decode b_X12_feed 43 = .ok (.iload 4, 2) := by decide +kernel
theorem d_X12_feed_45 : decode b_X12_feed 45 = .ok (.invokevirtual 119, 3) := by decide +kernel
theorem d_X12_feed_48 : decode b_X12_feed 48 = .ok (.aload_n 0, 1) := by decide +kernel
theorem d_X12_feed_49 : decode b_X12_feed 49 = .ok (.iload 5, 2) := by decide +kernel
theorem d_X12_feed_51 : decode b_X12_feed 51 = .ok (.invokevirtual 119, 3) := by decide +kernel
theorem d_X12_feed_54 : decode b_X12_feed 54 = .ok (.aload_n 0, 1) := by decide +kernel
theorem d_X12_feed_55 : decode b_X12_feed 55 = .ok (.dup, 1) := by decide +kernel
theorem d_X12_feed_56 : decode b_X12_feed 56 = .ok (.getfield 17, 3) := by decide +kernel
theorem d_X12_feed_59 : decode b_X12_feed 59 = .ok (.bipush 20, 2) := by decide +kernel
theorem d_X12_feed_61 : decode b_X12_feed 61 = .ok (.iadd, 1) := by decide +kernel
theorem d_X12_feed_62 : decode b_X12_feed 62 = .ok (.putfield 17, 3) := by decide +kernel
theorem d_X12_feed_65 : decode b_X12_feed 65 = .ok (.aload_n 0, 1) := by decide +kernel
theorem d_X12_feed_66 : decode b_X12_feed 66 = .ok (.getfield 13, 3) := by decide +kernel
theorem d_X12_feed_69 : decode b_X12_feed 69 = .ok (.ireturn, 1) := by decide +kernel
theorem d_X12_takeBytes_0 : decode b_X12_takeBytes 0 = .ok (.bipush 24, 2) := by decide +kernel
theorem d_X12_takeBytes_2 : decode b_X12_takeBytes 2 = .ok (.istore_n 2, 1) := by decide +kernel
theorem d_X12_takeBytes_3 : decode b_X12_takeBytes 3 = .ok (.iload_n 2, 1) := by decide +kernel
theorem d_X12_takeBytes_4 : decode b_X12_takeBytes 4 = .ok (.ifCond .lt 44, 3) := by decide +kernel
theorem d_X12_takeBytes_7 : decode b_X12_takeBytes 7 = .ok (.aload_n 0, 1) := by decide +kernel
theorem d_X12_takeBytes_8 : decode b_X12_takeBytes 8 = .ok (.getfield 13, 3) := by decide +kernel
theorem d_X12_takeBytes_11 : decode b_X12_takeBytes 11 = .ok (.aload_n 0, 1) := by decide +kernel
theorem d_X12_takeBytes_12 : decode b_X12_takeBytes 12 = .ok (.getfield 9, 3) := by decide +kernel
theorem d_X12_takeBytes_15 : decode b_X12_takeBytes 15 = .ok (.arraylength, 1) := by decide +kernel
theorem d_X12_takeBytes_16 : decode b_X12_takeBytes 16 = .ok (.if_icmp .ge 32, 3) := by decide +kernel
theorem d_X12_takeBytes_19 : decode b_X12_takeBytes 19 = .ok (.aload_n 0, 1) := by decide +kernel
theorem d_X12_takeBytes_20 : decode b_X12_takeBytes 20 = .ok (.getfield 9, 3) := by decide +kernel
theorem d_X12_takeBytes_23 : decode b_X12_takeBytes 23 = .ok (.aload_n 0, 1) := by decide +kernel
theorem d_X12_takeBytes_24 : decode b_X12_takeBytes 24 = .ok (.getfield 13, 3) := by decide +kernel
theorem d_X12_takeBytes_27 : decode b_X12_takeBytes 27 = .ok (.iload_n 1, 1) := by decide +kernel
theorem d_X12_takeBytes_28 : decode b_X12_takeBytes 28 = .ok (.iload_n 2, 1) := by decide +kernel
theorem d_X12_takeBytes_29 : decode b_X12_takeBytes 29 = .ok (.ishr, 1) := by decide +kernel
theorem d_X12_takeBytes_30 : decode b_X12_takeBytes 30 = .ok (.i2b, 1) := by decide +kernel
theorem d_X12_takeBytes_31 : decode b_X12_takeBytes 31 = .ok (.bastore, 1) := by decide +kernel
theorem d_X12_takeBytes_32 : decode b_X12_takeBytes 32 = .ok (.aload_n 0, 1) := by decide +kernel
theorem d_X12_takeBytes_33 : decode b_X12_takeBytes 33 = .ok (.dup, 1) := by decide +kernel
theorem d_X12_takeBytes_34 : decode b_X12_takeBytes 34 = .ok (.getfield 13, 3) := by decide +kernel
theorem d_X12_takeBytes_37 : decode b_X12_takeBytes 37 = .ok (.iconst 1, 1) := by decide +kernel
theorem d_X12_takeBytes_38 : decode b_X12_takeBytes 38 = .ok (.iadd, 1) := by decide +kernel
theorem d_X12_takeBytes_39 : decode b_X12_takeBytes 39 = .ok (.putfield 13, 3) := by decide +kernel
theorem d_X12_takeBytes_42 : decode b_X12_takeBytes 42 = .ok (.iinc 2 (-8), 3) := by decide +kernel
theorem d_X12_takeBytes_45 : decode b_X12_takeBytes 45 = .ok (.goto (-42), 3) := by decide +kernel
theorem d_X12_takeBytes_48 : decode b_X12_takeBytes 48 = .ok (.return_, 1) := by decide +kernel
theorem d_X12_end_0 : decode b_X12_end 0 = .ok (.iload_n 1, 1) := by decide +kernel
theorem d_X12_end_1 : decode b_X12_end 1 = .ok (.ifCond .lt 11, 3) := by decide +kernel
theorem d_X12_end_4 : decode b_X12_end 4 = .ok (.iload_n 1, 1) := by decide +kernel
theorem d_X12_end_5 : decode b_X12_end 5 = .ok (.aload_n 0, 1) := by decide +kernel
theorem d_X12_end_6 : decode b_X12_end 6 = .ok (.getfield 13, 3) := by decide +kernel
theorem d_X12_end_9 : decode b_X12_end 9 = .ok (.if_icmp .le 5, 3) := by decide +kernel
theorem d_X12_end_12 : decode b_X12_end 12 = .ok (.iconst (-1), 1) := by decide +kernel
theorem d_X12_end_13 : decode b_X12_end 13 = .ok (.ireturn, 1) := by decide +kernel
theorem d_X12_end_14 : decode b_X12_end 14 = .ok (.aload_n 0, 1) := by decide +kernel
theorem d_X12_end_15 : decode b_X12_end 15 = .ok (.iload_n 1, 1) := by decide +kernel
theorem d_X12_end_16 : decode b_X12_end 16 = .ok (.putfield 13, 3) := by decide +kernel
theorem d_X12_end_19 : decode b_X12_end 19 = .ok (.iload_n 1, 1) := by decide +kernel
theorem d_X12_end_20 : decode b_X12_end 20 = .ok (.ireturn, 1) := by decide +kernel
theorem d_X12_compile_0 : decode b_X12_compile 0 = .ok (.aload_n 0, 1) := by decide +kernel
theorem d_X12_compile_1 : decode b_X12_compile 1 = .ok (.getfield 13, 3) := by decide +kernel
theorem d_X12_compile_4 : decode b_X12_compile 4 = .ok (.istore_n 2, 1) := by decide +kernel
theorem d_X12_compile_5 : decode b_X12_compile 5 = .ok (.aload_n 0, 1) := by decide +kernel
theorem d_X12_compile_6 : decode b_X12_compile 6 = .ok (.iconst 0, 1) := by decide +kernel
theorem d_X12_compile_7 : decode b_X12_compile 7 = .ok (.putfield 13, 3) := by decide +kernel
theorem d_X12_compile_10 : decode b_X12_compile 10 = .ok (.aload_n 0, 1) := by decide +kernel
theorem d_X12_compile_11 : decode b_X12_compile 11 = .ok (.iconst (-1), 1) := by decide +kernel
theorem d_X12_compile_12 : decode b_X12_compile 12 = .ok (.putfield 20, 3) := by decide +kernel
theorem d_X12_compile_15 : decode b_X12_compile 15 = .ok (.iload_n 1, 1) := by decide +kernel
theorem d_X12_compile_16 : decode b_X12_compile 16 = .ok (.ifCond .lt 20, 3) := by decide +kernel
theorem d_X12_compile_19 : decode b_X12_compile 19 = .ok (.iload_n 1, 1) := by decide +kernel
theorem d_X12_compile_20 : decode b_X12_compile 20 = .ok (.iconst 3, 1) := by decide +kernel
theorem d_X12_compile_21 : decode b_X12_compile 21 = .ok (.if_icmp .gt 15, 3) := by decide +kernel
theorem d_X12_compile_24 : decode b_X12_compile 24 = .ok (.aload_n 0, 1) := by decide +kernel
theorem d_X12_compile_25 : decode b_X12_compile 25 = .ok (.getfield 53, 3) := by decide +kernel
theorem d_X12_compile_28 : decode b_X12_compile 28 = .ok (.getfield 123, 3) := by decide +kernel
theorem d_X12_compile_31 : decode b_X12_compile 31 = .ok (.bipush 100, 2) := by decide +kernel
theorem d_X12_compile_33 : decode b_X12_compile 33 = .ok (.if_icmp .lt 6, 3) := by decide +kernel
theorem d_X12_compile_36 : decode b_X12_compile 36 = .ok (.bipush (-14), 2) := by decide +kernel
theorem d_X12_compile_38 : decode b_X12_compile 38 = .ok (.ireturn, 1) := by decide +kernel
theorem d_X12_compile_39 : decode b_X12_compile 39 = .ok (.aload_n 0, 1) := by decide +kernel
theorem d_X12_compile_40 : decode b_X12_compile 40 = .ok (.getfield 28, 3) := by decide +kernel
theorem d_X12_compile_43 : decode b_X12_compile 43 = .ok (.iload_n 2, 1) := by decide +kernel
theorem d_X12_compile_44 : decode b_X12_compile 44 = .ok (.invokevirtual 126, 3) := by decide +kernel
theorem d_X12_compile_47 : decode b_X12_compile 47 = .ok (.aload_n 0, 1) := by decide +kernel
theorem d_X12_compile_48 : decode b_X12_compile 48 = .ok (.getfield 37, 3) := by decide +kernel
theorem d_X12_compile_51 : decode b_X12_compile 51 = .ok (.invokevirtual 129, 3) := by decide +kernel
theorem d_X12_compile_54 : decode b_X12_compile 54 = .ok (.ifCond .ne 27, 3) := by decide +kernel
theorem d_X12_compile_57 : decode b_X12_compile 57 = .ok (.aload_n 0, 1) := by decide +kernel
theorem d_X12_compile_58 : decode b_X12_compile 58 = .ok (.aload_n 0, 1) := by decide +kernel
theorem d_X12_compile_59 : decode b_X12_compile 59 = .ok (.getfield 28, 3) := by decide +kernel
theorem d_X12_compile_62 : decode b_X12_compile 62 = .ok (.getfield 133, 3) := by decide +kernel
theorem d_X12_compile_65 : decode b_X12_compile 65 = .ok (.aload_n 0, 1) := by decide +kernel
theorem d_X12_compile_66 : decode b_X12_compile 66 = .ok (.getfield 37, 3) := by decide +kernel
theorem d_X12_compile_69 : decode b_X12_compile 69 = .ok (.getfield 137, 3) := by decide +kernel
theorem d_X12_compile_72 : decode b_X12_compile 72 = .ok (.invokestatic 140, 3) := by decide +kernel
theorem d_X12_compile_75 : decode b_X12_compile 75 = .ok (.putfield 20, 3) := by decide +kernel
theorem d_X12_compile_78 : decode b_X12_compile 78 = .ok (.bipush (-21), 2) := by decide +kernel
theorem d_X12_compile_80 : decode b_X12_compile 80 = .ok (.ireturn, 1) := by decide +kernel
theorem d_X12_compile_81 : decode b_X12_compile 81 = .ok (.aload_n 0, 1) := by decide +kernel
theorem d_X12_compile_82 : decode b_X12_compile 82 = .ok (.getfield 89, 3) := by decide +kernel
theorem d_X12_compile_85 : decode b_X12_compile 85 = .ok (.iload_n 1, 1) := by decide +kernel
theorem d_X12_compile_86 : decode b_X12_compile 86 = .ok (.invokevirtual 144, 3) := by decide +kernel
theorem d_X12_compile_89 : decode b_X12_compile 89 = .ok (.aload_n 0, 1) := by decide +kernel
theorem d_X12_compile_90 : decode b_X12_compile 90 = .ok (.getfield 62, 3) := by decide +kernel
theorem d_X12_compile_93 : decode b_X12_compile 93 = .ok (.getfield 147, 3) := by decide +kernel
theorem d_X12_compile_96 : decode b_X12_compile 96 = .ok (.ifCond .eq 42, 3) := by decide +kernel
theorem d_X12_compile_99 : decode b_X12_compile 99 = .ok (.aload_n 0, 1) := by decide +kernel
theorem d_X12_compile_100 : decode b_X12_compile 100 = .ok (.getfield 53, 3) := by decide +kernel
theorem d_X12_compile_103 : decode b_X12_compile 103 = .ok (.invokevirtual 150, 3) := by decide +kernel
theorem d_X12_compile_106 : decode b_X12_compile 106 = .ok (.aload_n 0, 1) := by decide +kernel
theorem d_X12_compile_107 : decode b_X12_compile 107 = .ok (.aload_n 0, 1) := by decide +kernel
theorem d_X12_compile_108 : decode b_X12_compile 108 = .ok (.getfield 28, 3) := by decide +kernel
theorem d_X12_compile_111 : decode b_X12_compile 111 = .ok (.getfield 133, 3) := by decide +kernel
theorem d_X12_compile_114 : decode b_X12_compile 114 = .ok (.aload_n 0, 1) := by decide +kernel
theorem d_X12_compile_115 : decode b_X12_compile 115 = .ok (.getfield 62, 3) := by decide +kernel
theorem d_X12_compile_118 : decode b_X12_compile 118 = .ok (.getfield 153, 3) := by decide +kernel
theorem d_X12_compile_121 : decode b_X12_compile 121 = .ok (.invokestatic 140, 3) := by decide +kernel
theorem d_X12_compile_124 : decode b_X12_compile 124 = .ok (.putfield 20, 3) := by decide +kernel
theorem d_X12_compile_127 : decode b_X12_compile 127 = .ok (.bipush (-20), 2) := by decide +kernel
theorem d_X12_compile_129 : decode b_X12_compile 129 = .ok (.aload_n 0, 1) := by decide +kernel
theorem d_X12_compile_130 : decode b_X12_compile 130 = .ok (.getfield 62, 3) := by decide +kernel
theorem d_X12_compile_133 : decode b_X12_compile 133 = .ok (.getfield 147, 3) := by decide +kernel
theorem d_X12_compile_136 : decode b_X12_compile 136 = .ok (.isub, 1) := by decide +kernel
theorem d_X12_compile_137 : decode b_X12_compile 137 = .ok (.ireturn, 1) := by decide +kernel
theorem d_X12_compile_138 : decode b_X12_compile 138 = .ok (.aload_n 0, 1) := by decide +kernel
theorem d_X12_compile_139 : decode b_X12_compile 139 = .ok (.getfield 53, 3) := by decide +kernel
theorem d_X12_compile_142 : decode b_X12_compile 142 = .ok (.aload_n 0, 1) := by decide +kernel
theorem d_X12_compile_143 : decode b_X12_compile 143 = .ok (.getfield 62, 3) := by decide +kernel
theorem d_X12_compile_146 : decode b_X12_compile 146 = .ok (.getfield 156, 3) := by decide +kernel
theorem d_X12_compile_149 : decode b_X12_compile 149 = .ok (.invokevirtual 159, 3) := by decide +kernel
theorem d_X12_compile_152 : decode b_X12_compile 152 = .ok (.ireturn, 1) := by decide +kernel
theorem d_X10_scan_0 : decode b_X10_scan 0 = .ok (.aload_n 0, 1) := by decide +kernel
theorem d_X10_scan_1 : decode b_X10_scan 1 = .ok (.iload_n 1, 1) := by decide +kernel
theorem d_X10_scan_2 : decode b_X10_scan 2 = .ok (.putfield 31, 3) := by decide +kernel
theorem d_X10_scan_5 : decode b_X10_scan 5 = .ok (.aload_n 0, 1) := by decide +kernel
theorem d_X10_scan_6 : decode b_X10_scan 6 = .ok (.iconst 0, 1) := by decide +kernel
theorem d_X10_scan_7 : decode b_X10_scan 7 = .ok (.putfield 35, 3) := by decide +kernel
theorem d_X10_scan_10 : decode b_X10_scan 10 = .ok (.aload_n 0, 1) := by decide +kernel
theorem d_X10_scan_11 : decode b_X10_scan 11 = .ok (.iconst 1, 1) := by decide +kernel
theorem d_X10_scan_12 : decode b_X10_scan 12 = .ok (.putfield 38, 3) := by decide +kernel
theorem d_X10_scan_15 : decode b_X10_scan 15 = .ok (.aload_n 0, 1) := by decide +kernel
theorem d_X10_scan_16 : decode b_X10_scan 16 = .ok (.iconst 0, 1) := by decide +kernel
theorem d_X10_scan_17 : decode b_X10_scan 17 = .ok (.putfield 41, 3) := by decide +kernel
theorem d_X10_scan_20 : decode b_X10_scan 20 = .ok (.iconst 1, 1) := by decide +kernel
theorem d_X10_scan_21 : decode b_X10_scan 21 = .ok (.istore_n 2, 1) := by decide +kernel
theorem d_X10_scan_22 : decode b_X10_scan 22 = .ok (.iconst 0, 1) := by decide +kernel
theorem d_X10_scan_23 : decode b_X10_scan 23 = .ok (.istore_n 3, 1) := by decide +kernel
theorem d_X10_scan_24 : decode b_X10_scan 24 = .ok (.iload_n 3, 1) := by decide +kernel
theorem d_X10_scan_25 : decode b_X10_scan 25 = .ok (.aload_n 0, 1) := by decide +kernel
theorem d_X10_scan_26 : decode b_X10_scan 26 = .ok (.getfield 31, 3) := by decide +kernel
theorem d_X10_scan_29 : decode b_X10_scan 29 = .ok (.if_icmp .gt 33, 3) := by decide +kernel
theorem d_X10_scan_32 : decode b_X10_scan 32 = .ok (.iload_n 2, 1) := by decide +kernel
theorem d_X10_scan_33 : decode b_X10_scan 33 = .ok (.ifCond .eq 29, 3) := by decide +kernel
theorem d_X10_scan_36 : decode b_X10_scan 36 = .ok (.aload_n 0, 1) := by decide +kernel
theorem d_X10_scan_37 : decode b_X10_scan 37 = .ok (.invokevirtual 44, 3) := by decide +kernel
theorem d_X10_scan_40 : decode b_X10_scan 40 = .ok (.ifCond .eq 14, 3) := by decide +kernel
theorem d_X10_scan_43 : decode b_X10_scan 43 = .ok (.aload_n 0, 1) := by decide +kernel
theorem d_X10_scan_44 : decode b_X10_scan 44 = .ok (.invokevirtual 48, 3) := by decide +kernel
theorem d_X10_scan_47 : decode b_X10_scan 47 = .ok (.ifCond .eq 7, 3) := by decide +kernel
theorem d_X10_scan_50 : decode b_X10_scan 50 = .ok (.iconst 1, 1) := by decide +kernel
theorem d_X10_scan_51 : decode b_X10_scan 51 = .ok (.goto 4, 3) := by decide +kernel
theorem d_X10_scan_54 : decode b_X10_scan 54 = .ok (.iconst 0, 1) := by decide +kernel
theorem d_X10_scan_55 : decode b_X10_scan 55 = .ok (.istore_n 2, 1) := by decide +kernel
theorem d_X10_scan_56 : decode b_X10_scan 56 = .ok (.iinc 3 1, 3) := by decide +kernel
theorem d_X10_scan_59 : decode b_X10_scan 59 = .ok (.goto (-35), 3) := by decide +kernel
theorem d_X10_scan_62 : decode b_X10_scan 62 = .ok (.return_, 1) := by decide +kernel
theorem d_X10_skipBlanks_0 : decode b_X10_skipBlanks 0 = .ok (.iconst 0, 1) := by decide +kernel
theorem d_X10_skipBlanks_1 : decode b_X10_skipBlanks 1 = .ok (.istore_n 1, 1) := by decide +kernel
theorem d_X10_skipBlanks_2 : decode b_X10_skipBlanks 2 = .ok (.iload_n 1, 1) := by decide +kernel
theorem d_X10_skipBlanks_3 : decode b_X10_skipBlanks 3 = .ok (.aload_n 0, 1) := by decide +kernel
theorem d_X10_skipBlanks_4 : decode b_X10_skipBlanks 4 = .ok (.getfield 31, 3) := by decide +kernel
theorem d_X10_skipBlanks_7 : decode b_X10_skipBlanks 7 = .ok (.if_icmp .gt 135, 3) := by decide +kernel
theorem d_X10_skipBlanks_10 : decode b_X10_skipBlanks 10 = .ok (.aload_n 0, 1) := by decide +kernel
theorem d_X10_skipBlanks_11 : decode b_X10_skipBlanks 11 = .ok (.aload_n 0, 1) := by decide +kernel
theorem d_X10_skipBlanks_12 : decode b_X10_skipBlanks 12 = .ok (.getfield 35, 3) := by decide +kernel
theorem d_X10_skipBlanks_15 : decode b_X10_skipBlanks 15 = .ok (.invokevirtual 51, 3) := by decide +kernel
theorem d_X10_skipBlanks_18 : decode b_X10_skipBlanks 18 = .ok (.istore_n 2, 1) := by decide +kernel
theorem d_X10_skipBlanks_19 : decode b_X10_skipBlanks 19 = .ok (.iload_n 2, 1) := by decide +kernel
theorem d_X10_skipBlanks_20 : decode b_X10_skipBlanks 20 = .ok (.bipush 47, 2) := by decide +kernel
theorem d_X10_skipBlanks_22 : decode b_X10_skipBlanks 22 = .ok (.if_icmp .ne 16, 3) := by decide +kernel
theorem d_X10_skipBlanks_25 : decode b_X10_skipBlanks 25 = .ok (.aload_n 0, 1) := by decide +kernel
theorem d_X10_skipBlanks_26 : decode b_X10_skipBlanks 26 = .ok (.aload_n 0, 1) := by decide +kernel
theorem d_X10_skipBlanks_27 : decode b_X10_skipBlanks 27 = .ok (.getfield 35, 3) := by decide +kernel
theorem d_X10_skipBlanks_30 : decode b_X10_skipBlanks 30 = .ok (.iconst 1, 1) := by decide +kernel
theorem d_X10_skipBlanks_31 : decode b_X10_skipBlanks 31 = .ok (.iadd, 1) := by decide +kernel
theorem d_X10_skipBlanks_32 : decode b_X10_skipBlanks 32 = .ok (.invokevirtual 51, 3) := by decide +kernel
theorem d_X10_skipBlanks_35 : decode b_X10_skipBlanks 35 = .ok (.goto 4, 3) := by decide +kernel
theorem d_X10_skipBlanks_38 : decode b_X10_skipBlanks 38 = .ok (.iconst (-1), 1) := by decide +kernel
theorem d_X10_skipBlanks_39 : decode b_X10_skipBlanks 39 = .ok (.istore_n 3, 1) := by decide +kernel
theorem d_X10_skipBlanks_40 : decode b_X10_skipBlanks 40 = .ok (.iload_n 3, 1) := by decide +kernel
theorem d_X10_skipBlanks_41 : decode b_X10_skipBlanks 41 = .ok (.bipush 47, 2) := by decide +kernel
theorem d_X10_skipBlanks_43 : decode b_X10_skipBlanks 43 = .ok (.if_icmp .eq 9, 3) := by decide +kernel
theorem d_X10_skipBlanks_46 : decode b_X10_skipBlanks 46 = .ok (.iload_n 3, 1) := by decide +kernel
theorem d_X10_skipBlanks_47 : decode b_X10_skipBlanks 47 = .ok (.bipush 42, 2) := by decide +kernel
theorem d_X10_skipBlanks_49 : decode b_X10_skipBlanks 49 = .ok (.if_icmp .ne 28, 3) := by decide +kernel
theorem d_X10_skipBlanks_52 : decode b_X10_skipBlanks 52 = .ok (.iload_n 3, 1) := by decide +kernel
theorem d_X10_skipBlanks_53 : decode b_X10_skipBlanks 53 = .ok (.bipush 47, 2) := by decide +kernel
theorem d_X10_skipBlanks_55 : decode b_X10_skipBlanks 55 = .ok (.if_icmp .ne 13, 3) := by decide +kernel
theorem d_X10_skipBlanks_58 : decode b_X10_skipBlanks 58 = .ok (.aload_n 0, 1) := by decide +kernel
theorem d_X10_skipBlanks_59 : decode b_X10_skipBlanks 59 = .ok (.invokevirtual 55, 3) := by decide +kernel
theorem d_X10_skipBlanks_62 : decode b_X10_skipBlanks 62 = .ok (.ifCond .eq 13, 3) := by decide +kernel
theorem d_X10_skipBlanks_65 : decode b_X10_skipBlanks 65 = .ok (.goto 71, 3) := by decide +kernel
theorem d_X10_skipBlanks_68 : decode b_X10_skipBlanks 68 = .ok (.aload_n 0, 1) := by decide +kernel
theorem d_X10_skipBlanks_69 : decode b_X10_skipBlanks 69 = .ok (.invokevirtual 58, 3) := by decide +kernel
theorem d_X10_skipBlanks_72 : decode b_X10_skipBlanks 72 = .ok (.ifCond .ne 64, 3) := by decide +kernel
theorem d_X10_skipBlanks_75 : decode b_X10_skipBlanks 75 = .ok (.iconst 0, 1) := by decide +kernel
theorem d_X10_skipBlanks_76 : decode b_X10_skipBlanks 76 = .ok (.ireturn, 1) := by decide +kernel
theorem d_X10_skipBlanks_77 : decode b_X10_skipBlanks 77 = .ok (.iload_n 2, 1) := by decide +kernel
theorem d_X10_skipBlanks_78 : decode b_X10_skipBlanks 78 = .ok (.bipush 9, 2) := by decide +kernel
theorem d_X10_skipBlanks_80 : decode b_X10_skipBlanks 80 = .ok (.if_icmp .eq 21, 3) := by decide +kernel
theorem d_X10_skipBlanks_83 : decode b_X10_skipBlanks 83 = .ok (.iload_n 2, 1) := by decide +kernel
theorem d_X10_skipBlanks_84 : decode b_X10_skipBlanks 84 = .ok (.bipush 10, 2) := by decide +kernel
theorem d_X10_skipBlanks_86 : decode b_X10_skipBlanks 86 = .ok (.if_icmp .eq 15, 3) := by decide +kernel
theorem d_X10_skipBlanks_89 : decode b_X10_skipBlanks 89 = .ok (.iload_n 2, 1) := by decide +kernel
theorem d_X10_skipBlanks_90 : decode b_X10_skipBlanks 90 = .ok (.bipush 13, 2) := by decide +kernel
theorem d_X10_skipBlanks_92 : decode b_X10_skipBlanks 92 = .ok (.if_icmp .eq 9, 3) := by decide +kernel
theorem d_X10_skipBlanks_95 : decode b_X10_skipBlanks 95 = .ok (.iload_n 2, 1) := by decide +kernel
theorem d_X10_skipBlanks_96 : decode b_X10_skipBlanks 96 = .ok (.bipush 32, 2) := by decide +kernel
theorem d_X10_skipBlanks_98 : decode b_X10_skipBlanks 98 = .ok (.if_icmp .ne 36, 3) := by decide +kernel
theorem d_X10_skipBlanks_101 : decode b_X10_skipBlanks 101 = .ok (.aload_n 0, 1) := by decide +kernel
theorem d_X10_skipBlanks_102 : decode b_X10_skipBlanks 102 = .ok (.dup, 1) := by decide +kernel
theorem d_X10_skipBlanks_103 : decode b_X10_skipBlanks 103 = .ok (.getfield 38, 3) := by decide +kernel
theorem d_X10_skipBlanks_106 : decode b_X10_skipBlanks 106 = .ok (.iload_n 2, 1) := by decide +kernel
theorem d_X10_skipBlanks_107 : decode b_X10_skipBlanks 107 = .ok (.bipush 10, 2) := by decide +kernel
theorem d_X10_skipBlanks_109 : decode b_X10_skipBlanks 109 = .ok (.if_icmp .ne 7, 3) := by decide +kernel
theorem d_X10_skipBlanks_112 : decode b_X10_skipBlanks 112 = .ok (.iconst 1, 1) := by decide +kernel
theorem d_X10_skipBlanks_113 : decode b_X10_skipBlanks 113 = .ok (.goto 4, 3) := by decide +kernel
theorem d_X10_skipBlanks_116 : decode b_X10_skipBlanks 116 = .ok (.iconst 0, 1) := by decide +kernel
theorem d_X10_skipBlanks_117 : decode b_X10_skipBlanks 117 = .ok (.iadd, 1) := by decide +kernel
theorem d_X10_skipBlanks_118 : decode b_X10_skipBlanks 118 = .ok (.putfield 38, 3) := by decide +kernel
theorem d_X10_skipBlanks_121 : decode b_X10_skipBlanks 121 = .ok (.aload_n 0, 1) := by decide +kernel
theorem d_X10_skipBlanks_122 : decode b_X10_skipBlanks 122 = .ok (.dup, 1) := by decide +kernel
theorem d_X10_skipBlanks_123 : decode b_X10_skipBlanks 123 = .ok (.getfield 35, 3) := by decide +kernel
theorem d_X10_skipBlanks_126 : decode b_X10_skipBlanks 126 = .ok (.iconst 1, 1) := by decide +kernel
theorem d_X10_skipBlanks_127 : decode b_X10_skipBlanks 127 = .ok (.iadd, 1) := by decide +kernel
theorem d_X10_skipBlanks_128 : decode b_X10_skipBlanks 128 = .ok (.putfield 35, 3) := by decide +kernel
theorem d_X10_skipBlanks_131 : decode b_X10_skipBlanks 131 = .ok (.goto 5, 3) := by decide +kernel
theorem d_X10_skipBlanks_134 : decode b_X10_skipBlanks 134 = .ok (.iconst 1, 1) := by decide +kernel
theorem d_X10_skipBlanks_135 : decode b_X10_skipBlanks 135 = .ok (.ireturn, 1) := by decide +kernel
theorem d_X10_skipBlanks_136 : decode b_X10_skipBlanks 136 = .ok (.iinc 1 1, 3) := by decide +kernel
theorem d_X10_skipBlanks_139 : decode b_X10_skipBlanks 139 = .ok (.goto (-137), 3) := by decide +kernel
theorem d_X10_skipBlanks_142 : decode b_X10_skipBlanks 142 = .ok (.iconst 1, 1) := by decide +kernel
theorem d_X10_skipBlanks_143 : decode b_X10_skipBlanks 143 = .ok (.ireturn, 1) := by decide +kernel
theorem d_X10_byteAt_0 : decode b_X10_byteAt 0 = .ok (.iload_n 1, 1) := by decide +kernel
theorem d_X10_byteAt_1 : decode b_X10_byteAt 1 = .ok (.ifCond .lt 33, 3) := by decide +kernel
theorem d_X10_byteAt_4 : decode b_X10_byteAt 4 = .ok (.iload_n 1, 1) := by decide +kernel
theorem d_X10_byteAt_5 : decode b_X10_byteAt 5 = .ok (.aload_n 0, 1) := by decide +kernel
theorem d_X10_byteAt_6 : decode b_X10_byteAt 6 = .ok (.getfield 31, 3) := by decide +kernel
theorem d_X10_byteAt_9 : decode b_X10_byteAt 9 = .ok (.if_icmp .ge 25, 3) := by decide +kernel
theorem d_X10_byteAt_12 : decode b_X10_byteAt 12 = .ok (.iload_n 1, 1) := by decide +kernel
theorem d_X10_byteAt_13 : decode b_X10_byteAt 13 = .ok (.aload_n 0, 1) := by decide +kernel
theorem d_X10_byteAt_14 : decode b_X10_byteAt 14 = .ok (.getfield 27, 3) := by decide +kernel
theorem d_X10_byteAt_17 : decode b_X10_byteAt 17 = .ok (.arraylength, 1) := by decide +kernel
theorem d_X10_byteAt_18 : decode b_X10_byteAt 18 = .ok (.if_icmp .ge 16, 3) := by decide +kernel
theorem d_X10_byteAt_21 : decode b_X10_byteAt 21 = .ok (.aload_n 0, 1) := by decide +kernel
theorem d_X10_byteAt_22 : decode b_X10_byteAt 22 = .ok (.getfield 27, 3) := by decide +kernel
theorem d_X10_byteAt_25 : decode b_X10_byteAt 25 = .ok (.iload_n 1, 1) := by decide +kernel
theorem d_X10_byteAt_26 : decode b_X10_byteAt 26 = .ok (.baload, 1) := by decide +kernel
theorem d_X10_byteAt_27 : decode b_X10_byteAt 27 = .ok (.sipush 255, 3) := by decide +kernel
theorem d_X10_byteAt_30 : decode b_X10_byteAt 30 = .ok (.iand, 1) := by decide +kernel
theorem d_X10_byteAt_31 : decode b_X10_byteAt 31 = .ok (.goto 4, 3) := by decide +kernel
theorem d_X10_byteAt_34 : decode b_X10_byteAt 34 = .ok (.iconst (-1), 1) := by decide +kernel
theorem d_X10_byteAt_35 : decode b_X10_byteAt 35 = .ok (.ireturn, 1) := by decide +kernel
theorem d_X10_skipLine_0 : decode b_X10_skipLine 0 = .ok (.aload_n 0, 1) := by decide +kernel
theorem d_X10_skipLine_1 : decode b_X10_skipLine 1 = .ok (.getfield 35, 3) := by decide +kernel
theorem d_X10_skipLine_4 : decode b_X10_skipLine 4 = .ok (.aload_n 0, 1) := by decide +kernel
theorem d_X10_skipLine_5 : decode b_X10_skipLine 5 = .ok (.getfield 31, 3) := by decide +kernel
theorem d_X10_skipLine_8 : decode b_X10_skipLine 8 = .ok (.if_icmp .ge 52, 3) := by decide +kernel
theorem d_X10_skipLine_11 : decode b_X10_skipLine 11 = .ok (.aload_n 0, 1) := by decide +kernel
theorem d_X10_skipLine_12 : decode b_X10_skipLine 12 = .ok (.aload_n 0, 1) := by decide +kernel
theorem d_X10_skipLine_13 : decode b_X10_skipLine 13 = .ok (.getfield 35, 3) := by decide +kernel
theorem d_X10_skipLine_16 : decode b_X10_skipLine 16 = .ok (.invokevirtual 51, 3) := by decide +kernel
theorem d_X10_skipLine_19 : decode b_X10_skipLine 19 = .ok (.bipush 10, 2) := by decide +kernel
theorem d_X10_skipLine_21 : decode b_X10_skipLine 21 = .ok (.if_icmp .eq 39, 3) := by decide +kernel
theorem d_X10_skipLine_24 : decode b_X10_skipLine 24 = .ok (.aload_n 0, 1) := by decide +kernel
theorem d_X10_skipLine_25 : decode b_X10_skipLine 25 = .ok (.aload_n 0, 1) := by decide +kernel
theorem d_X10_skipLine_26 : decode b_X10_skipLine 26 = .ok (.getfield 35, 3) := by decide +kernel
theorem d_X10_skipLine_29 : decode b_X10_skipLine 29 = .ok (.invokevirtual 51, 3) := by decide +kernel
theorem d_X10_skipLine_32 : decode b_X10_skipLine 32 = .ok (.invokestatic 61, 3) := by decide +kernel
theorem d_X10_skipLine_35 : decode b_X10_skipLine 35 = .ok (.ifCond .ne 12, 3) := by decide +kernel
theorem d_X10_skipLine_38 : decode b_X10_skipLine 38 = .ok (.aload_n 0, 1) := by decide +kernel
theorem d_X10_skipLine_39 : decode b_X10_skipLine 39 = .ok (.aload_n 0, 1) := by decide +kernel
theorem d_X10_skipLine_40 : decode b_X10_skipLine 40 = .ok (.getfield 35, 3) := by decide +kernel
theorem d_X10_skipLine_43 : decode b_X10_skipLine 43 = .ok (.invokevirtual 65, 3) := by decide +kernel
theorem d_X10_skipLine_46 : decode b_X10_skipLine 46 = .ok (.ireturn, 1) := by decide +kernel
theorem d_X10_skipLine_47 : decode b_X10_skipLine 47 = .ok (.aload_n 0, 1) := by decide +kernel
theorem d_X10_skipLine_48 : decode b_X10_skipLine 48 = .ok (.dup, 1) := by decide +kernel
theorem d_X10_skipLine_49 : decode b_X10_skipLine 49 = .ok (.getfield 35, 3) := by decide +kernel
theorem d_X10_skipLine_52 : decode b_X10_skipLine 52 = .ok (.iconst 1, 1) := by decide +kernel
theorem d_X10_skipLine_53 : decode b_X10_skipLine 53 = .ok (.iadd, 1) := by decide +kernel
theorem d_X10_skipLine_54 : decode b_X10_skipLine 54 = .ok (.putfield 35, 3) := by decide +kernel
theorem d_X10_skipLine_57 : decode b_X10_skipLine 57 = .ok (.goto (-57), 3) := by decide +kernel
theorem d_X10_skipLine_60 : decode b_X10_skipLine 60 = .ok (.iconst 1, 1) := by decide +kernel
theorem d_X10_skipLine_61 : decode b_X10_skipLine 61 = .ok (.ireturn, 1) := by decide +kernel
theorem d_X10_mayOccur_0 : decode b_X10_mayOccur 0 = .ok (.iload_n 0, 1) := by decide +kernel
theorem d_X10_mayOccur_1 : decode b_X10_mayOccur 1 = .ok (.bipush 32, 2) := by decide +kernel
theorem d_X10_mayOccur_3 : decode b_X10_mayOccur 3 = .ok (.if_icmp .lt 9, 3) := by decide +kernel
theorem d_X10_mayOccur_6 : decode b_X10_mayOccur 6 = .ok (.iload_n 0, 1) := by decide +kernel
theorem d_X10_mayOccur_7 : decode b_X10_mayOccur 7 = .ok (.bipush 126, 2) := by decide +kernel
theorem d_X10_mayOccur_9 : decode b_X10_mayOccur 9 = .ok (.if_icmp .le 21, 3) := by decide +kernel
theorem d_X10_mayOccur_12 : decode b_X10_mayOccur 12 = .ok (.iload_n 0, 1) := by decide +kernel
theorem d_X10_mayOccur_13 : decode b_X10_mayOccur 13 = .ok (.bipush 9, 2) := by decide +kernel
theorem d_X10_mayOccur_15 : decode b_X10_mayOccur 15 = .ok (.if_icmp .eq 15, 3) := by decide +kernel
theorem d_X10_mayOccur_18 : decode b_X10_mayOccur 18 = .ok (.iload_n 0, 1) := by decide +kernel
theorem d_X10_mayOccur_19 : decode b_X10_mayOccur 19 = .ok (.bipush 10, 2) := by decide +kernel
theorem d_X10_mayOccur_21 : decode b_X10_mayOccur 21 = .ok (.if_icmp .eq 9, 3) := by decide +kernel
theorem d_X10_mayOccur_24 : decode b_X10_mayOccur 24 = .ok (.iload_n 0, 1) := by decide +kernel
theorem d_X10_mayOccur_25 : decode b_X10_mayOccur 25 = .ok (.bipush 13, 2) := by decide +kernel
theorem d_X10_mayOccur_27 : decode b_X10_mayOccur 27 = .ok (.if_icmp .ne 7, 3) := by decide +kernel
theorem d_X10_mayOccur_30 : decode b_X10_mayOccur 30 = .ok (.iconst 1, 1) := by decide +kernel
theorem d_X10_mayOccur_31 : decode b_X10_mayOccur 31 = .ok (.goto 4, 3) := by decide +kernel
theorem d_X10_mayOccur_34 : decode b_X10_mayOccur 34 = .ok (.iconst 0, 1) := by decide +kernel
theorem d_X10_mayOccur_35 : decode b_X10_mayOccur 35 = .ok (.ireturn, 1) := by decide +kernel
theorem d_X10_bad_0 : decode b_X10_bad 0 = .ok (.aload_n 0, 1) := by decide +kernel
theorem d_X10_bad_1 : decode b_X10_bad 1 = .ok (.iload_n 1, 1) := by decide +kernel
theorem d_X10_bad_2 : decode b_X10_bad 2 = .ok (.putfield 35, 3) := by decide +kernel
theorem d_X10_bad_5 : decode b_X10_bad 5 = .ok (.aload_n 0, 1) := by decide +kernel
theorem d_X10_bad_6 : decode b_X10_bad 6 = .ok (.iconst 1, 1) := by decide +kernel
theorem d_X10_bad_7 : decode b_X10_bad 7 = .ok (.iconst 0, 1) := by decide +kernel
theorem d_X10_bad_8 : decode b_X10_bad 8 = .ok (.iconst 0, 1) := by decide +kernel
theorem d_X10_bad_9 : decode b_X10_bad 9 = .ok (.invokevirtual 68, 3) := by decide +kernel
theorem d_X10_bad_12 : decode b_X10_bad 12 = .ok (.pop, 1) := by decide +kernel
theorem d_X10_bad_13 : decode b_X10_bad 13 = .ok (.iconst 0, 1) := by decide +kernel
theorem d_X10_bad_14 : decode b_X10_bad 14 = .ok (.ireturn, 1) := by decide +kernel
theorem d_X10_add_0 : decode b_X10_add 0 = .ok (.aload_n 0, 1) := by decide +kernel
theorem d_X10_add_1 : decode b_X10_add 1 = .ok (.getfield 41, 3) := by decide +kernel
theorem d_X10_add_4 : decode b_X10_add 4 = .ok (.ifCond .lt 107, 3) := by decide +kernel
theorem d_X10_add_7 : decode b_X10_add 7 = .ok (.aload_n 0, 1) := by decide +kernel
theorem d_X10_add_8 : decode b_X10_add 8 = .ok (.getfield 41, 3) := by decide +kernel
theorem d_X10_add_11 : decode b_X10_add 11 = .ok (.aload_n 0, 1) := by decide +kernel
theorem d_X10_add_12 : decode b_X10_add 12 = .ok (.getfield 9, 3) := by decide +kernel
theorem d_X10_add_15 : decode b_X10_add 15 = .ok (.arraylength, 1) := by decide +kernel
theorem d_X10_add_16 : decode b_X10_add 16 = .ok (.if_icmp .ge 95, 3) := by decide +kernel
theorem d_X10_add_19 : decode b_X10_add 19 = .ok (.aload_n 0, 1) := by decide +kernel
theorem d_X10_add_20 : decode b_X10_add 20 = .ok (.getfield 41, 3) := by decide +kernel
theorem d_X10_add_23 : decode b_X10_add 23 = .ok (.aload_n 0, 1) := by decide +kernel
theorem d_X10_add_24 : decode b_X10_add 24 = .ok (.getfield 15, 3) := by decide +kernel
theorem d_X10_add_27 : decode b_X10_add 27 = .ok (.arraylength, 1) := by decide +kernel
theorem d_X10_add_28 : decode b_X10_add 28 = .ok (.if_icmp .ge 83, 3) := by decide +kernel
theorem d_X10_add_31 : decode b_X10_add 31 = .ok (.aload_n 0, 1) := by decide +kernel
theorem d_X10_add_32 : decode b_X10_add 32 = .ok (.getfield 41, 3) := by decide +kernel
theorem d_X10_add_35 : decode b_X10_add 35 = .ok (.aload_n 0, 1) := by decide +kernel
theorem d_X10_add_36 : decode b_X10_add 36 = .ok (.getfield 18, 3) := by decide +kernel
theorem d_X10_add_39 : decode b_X10_add 39 = .ok (.arraylength, 1) := by decide +kernel
theorem d_X10_add_40 : decode b_X10_add 40 = .ok (.if_icmp .ge 71, 3) := by decide +kernel
theorem d_X10_add_43 : decode b_X10_add 43 = .ok (.aload_n 0, 1) := by decide +kernel
theorem d_X10_add_44 : decode b_X10_add 44 = .ok (.getfield 41, 3) := by decide +kernel
theorem d_X10_add_47 : decode b_X10_add 47 = .ok (.aload_n 0, 1) := by decide +kernel
theorem d_X10_add_48 : decode b_X10_add 48 = .ok (.getfield 21, 3) := by decide +kernel
theorem d_X10_add_51 : decode b_X10_add 51 = .ok (.arraylength, 1) := by decide +kernel
theorem d_X10_add_52 : decode b_X10_add 52 = .ok (.if_icmp .ge 59, 3) := by decide +kernel
theorem d_X10_add_55 : decode b_X10_add 55 = .ok (.aload_n 0, 1) := by decide +kernel
theorem d_X10_add_56 : decode b_X10_add 56 = .ok (.getfield 9, 3) := by decide +kernel
theorem d_X10_add_59 : decode b_X10_add 59 = .ok (.aload_n 0, 1) := by decide +kernel
theorem d_X10_add_60 : decode b_X10_add 60 = .ok (.getfield 41, 3) := by decide +kernel
theorem d_X10_add_63 : decode b_X10_add 63 = .ok (.iload_n 1, 1) := by decide +kernel
theorem d_X10_add_64 : decode b_X10_add 64 = .ok (.iastore, 1) := by decide +kernel
theorem d_X10_add_65 : decode b_X10_add 65 = .ok (.aload_n 0, 1) := by decide +kernel
theorem d_X10_add_66 : decode b_X10_add 66 = .ok (.getfield 15, 3) := by decide +kernel
theorem d_X10_add_69 : decode b_X10_add 69 = .ok (.aload_n 0, 1) := by decide +kernel
theorem d_X10_add_70 : decode b_X10_add 70 = .ok (.getfield 41, 3) := by decide +kernel
theorem d_X10_add_73 : decode b_X10_add 73 = .ok (.iload_n 2, 1) := by decide +kernel
theorem d_X10_add_74 : decode b_X10_add 74 = .ok (.iastore, 1) := by decide +kernel
theorem d_X10_add_75 : decode b_X10_add 75 = .ok (.aload_n 0, 1) := by decide +kernel
theorem d_X10_add_76 : decode b_X10_add 76 = .ok (.getfield 18, 3) := by decide +kernel
theorem d_X10_add_79 : decode b_X10_add 79 = .ok (.aload_n 0, 1) := by decide +kernel
theorem d_X10_add_80 : decode b_X10_add 80 = .ok (.getfield 41, 3) := by decide +kernel
theorem d_X10_add_83 : decode b_X10_add 83 = .ok (.aload_n 0, 1) := by decide +kernel
theorem d_X10_add_84 : decode b_X10_add 84 = .ok (.getfield 35, 3) := by decide +kernel
theorem d_X10_add_87 : decode b_X10_add 87 = .ok (.iastore, 1) := by decide +kernel
theorem d_X10_add_88 : decode b_X10_add 88 = .ok (.aload_n 0, 1) := by decide +kernel
theorem d_X10_add_89 : decode b_X10_add 89 = .ok (.getfield 21, 3) := by decide +kernel
theorem d_X10_add_92 : decode b_X10_add 92 = .ok (.aload_n 0, 1) := by decide +kernel
theorem d_X10_add_93 : decode b_X10_add 93 = .ok (.getfield 41, 3) := by decide +kernel
theorem d_X10_add_96 : decode b_X10_add 96 = .ok (.aload_n 0, 1) := by decide +kernel
theorem d_X10_add_97 : decode b_X10_add 97 = .ok (.getfield 38, 3) := by decide +kernel
theorem d_X10_add_100 : decode b_X10_add 100 = .ok (.iastore, 1) := by decide +kernel
theorem d_X10_add_101 : decode b_X10_add 101 = .ok (.aload_n 0, 1) := by decide +kernel
theorem d_X10_add_102 : decode b_X10_add 102 = .ok (.dup, 1) := by decide +kernel
theorem d_X10_add_103 : decode b_X10_add 103 = .ok (.getfield 41, 3) := by decide +kernel
theorem d_X10_add_106 : decode b_X10_add 106 = .ok (.iconst 1, 1) := by decide +kernel
theorem d_X10_add_107 : decode b_X10_add 107 = .ok (.iadd, 1) := by decide +kernel
theorem d_X10_add_108 : decode b_X10_add 108 = .ok (.putfield 41, 3) := by decide +kernel
theorem d_X10_add_111 : decode b_X10_add 111 = .ok (.aload_n 0, 1) := by decide +kernel
theorem d_X10_add_112 : decode b_X10_add 112 = .ok (.dup, 1) := by decide +kernel
theorem d_X10_add_113 : decode b_X10_add 113 = .ok (.getfield 35, 3) := by decide +kernel
theorem d_X10_add_116 : decode b_X10_add 116 = .ok (.iload_n 3, 1) := by decide +kernel
theorem d_X10_add_117 : decode b_X10_add 117 = .ok (.iadd, 1) := by decide +kernel
theorem d_X10_add_118 : decode b_X10_add 118 = .ok (.putfield 35, 3) := by decide +kernel
theorem d_X10_add_121 : decode b_X10_add 121 = .ok (.iconst 1, 1) := by decide +kernel
theorem d_X10_add_122 : decode b_X10_add 122 = .ok (.ireturn, 1) := by decide +kernel
theorem d_X10_skipComment_0 : decode b_X10_skipComment 0 = .ok (.aload_n 0, 1) := by decide +kernel
theorem d_X10_skipComment_1 : decode b_X10_skipComment 1 = .ok (.getfield 35, 3) := by decide +kernel
theorem d_X10_skipComment_4 : decode b_X10_skipComment 4 = .ok (.iconst 2, 1) := by decide +kernel
theorem d_X10_skipComment_5 : decode b_X10_skipComment 5 = .ok (.iadd, 1) := by decide +kernel
theorem d_X10_skipComment_6 : decode b_X10_skipComment 6 = .ok (.istore_n 1, 1) := by decide +kernel
theorem d_X10_skipComment_7 : decode b_X10_skipComment 7 = .ok (.iload_n 1, 1) := by decide +kernel
theorem d_X10_skipComment_8 : decode b_X10_skipComment 8 = .ok (.aload_n 0, 1) := by decide +kernel
theorem d_X10_skipComment_9 : decode b_X10_skipComment 9 = .ok (.getfield 31, 3) := by decide +kernel
theorem d_X10_skipComment_12 : decode b_X10_skipComment 12 = .ok (.if_icmp .ge 75, 3) := by decide +kernel
theorem d_X10_skipComment_15 : decode b_X10_skipComment 15 = .ok (.aload_n 0, 1) := by decide +kernel
theorem d_X10_skipComment_16 : decode b_X10_skipComment 16 = .ok (.iload_n 1, 1) := by decide +kernel
theorem d_X10_skipComment_17 : decode b_X10_skipComment 17 = .ok (.invokevirtual 51, 3) := by decide +kernel
theorem d_X10_skipComment_20 : decode b_X10_skipComment 20 = .ok (.istore_n 2, 1) := by decide +kernel
theorem d_X10_skipComment_21 : decode b_X10_skipComment 21 = .ok (.iload_n 2, 1) := by decide +kernel
theorem d_X10_skipComment_22 : decode b_X10_skipComment 22 = .ok (.invokestatic 61, 3) := by decide +kernel
theorem d_X10_skipComment_25 : decode b_X10_skipComment 25 = .ok (.ifCond .ne 9, 3) := by decide +kernel
theorem d_X10_skipComment_28 : decode b_X10_skipComment 28 = .ok (.aload_n 0, 1) := by decide +kernel
theorem d_X10_skipComment_29 : decode b_X10_skipComment 29 = .ok (.iload_n 1, 1) := by decide +kernel
theorem d_X10_skipComment_30 : decode b_X10_skipComment 30 = .ok (.invokevirtual 65, 3) := by decide +kernel
theorem d_X10_skipComment_33 : decode b_X10_skipComment 33 = .ok (.ireturn, 1) := by decide +kernel
theorem d_X10_skipComment_34 : decode b_X10_skipComment 34 = .ok (.aload_n 0, 1) := by decide +kernel
theorem d_X10_skipComment_35 : decode b_X10_skipComment 35 = .ok (.dup, 1) := by decide +kernel
theorem d_X10_skipComment_36 : decode b_X10_skipComment 36 = .ok (.getfield 38, 3) := by decide +kernel
theorem d_X10_skipComment_39 : decode b_X10_skipComment 39 = .ok (.iload_n 2, 1) := by decide +kernel
theorem d_X10_skipComment_40 : decode b_X10_skipComment 40 = .ok (.bipush 10, 2) := by decide +kernel
theorem d_X10_skipComment_42 : decode b_X10_skipComment 42 = .ok (.if_icmp .ne 7, 3) := by decide +kernel
theorem d_X10_skipComment_45 : decode b_X10_skipComment 45 = .ok (.iconst 1, 1) := by decide +kernel
theorem d_X10_skipComment_46 : decode b_X10_skipComment 46 = .ok (.goto 4, 3) := by decide +kernel
theorem d_X10_skipComment_49 : decode b_X10_skipComment 49 = .ok (.iconst 0, 1) := by decide +kernel
theorem d_X10_skipComment_50 : decode b_X10_skipComment 50 = .ok (.iadd, 1) := by decide +kernel
theorem d_X10_skipComment_51 : decode b_X10_skipComment 51 = .ok (.putfield 38, 3) := by decide +kernel
theorem d_X10_skipComment_54 : decode b_X10_skipComment 54 = .ok (.iload_n 2, 1) := by decide +kernel
theorem d_X10_skipComment_55 : decode b_X10_skipComment 55 = .ok (.bipush 42, 2) := by decide +kernel
theorem d_X10_skipComment_57 : decode b_X10_skipComment 57 = .ok (.if_icmp .ne 24, 3) := by decide +kernel
theorem d_X10_skipComment_60 : decode b_X10_skipComment 60 = .ok (.aload_n 0, 1) := by decide +kernel
theorem d_X10_skipComment_61 : decode b_X10_skipComment 61 = .ok (.iload_n 1, 1) := by decide +kernel
theorem d_X10_skipComment_62 : decode b_X10_skipComment 62 = .ok (.iconst 1, 1) := by decide +kernel
theorem d_X10_skipComment_63 : decode b_X10_skipComment 63 = .ok (.iadd, 1) := by decide +kernel
theorem d_X10_skipComment_64 : decode b_X10_skipComment 64 = .ok (.invokevirtual 51, 3) := by decide +kernel
theorem d_X10_skipComment_67 : decode b_X10_skipComment 67 = .ok (.bipush 47, 2) := by decide +kernel
theorem d_X10_skipComment_69 : decode b_X10_skipComment 69 = .ok (.if_icmp .ne 12, 3) := by decide +kernel
theorem d_X10_skipComment_72 : decode b_X10_skipComment 72 = .ok (.aload_n 0, 1) := by decide +kernel
theorem d_X10_skipComment_73 : decode b_X10_skipComment 73 = .ok (.iload_n 1, 1) := by decide +kernel
theorem d_X10_skipComment_74 : decode b_X10_skipComment 74 = .ok (.iconst 2, 1) := by decide +kernel
theorem d_X10_skipComment_75 : decode b_X10_skipComment 75 = .ok (.iadd, 1) := by decide +kernel
theorem d_X10_skipComment_76 : decode b_X10_skipComment 76 = .ok (.putfield 35, 3) := by decide +kernel
theorem d_X10_skipComment_79 : decode b_X10_skipComment 79 = .ok (.iconst 1, 1) := by decide +kernel
theorem d_X10_skipComment_80 : decode b_X10_skipComment 80 = .ok (.ireturn, 1) := by decide +kernel
theorem d_X10_skipComment_81 : decode b_X10_skipComment 81 = .ok (.iinc 1 1, 3) := by decide +kernel
theorem d_X10_skipComment_84 : decode b_X10_skipComment 84 = .ok (.goto (-77), 3) := by decide +kernel
theorem d_X10_skipComment_87 : decode b_X10_skipComment 87 = .ok (.aload_n 0, 1) := by decide +kernel
theorem d_X10_skipComment_88 : decode b_X10_skipComment 88 = .ok (.aload_n 0, 1) := by decide +kernel
theorem d_X10_skipComment_89 : decode b_X10_skipComment 89 = .ok (.getfield 35, 3) := by decide +kernel
theorem d_X10_skipComment_92 : decode b_X10_skipComment 92 = .ok (.invokevirtual 65, 3) := by decide +kernel
theorem d_X10_skipComment_95 : decode b_X10_skipComment 95 = .ok (.ireturn, 1) := by decide +kernel
theorem d_X10_token_0 : decode b_X10_token 0 = .ok (.aload_n 0, 1) := by decide +kernel
theorem d_X10_token_1 : decode b_X10_token 1 = .ok (.aload_n 0, 1) := by decide +kernel
theorem d_X10_token_2 : decode b_X10_token 2 = .ok (.getfield 35, 3) := by decide +kernel
theorem d_X10_token_5 : decode b_X10_token 5 = .ok (.invokevirtual 51, 3) := by decide +kernel
theorem d_X10_token_8 : decode b_X10_token 8 = .ok (.istore_n 1, 1) := by decide +kernel
theorem d_X10_token_9 : decode b_X10_token 9 = .ok (.iload_n 1, 1) := by decide +kernel
theorem d_X10_token_10 : decode b_X10_token 10 = .ok (.ifCond .ge 13, 3) := by decide +kernel
theorem d_X10_token_13 : decode b_X10_token 13 = .ok (.aload_n 0, 1) := by decide +kernel
theorem d_X10_token_14 : decode b_X10_token 14 = .ok (.iconst 0, 1) := by decide +kernel
theorem d_X10_token_15 : decode b_X10_token 15 = .ok (.iconst 0, 1) := by decide +kernel
theorem d_X10_token_16 : decode b_X10_token 16 = .ok (.iconst 0, 1) := by decide +kernel
theorem d_X10_token_17 : decode b_X10_token 17 = .ok (.invokevirtual 68, 3) := by decide +kernel
theorem d_X10_token_20 : decode b_X10_token 20 = .ok (.pop, 1) := by decide +kernel
theorem d_X10_token_21 : decode b_X10_token 21 = .ok (.iconst 0, 1) := by decide +kernel
theorem d_X10_token_22 : decode b_X10_token 22 = .ok (.ireturn, 1) := by decide +kernel
theorem d_X10_token_23 : decode b_X10_token 23 = .ok (.iload_n 1, 1) := by decide +kernel
theorem d_X10_token_24 : decode b_X10_token 24 = .ok (.invokestatic 72, 3) := by decide +kernel
theorem d_X10_token_27 : decode b_X10_token 27 = .ok (.ifCond .eq 8, 3) := by decide +kernel
theorem d_X10_token_30 : decode b_X10_token 30 = .ok (.aload_n 0, 1) := by decide +kernel
theorem d_X10_token_31 : decode b_X10_token 31 = .ok (.invokevirtual 75, 3) := by decide +kernel
theorem d_X10_token_34 : decode b_X10_token 34 = .ok (.ireturn, 1) := by decide +kernel
theorem d_X10_token_35 : decode b_X10_token 35 = .ok (.iload_n 1, 1) := by decide +kernel
theorem d_X10_token_36 : decode b_X10_token 36 = .ok (.invokestatic 78, 3) := by decide +kernel
theorem d_X10_token_39 : decode b_X10_token 39 = .ok (.ifCond .eq 52, 3) := by decide +kernel
theorem d_X10_token_42 : decode b_X10_token 42 = .ok (.iload_n 1, 1) := by decide +kernel
theorem d_X10_token_43 : decode b_X10_token 43 = .ok (.bipush 48, 2) := by decide +kernel
theorem d_X10_token_45 : decode b_X10_token 45 = .ok (.if_icmp .ne 41, 3) := by decide +kernel
theorem d_X10_token_48 : decode b_X10_token 48 = .ok (.aload_n 0, 1) := by decide +kernel
theorem d_X10_token_49 : decode b_X10_token 49 = .ok (.aload_n 0, 1) := by decide +kernel
theorem d_X10_token_50 : decode b_X10_token 50 = .ok (.getfield 35, 3) := by decide +kernel
theorem d_X10_token_53 : decode b_X10_token 53 = .ok (.iconst 1, 1) := by decide +kernel
theorem d_X10_token_54 : decode b_X10_token 54 = .ok (.iadd, 1) := by decide +kernel
theorem d_X10_token_55 : decode b_X10_token 55 = .ok (.invokevirtual 51, 3) := by decide +kernel
theorem d_X10_token_58 : decode b_X10_token 58 = .ok (.bipush 120, 2) := by decide +kernel
theorem d_X10_token_60 : decode b_X10_token 60 = .ok (.if_icmp .ne 26, 3) := by decide +kernel
theorem d_X10_token_63 : decode b_X10_token 63 = .ok (.aload_n 0, 1) := by decide +kernel
theorem d_X10_token_64 : decode b_X10_token 64 = .ok (.aload_n 0, 1) := by decide +kernel
theorem d_X10_token_65 : decode b_X10_token 65 = .ok (.getfield 35, 3) := by decide +kernel
theorem d_X10_token_68 : decode b_X10_token 68 = .ok (.iconst 2, 1) := by decide +kernel
theorem d_X10_token_69 : decode b_X10_token 69 = .ok (.iadd, 1) := by decide +kernel
theorem d_X10_token_70 : decode b_X10_token 70 = .ok (.invokevirtual 51, 3) := by decide +kernel
theorem d_X10_token_73 : decode b_X10_token 73 = .ok (.invokestatic 81, 3) := by decide +kernel
theorem d_X10_token_76 : decode b_X10_token 76 = .ok (.ifCond .lt 10, 3) := by decide +kernel
theorem d_X10_token_79 : decode b_X10_token 79 = .ok (.aload_n 0, 1) := by decide +kernel
theorem d_X10_token_80 : decode b_X10_token 80 = .ok (.invokevirtual 84, 3) := by decide +kernel
theorem d_X10_token_83 : decode b_X10_token 83 = .ok (.goto 7, 3) := by decide +kernel
theorem d_X10_token_86 : decode b_X10_token 86 = .ok (.aload_n 0, 1) := by decide +kernel
theorem d_X10_token_87 : decode b_X10_token 87 = .ok (.invokevirtual 87, 3) := by decide +kernel
theorem d_X10_token_90 : decode b_X10_token 90 = .ok (.ireturn, 1) := by decide +kernel
theorem d_X10_token_91 : decode b_X10_token 91 = .ok (.iload_n 1, 1) := by decide +kernel
theorem d_X10_token_92 : decode b_X10_token 92 = .ok (.bipush 39, 2) := by decide +kernel
theorem d_X10_token_94 : decode b_X10_token 94 = .ok (.if_icmp .ne 8, 3) := by decide +kernel
theorem d_X10_token_97 : decode b_X10_token 97 = .ok (.aload_n 0, 1) := by decide +kernel
theorem d_X10_token_98 : decode b_X10_token 98 = .ok (.invokevirtual 90, 3) := by decide +kernel
theorem d_X10_token_101 : decode b_X10_token 101 = .ok (.ireturn, 1) := by decide +kernel
theorem d_X10_token_102 : decode b_X10_token 102 = .ok (.iload_n 1, 1) := by decide +kernel
theorem d_X10_token_103 : decode b_X10_token 103 = .ok (.bipush 34, 2) := by decide +kernel
theorem d_X10_token_105 : decode b_X10_token 105 = .ok (.if_icmp .ne 10, 3) := by decide +kernel
theorem d_X10_token_108 : decode b_X10_token 108 = .ok (.aload_n 0, 1) := by decide +kernel
theorem d_X10_token_109 : decode b_X10_token 109 = .ok (.invokevirtual 93, 3) := by decide +kernel
theorem d_X10_token_112 : decode b_X10_token 112 = .ok (.goto 7, 3) := by decide +kernel
theorem d_X10_token_115 : decode b_X10_token 115 = .ok (.aload_n 0, 1) := by decide +kernel
theorem d_X10_token_116 : decode b_X10_token 116 = .ok (.invokevirtual 96, 3) := by decide +kernel
theorem d_X10_token_119 : decode b_X10_token 119 = .ok (.ireturn, 1) := by decide +kernel
theorem d_X10_isLetter_0 : decode b_X10_isLetter 0 = .ok (.iload_n 0, 1) := by decide +kernel
theorem d_X10_isLetter_1 : decode b_X10_isLetter 1 = .ok (.bipush 97, 2) := by decide +kernel
theorem d_X10_isLetter_3 : decode b_X10_isLetter 3 = .ok (.if_icmp .lt 9, 3) := by decide +kernel
theorem d_X10_isLetter_6 : decode b_X10_isLetter 6 = .ok (.iload_n 0, 1) := by decide +kernel
theorem d_X10_isLetter_7 : decode b_X10_isLetter 7 = .ok (.bipush 122, 2) := by decide +kernel
theorem d_X10_isLetter_9 : decode b_X10_isLetter 9 = .ok (.if_icmp .le 21, 3) := by decide +kernel
theorem d_X10_isLetter_12 : decode b_X10_isLetter 12 = .ok (.iload_n 0, 1) := by decide +kernel
theorem d_X10_isLetter_13 : decode b_X10_isLetter 13 = .ok (.bipush 65, 2) := by decide +kernel
theorem d_X10_isLetter_15 : decode b_X10_isLetter 15 = .ok (.if_icmp .lt 9, 3) := by decide +kernel
theorem d_X10_isLetter_18 : decode b_X10_isLetter 18 = .ok (.iload_n 0, 1) := by decide +kernel
theorem d_X10_isLetter_19 : decode b_X10_isLetter 19 = .ok (.bipush 90, 2) := by decide +kernel
theorem d_X10_isLetter_21 : decode b_X10_isLetter 21 = .ok (.if_icmp .le 9, 3) := by decide +kernel
theorem d_X10_isLetter_24 : decode b_X10_isLetter 24 = .ok (.iload_n 0, 1) := by decide +kernel
theorem d_X10_isLetter_25 : decode b_X10_isLetter 25 = .ok (.bipush 95, 2) := by decide +kernel
theorem d_X10_isLetter_27 : decode b_X10_isLetter 27 = .ok (.if_icmp .ne 7, 3) := by decide +kernel
theorem d_X10_isLetter_30 : decode b_X10_isLetter 30 = .ok (.iconst 1, 1) := by decide +kernel
theorem d_X10_isLetter_31 : decode b_X10_isLetter 31 = .ok (.goto 4, 3) := by decide +kernel
theorem d_X10_isLetter_34 : decode b_X10_isLetter 34 = .ok (.iconst 0, 1) := by decide +kernel
theorem d_X10_isLetter_35 : decode b_X10_isLetter 35 = .ok (.ireturn, 1) := by decide +kernel
theorem d_X10_word_0 : decode b_X10_word 0 = .ok (.iconst 1, 1) := by decide +kernel
theorem d_X10_word_1 : decode b_X10_word 1 = .ok (.istore_n 1, 1) := by decide +kernel
theorem d_X10_word_2 : decode b_X10_word 2 = .ok (.aload_n 0, 1) := by decide +kernel
theorem d_X10_word_3 : decode b_X10_word 3 = .ok (.aload_n 0, 1) := by decide +kernel
theorem d_X10_word_4 : decode b_X10_word 4 = .ok (.getfield 35, 3) := by decide +kernel
theorem d_X10_word_7 : decode b_X10_word 7 = .ok (.iconst 1, 1) := by decide +kernel
theorem d_X10_word_8 : decode b_X10_word 8 = .ok (.iadd, 1) := by decide +kernel
theorem d_X10_word_9 : decode b_X10_word 9 = .ok (.invokevirtual 51, 3) := by decide +kernel
theorem d_X10_word_12 : decode b_X10_word 12 = .ok (.istore_n 2, 1) := by decide +kernel
theorem d_X10_word_13 : decode b_X10_word 13 = .ok (.iload_n 1, 1) := by decide +kernel
theorem d_X10_word_14 : decode b_X10_word 14 = .ok (.aload_n 0, 1) := by decide +kernel
theorem d_X10_word_15 : decode b_X10_word 15 = .ok (.getfield 31, 3) := by decide +kernel
theorem d_X10_word_18 : decode b_X10_word 18 = .ok (.if_icmp .gt 36, 3) := by decide +kernel
theorem d_X10_word_21 : decode b_X10_word 21 = .ok (.iload_n 2, 1) := by decide +kernel
theorem d_X10_word_22 : decode b_X10_word 22 = .ok (.invokestatic 72, 3) := by decide +kernel
theorem d_X10_word_25 : decode b_X10_word 25 = .ok (.ifCond .ne 10, 3) := by decide +kernel
theorem d_X10_word_28 : decode b_X10_word 28 = .ok (.iload_n 2, 1) := by decide +kernel
theorem d_X10_word_29 : decode b_X10_word 29 = .ok (.invokestatic 78, 3) := by decide +kernel
theorem d_X10_word_32 : decode b_X10_word 32 = .ok (.ifCond .eq 22, 3) := by decide +kernel
theorem d_X10_word_35 : decode b_X10_word 35 = .ok (.aload_n 0, 1) := by decide +kernel
theorem d_X10_word_36 : decode b_X10_word 36 = .ok (.aload_n 0, 1) := by decide +kernel
theorem d_X10_word_37 : decode b_X10_word 37 = .ok (.getfield 35, 3) := by decide +kernel
theorem d_X10_word_40 : decode b_X10_word 40 = .ok (.iload_n 1, 1) := by decide +kernel
theorem d_X10_word_41 : decode b_X10_word 41 = .ok (.iadd, 1) := by decide +kernel
theorem d_X10_word_42 : decode b_X10_word 42 = .ok (.iconst 1, 1) := by decide +kernel
theorem d_X10_word_43 : decode b_X10_word 43 = .ok (.iadd, 1) := by decide +kernel
theorem d_X10_word_44 : decode b_X10_word 44 = .ok (.invokevirtual 51, 3) := by decide +kernel
theorem d_X10_word_47 : decode b_X10_word 47 = .ok (.istore_n 2, 1) := by decide +kernel
theorem d_X10_word_48 : decode b_X10_word 48 = .ok (.iinc 1 1, 3) := by decide +kernel
theorem d_X10_word_51 : decode b_X10_word 51 = .ok (.goto (-38), 3) := by decide +kernel
theorem d_X10_word_54 : decode b_X10_word 54 = .ok (.iload_n 1, 1) := by decide +kernel
theorem d_X10_word_55 : decode b_X10_word 55 = .ok (.bipush 24, 2) := by decide +kernel
theorem d_X10_word_57 : decode b_X10_word 57 = .ok (.if_icmp .le 12, 3) := by decide +kernel
theorem d_X10_word_60 : decode b_X10_word 60 = .ok (.aload_n 0, 1) := by decide +kernel
theorem d_X10_word_61 : decode b_X10_word 61 = .ok (.aload_n 0, 1) := by decide +kernel
theorem d_X10_word_62 : decode b_X10_word 62 = .ok (.getfield 35, 3) := by decide +kernel
theorem d_X10_word_65 : decode b_X10_word 65 = .ok (.invokevirtual 65, 3) := by decide +kernel
theorem d_X10_word_68 : decode b_X10_word 68 = .ok (.ireturn, 1) := by decide +kernel
theorem d_X10_word_69 : decode b_X10_word 69 = .ok (.aload_n 0, 1) := by decide +kernel
theorem d_X10_word_70 : decode b_X10_word 70 = .ok (.ldc 99, 2) := by decide +kernel
theorem d_X10_word_72 : decode b_X10_word 72 = .ok (.iload_n 1, 1) := by decide +kernel
theorem d_X10_word_73 : decode b_X10_word 73 = .ok (.invokevirtual 101, 3) := by decide +kernel
theorem d_X10_word_76 : decode b_X10_word 76 = .ok (.istore_n 2, 1) := by decide +kernel
theorem d_X10_word_77 : decode b_X10_word 77 = .ok (.aload_n 0, 1) := by decide +kernel
theorem d_X10_word_78 : decode b_X10_word 78 = .ok (.iload_n 2, 1) := by decide +kernel
theorem d_X10_word_79 : decode b_X10_word 79 = .ok (.ifCond .ge 7, 3) := by decide +kernel
theorem d_X10_word_82 : decode b_X10_word 82 = .ok (.iconst 2, 1) := by decide +kernel
theorem d_X10_word_83 : decode b_X10_word 83 = .ok (.goto 6, 3) := by decide +kernel
theorem d_X10_word_86 : decode b_X10_word 86 = .ok (.iconst 5, 1) := by decide +kernel
theorem d_X10_word_87 : decode b_X10_word 87 = .ok (.iload_n 2, 1) := by decide +kernel
theorem d_X10_word_88 : decode b_X10_word 88 = .ok (.iadd, 1) := by decide +kernel
theorem d_X10_word_89 : decode b_X10_word 89 = .ok (.iload_n 1, 1) := by decide +kernel
theorem d_X10_word_90 : decode b_X10_word 90 = .ok (.iload_n 1, 1) := by decide +kernel
theorem d_X10_word_91 : decode b_X10_word 91 = .ok (.invokevirtual 68, 3) := by decide +kernel
theorem d_X10_word_94 : decode b_X10_word 94 = .ok (.ireturn, 1) := by decide +kernel
theorem d_X10_isDigit_0 : decode b_X10_isDigit 0 = .ok (.iload_n 0, 1) := by decide +kernel
theorem d_X10_isDigit_1 : decode b_X10_isDigit 1 = .ok (.bipush 48, 2) := by decide +kernel
theorem d_X10_isDigit_3 : decode b_X10_isDigit 3 = .ok (.if_icmp .lt 13, 3) := by decide +kernel
theorem d_X10_isDigit_6 : decode b_X10_isDigit 6 = .ok (.iload_n 0, 1) := by decide +kernel
theorem d_X10_isDigit_7 : decode b_X10_isDigit 7 = .ok (.bipush 57, 2) := by decide +kernel
theorem d_X10_isDigit_9 : decode b_X10_isDigit 9 = .ok (.if_icmp .gt 7, 3) := by decide +kernel
theorem d_X10_isDigit_12 : decode b_X10_isDigit 12 = .ok (.iconst 1, 1) := by decide +kernel
theorem d_X10_isDigit_13 : decode b_X10_isDigit 13 = .ok (.goto 4, 3) := by decide +kernel
theorem d_X10_isDigit_16 : decode b_X10_isDigit 16 = .ok (.iconst 0, 1) := by decide +kernel
theorem d_X10_isDigit_17 : decode b_X10_isDigit 17 = .ok (.ireturn, 1) := by decide +kernel
theorem d_X10_sixteenth_0 : decode b_X10_sixteenth 0 = .ok (.iload_n 0, 1) := by decide +kernel
theorem d_X10_sixteenth_1 : decode b_X10_sixteenth 1 = .ok (.invokestatic 78, 3) := by decide +kernel
theorem d_X10_sixteenth_4 : decode b_X10_sixteenth 4 = .ok (.ifCond .eq 8, 3) := by decide +kernel
theorem d_X10_sixteenth_7 : decode b_X10_sixteenth 7 = .ok (.iload_n 0, 1) := by decide +kernel
theorem d_X10_sixteenth_8 : decode b_X10_sixteenth 8 = .ok (.bipush 48, 2) := by decide +kernel
theorem d_X10_sixteenth_10 : decode b_X10_sixteenth 10 = .ok (.isub, 1) := by decide +kernel
theorem d_X10_sixteenth_11 : decode b_X10_sixteenth 11 = .ok (.ireturn, 1) := by decide +kernel
theorem d_X10_sixteenth_12 : decode b_X10_sixteenth 12 = .ok (.iload_n 0, 1) := by decide +kernel
theorem d_X10_sixteenth_13 : decode b_X10_sixteenth 13 = .ok (.bipush 97, 2) := by decide +kernel
theorem d_X10_sixteenth_15 : decode b_X10_sixteenth 15 = .ok (.if_icmp .lt 17, 3) := by decide +kernel
theorem d_X10_sixteenth_18 : decode b_X10_sixteenth 18 = .ok (.iload_n 0, 1) := by decide +kernel
theorem d_X10_sixteenth_19 : decode b_X10_sixteenth 19 = .ok (.bipush 102, 2) := by decide +kernel
theorem d_X10_sixteenth_21 : decode b_X10_sixteenth 21 = .ok (.if_icmp .gt 11, 3) := by decide +kernel
theorem d_X10_sixteenth_24 : decode b_X10_sixteenth 24 = .ok (.iload_n 0, 1) := by decide +kernel
theorem d_X10_sixteenth_25 : decode b_X10_sixteenth 25 = .ok (.bipush 97, 2) := by decide +kernel
theorem d_X10_sixteenth_27 : decode b_X10_sixteenth 27 = .ok (.isub, 1) := by decide +kernel
theorem d_X10_sixteenth_28 : decode b_X10_sixteenth 28 = .ok (.bipush 10, 2) := by decide +kernel
theorem d_X10_sixteenth_30 : decode b_X10_sixteenth 30 = .ok (.iadd, 1) := by decide +kernel
theorem d_X10_sixteenth_31 : decode b_X10_sixteenth 31 = .ok (.ireturn, 1) := by decide +kernel
theorem d_X10_sixteenth_32 : decode b_X10_sixteenth 32 = .ok (.iload_n 0, 1) := by decide +kernel
theorem d_X10_sixteenth_33 : decode b_X10_sixteenth 33 = .ok (.bipush 65, 2) := by decide +kernel
theorem d_X10_sixteenth_35 : decode b_X10_sixteenth 35 = .ok (.if_icmp .lt 19, 3) := by decide +kernel
theorem d_X10_sixteenth_38 : decode b_X10_sixteenth 38 = .ok (.iload_n 0, 1) := by decide +kernel
theorem d_X10_sixteenth_39 : decode b_X10_sixteenth 39 = .ok (.bipush 70, 2) := by decide +kernel
theorem d_X10_sixteenth_41 : decode b_X10_sixteenth 41 = .ok (.if_icmp .gt 13, 3) := by decide +kernel
theorem d_X10_sixteenth_44 : decode b_X10_sixteenth 44 = .ok (.iload_n 0, 1) := by decide +kernel
theorem d_X10_sixteenth_45 : decode b_X10_sixteenth 45 = .ok (.bipush 65, 2) := by decide +kernel
theorem d_X10_sixteenth_47 : decode b_X10_sixteenth 47 = .ok (.isub, 1) := by decide +kernel
theorem d_X10_sixteenth_48 : decode b_X10_sixteenth 48 = .ok (.bipush 10, 2) := by decide +kernel
theorem d_X10_sixteenth_50 : decode b_X10_sixteenth 50 = .ok (.iadd, 1) := by decide +kernel
theorem d_X10_sixteenth_51 : decode b_X10_sixteenth 51 = .ok (.goto 4, 3) := by decide +kernel
theorem d_X10_sixteenth_54 : decode b_X10_sixteenth 54 = .ok (.iconst (-1), 1) := by decide +kernel
theorem d_X10_sixteenth_55 : decode b_X10_sixteenth 55 = .ok (.ireturn, 1) := by decide +kernel
theorem d_X10_sixteens_0 : decode b_X10_sixteens 0 = .ok (.iconst 0, 1) := by decide +kernel
theorem d_X10_sixteens_1 : decode b_X10_sixteens 1 = .ok (.istore_n 1, 1) := by decide +kernel
theorem d_X10_sixteens_2 : decode b_X10_sixteens 2 = .ok (.iconst 2, 1) := by decide +kernel
theorem d_X10_sixteens_3 : decode b_X10_sixteens 3 = .ok (.istore_n 2, 1) := by decide +kernel
theorem d_X10_sixteens_4 : decode b_X10_sixteens 4 = .ok (.aload_n 0, 1) := by decide +kernel
theorem d_X10_sixteens_5 : decode b_X10_sixteens 5 = .ok (.aload_n 0, 1) := by decide +kernel
theorem d_X10_sixteens_6 : decode b_X10_sixteens 6 = .ok (.getfield 35, 3) := by decide +kernel
theorem d_X10_sixteens_9 : decode b_X10_sixteens 9 = .ok (.iconst 2, 1) := by decide +kernel
theorem d_X10_sixteens_10 : decode b_X10_sixteens 10 = .ok (.iadd, 1) := by decide +kernel
theorem d_X10_sixteens_11 : decode b_X10_sixteens 11 = .ok (.invokevirtual 51, 3) := by decide +kernel
theorem d_X10_sixteens_14 : decode b_X10_sixteens 14 = .ok (.invokestatic 81, 3) := by decide +kernel
theorem d_X10_sixteens_17 : decode b_X10_sixteens 17 = .ok (.istore_n 3, 1) := by decide +kernel
theorem d_X10_sixteens_18 : decode b_X10_sixteens 18 = .ok (.iload_n 2, 1) := by decide +kernel
theorem d_X10_sixteens_19 : decode b_X10_sixteens 19 = .ok (.aload_n 0, 1) := by decide +kernel
theorem d_X10_sixteens_20 : decode b_X10_sixteens 20 = .ok (.getfield 31, 3) := by decide +kernel
theorem d_X10_sixteens_23 : decode b_X10_sixteens 23 = .ok (.if_icmp .gt 36, 3) := by decide +kernel
theorem d_X10_sixteens_26 : decode b_X10_sixteens 26 = .ok (.iload_n 3, 1) := by decide +kernel
theorem d_X10_sixteens_27 : decode b_X10_sixteens 27 = .ok (.ifCond .lt 32, 3) := by decide +kernel
theorem d_X10_sixteens_30 : decode b_X10_sixteens 30 = .ok (.iload_n 1, 1) := by decide +kernel
theorem d_X10_sixteens_31 : decode b_X10_sixteens 31 = .ok (.bipush 16, 2) := by decide +kernel
theorem d_X10_sixteens_33 : decode b_X10_sixteens 33 = .ok (.imul, 1) := by decide +kernel
theorem d_X10_sixteens_34 : decode b_X10_sixteens 34 = .ok (.iload_n 3, 1) := by decide +kernel
theorem d_X10_sixteens_35 : decode b_X10_sixteens 35 = .ok (.iadd, 1) := by decide +kernel
theorem d_X10_sixteens_36 : decode b_X10_sixteens 36 = .ok (.istore_n 1, 1) := by decide +kernel
theorem d_X10_sixteens_37 : decode b_X10_sixteens 37 = .ok (.aload_n 0, 1) := by decide +kernel
theorem d_X10_sixteens_38 : decode b_X10_sixteens 38 = .ok (.aload_n 0, 1) := by decide +kernel
theorem d_X10_sixteens_39 : decode b_X10_sixteens 39 = .ok (.getfield 35, 3) := by decide +kernel
theorem d_X10_sixteens_42 : decode b_X10_sixteens 42 = .ok (.iload_n 2, 1) := by decide +kernel
theorem d_X10_sixteens_43 : decode b_X10_sixteens 43 = .ok (.iadd, 1) := by decide +kernel
theorem d_X10_sixteens_44 : decode b_X10_sixteens 44 = .ok (.iconst 1, 1) := by decide +kernel
theorem d_X10_sixteens_45 : decode b_X10_sixteens 45 = .ok (.iadd, 1) := by decide +kernel
theorem d_X10_sixteens_46 : decode b_X10_sixteens 46 = .ok (.invokevirtual 51, 3) := by decide +kernel
theorem d_X10_sixteens_49 : decode b_X10_sixteens 49 = .ok (.invokestatic 81, 3) := by decide +kernel
theorem d_X10_sixteens_52 : decode b_X10_sixteens 52 = .ok (.istore_n 3, 1) := by decide +kernel
theorem d_X10_sixteens_53 : decode b_X10_sixteens 53 = .ok (.iinc 2 1, 3) := by decide +kernel
theorem d_X10_sixteens_56 : decode b_X10_sixteens 56 = .ok (.goto (-38), 3) := by decide +kernel
theorem d_X10_sixteens_59 : decode b_X10_sixteens 59 = .ok (.iload_n 2, 1) := by decide +kernel
theorem d_X10_sixteens_60 : decode b_X10_sixteens 60 = .ok (.bipush 10, 2) := by decide +kernel
theorem d_X10_sixteens_62 : decode b_X10_sixteens 62 = .ok (.if_icmp .le 14, 3) := by decide +kernel
theorem d_X10_sixteens_65 : decode b_X10_sixteens 65 = .ok (.aload_n 0, 1) := by decide +kernel
theorem d_X10_sixteens_66 : decode b_X10_sixteens 66 = .ok (.aload_n 0, 1) := by decide +kernel
theorem d_X10_sixteens_67 : decode b_X10_sixteens 67 = .ok (.getfield 35, 3) := by decide +kernel
theorem d_X10_sixteens_70 : decode b_X10_sixteens 70 = .ok (.invokevirtual 65, 3) := by decide +kernel
theorem d_X10_sixteens_73 : decode b_X10_sixteens 73 = .ok (.goto 10, 3) := by decide +kernel
theorem d_X10_sixteens_76 : decode b_X10_sixteens 76 = .ok (.aload_n 0, 1) := by decide +kernel
theorem d_X10_sixteens_77 : decode b_X10_sixteens 77 = .ok (.iconst 3, 1) := by decide +kernel
theorem d_X10_sixteens_78 : decode b_X10_sixteens 78 = .ok (.iload_n 1, 1) := by decide +kernel
theorem d_X10_sixteens_79 : decode b_X10_sixteens 79 = .ok (.iload_n 2, 1) := by decide +kernel
theorem d_X10_sixteens_80 : decode b_X10_sixteens 80 = .ok (.invokevirtual 68, 3) := by decide +kernel
theorem d_X10_sixteens_83 : decode b_X10_sixteens 83 = .ok (.ireturn, 1) := by decide +kernel
theorem d_X10_digits_0 : decode b_X10_digits 0 = .ok (.lconst 0, 1) := by decide +kernel
theorem d_X10_digits_1 : decode b_X10_digits 1 = .ok (.lstore_n 1, 1) := by decide +kernel
theorem d_X10_digits_2 : decode b_X10_digits 2 = .ok (.iconst 0, 1) := by decide +kernel
theorem d_X10_digits_3 : decode b_X10_digits 3 = .ok (.istore_n 3, 1) := by decide +kernel
theorem d_X10_digits_4 : decode b_X10_digits 4 = .ok (.aload_n 0, 1) := by decide +kernel
theorem d_X10_digits_5 : decode b_X10_digits 5 = .ok (.aload_n 0, 1) := by decide +kernel
theorem d_X10_digits_6 : decode b_X10_digits 6 = .ok (.getfield 35, 3) := by decide +kernel
theorem d_X10_digits_9 : decode b_X10_digits 9 = .ok (.invokevirtual 51, 3) := by decide +kernel
theorem d_X10_digits_12 : decode b_X10_digits 12 = .ok (.istore 4, 2) := by decide +kernel
theorem d_X10_digits_14 : decode b_X10_digits 14 = .ok (.iload_n 3, 1) := by decide +kernel
theorem d_X10_digits_15 : decode b_X10_digits 15 = .ok (.aload_n 0, 1) := by decide +kernel
theorem d_X10_digits_16 : decode b_X10_digits 16 = .ok (.getfield 31, 3) := by decide +kernel
theorem d_X10_digits_19 : decode b_X10_digits 19 = .ok (.if_icmp .gt 50, 3) := by decide +kernel
theorem d_X10_digits_22 : decode b_X10_digits 22 = .ok (.iload 4, 2) := by decide +kernel
theorem d_X10_digits_24 : decode b_X10_digits 24 = .ok (.invokestatic 78, 3) := by decide +kernel
theorem d_X10_digits_27 : decode b_X10_digits 27 = .ok (.ifCond .eq 42, 3) := by decide +kernel
theorem d_X10_digits_30 : decode b_X10_digits 30 = .ok (.lload_n 1, 1) := by decide +kernel
theorem d_X10_digits_31 : decode b_X10_digits 31 = .ok (.ldc2_w 119, 3) := by decide +kernel
theorem d_X10_digits_34 : decode b_X10_digits 34 = .ok (.lmul, 1) := by decide +kernel
theorem d_X10_digits_35 : decode b_X10_digits 35 = .ok (.iload 4, 2) := by decide +kernel
theorem d_X10_digits_37 : decode b_X10_digits 37 = .ok (.bipush 48, 2) := by decide +kernel
theorem d_X10_digits_39 : decode b_X10_digits 39 = .ok (.isub, 1) := by decide +kernel
theorem d_X10_digits_40 : decode b_X10_digits 40 = .ok (.i2l, 1) := by decide +kernel
theorem d_X10_digits_41 : decode b_X10_digits 41 = .ok (.ladd, 1) := by decide +kernel
theorem d_X10_digits_42 : decode b_X10_digits 42 = .ok (.ldc2_w 121, 3) := by decide +kernel
theorem d_X10_digits_45 : decode b_X10_digits 45 = .ok (.invokestatic 123, 3) := by decide +kernel
theorem d_X10_digits_48 : decode b_X10_digits 48 = .ok (.lstore_n 1, 1) := by decide +kernel
theorem d_X10_digits_49 : decode b_X10_digits 49 = .ok (.aload_n 0, 1) := by decide +kernel
theorem d_X10_digits_50 : decode b_X10_digits 50 = .ok (.aload_n 0, 1) := by decide +kernel
theorem d_X10_digits_51 : decode b_X10_digits 51 = .ok (.getfield 35, 3) := by decide +kernel
theorem d_X10_digits_54 : decode b_X10_digits 54 = .ok (.iload_n 3, 1) := by decide +kernel
theorem d_X10_digits_55 : decode b_X10_digits 55 = .ok (.iadd, 1) := by decide +kernel
theorem d_X10_digits_56 : decode b_X10_digits 56 = .ok (.iconst 1, 1) := by decide +kernel
theorem d_X10_digits_57 : decode b_X10_digits 57 = .ok (.iadd, 1) := by decide +kernel
theorem d_X10_digits_58 : decode b_X10_digits 58 = .ok (.invokevirtual 51, 3) := by decide +kernel
theorem d_X10_digits_61 : decode b_X10_digits 61 = .ok (.istore 4, 2) := by decide +kernel
theorem d_X10_digits_63 : decode b_X10_digits 63 = .ok (.iinc 3 1, 3) := by decide +kernel
theorem d_X10_digits_66 : decode b_X10_digits 66 = .ok (.goto (-52), 3) := by decide +kernel
theorem d_X10_digits_69 : decode b_X10_digits 69 = .ok (.lload_n 1, 1) := by decide +kernel
theorem d_X10_digits_70 : decode b_X10_digits 70 = .ok (.ldc2_w 131, 3) := by decide +kernel
theorem d_X10_digits_73 : decode b_X10_digits 73 = .ok (.lcmp, 1) := by decide +kernel
theorem d_X10_digits_74 : decode b_X10_digits 74 = .ok (.ifCond .le 14, 3) := by decide +kernel
theorem d_X10_digits_77 : decode b_X10_digits 77 = .ok (.aload_n 0, 1) := by decide +kernel
theorem d_X10_digits_78 : decode b_X10_digits 78 = .ok (.aload_n 0, 1) := by decide +kernel
theorem d_X10_digits_79 : decode b_X10_digits 79 = .ok (.getfield 35, 3) := by decide +kernel
theorem d_X10_digits_82 : decode b_X10_digits 82 = .ok (.invokevirtual 65, 3) := by decide +kernel
theorem d_X10_digits_85 : decode b_X10_digits 85 = .ok (.goto 11, 3) := by decide +kernel
theorem d_X10_digits_88 : decode b_X10_digits 88 = .ok (.aload_n 0, 1) := by decide +kernel
theorem d_X10_digits_89 : decode b_X10_digits 89 = .ok (.iconst 3, 1) := by decide +kernel
theorem d_X10_digits_90 : decode b_X10_digits 90 = .ok (.lload_n 1, 1) := by decide +kernel
theorem d_X10_digits_91 : decode b_X10_digits 91 = .ok (.l2i, 1) := by decide +kernel
theorem d_X10_digits_92 : decode b_X10_digits 92 = .ok (.iload_n 3, 1) := by decide +kernel
theorem d_X10_digits_93 : decode b_X10_digits 93 = .ok (.invokevirtual 68, 3) := by decide +kernel
theorem d_X10_digits_96 : decode b_X10_digits 96 = .ok (.ireturn, 1) := by decide +kernel
theorem d_X10_character_0 : decode b_X10_character 0 = .ok (.aload_n 0, 1) := by decide +kernel
theorem d_X10_character_1 : decode b_X10_character 1 = .ok (.aload_n 0, 1) := by decide +kernel
theorem d_X10_character_2 : decode b_X10_character 2 = .ok (.getfield 35, 3) := by decide +kernel
theorem d_X10_character_5 : decode b_X10_character 5 = .ok (.iconst 1, 1) := by decide +kernel
theorem d_X10_character_6 : decode b_X10_character 6 = .ok (.iadd, 1) := by decide +kernel
theorem d_X10_character_7 : decode b_X10_character 7 = .ok (.bipush 39, 2) := by decide +kernel
theorem d_X10_character_9 : decode b_X10_character 9 = .ok (.invokevirtual 133, 3) := by decide +kernel
theorem d_X10_character_12 : decode b_X10_character 12 = .ok (.istore_n 1, 1) := by decide +kernel
theorem d_X10_character_13 : decode b_X10_character 13 = .ok (.iconst 1, 1) := by decide +kernel
theorem d_X10_character_14 : decode b_X10_character 14 = .ok (.aload_n 0, 1) := by decide +kernel
theorem d_X10_character_15 : decode b_X10_character 15 = .ok (.aload_n 0, 1) := by decide +kernel
theorem d_X10_character_16 : decode b_X10_character 16 = .ok (.getfield 35, 3) := by decide +kernel
theorem d_X10_character_19 : decode b_X10_character 19 = .ok (.iconst 1, 1) := by decide +kernel
theorem d_X10_character_20 : decode b_X10_character 20 = .ok (.iadd, 1) := by decide +kernel
theorem d_X10_character_21 : decode b_X10_character 21 = .ok (.invokevirtual 137, 3) := by decide +kernel
theorem d_X10_character_24 : decode b_X10_character 24 = .ok (.iadd, 1) := by decide +kernel
theorem d_X10_character_25 : decode b_X10_character 25 = .ok (.istore_n 2, 1) := by decide +kernel
theorem d_X10_character_26 : decode b_X10_character 26 = .ok (.iload_n 1, 1) := by decide +kernel
theorem d_X10_character_27 : decode b_X10_character 27 = .ok (.ifCond .lt 18, 3) := by decide +kernel
theorem d_X10_character_30 : decode b_X10_character 30 = .ok (.aload_n 0, 1) := by decide +kernel
theorem d_X10_character_31 : decode b_X10_character 31 = .ok (.aload_n 0, 1) := by decide +kernel
theorem d_X10_character_32 : decode b_X10_character 32 = .ok (.getfield 35, 3) := by decide +kernel
theorem d_X10_character_35 : decode b_X10_character 35 = .ok (.iload_n 2, 1) := by decide +kernel
theorem d_X10_character_36 : decode b_X10_character 36 = .ok (.iadd, 1) := by decide +kernel
theorem d_X10_character_37 : decode b_X10_character 37 = .ok (.invokevirtual 51, 3) := by decide +kernel
theorem d_X10_character_40 : decode b_X10_character 40 = .ok (.bipush 39, 2) := by decide +kernel
theorem d_X10_character_42 : decode b_X10_character 42 = .ok (.if_icmp .eq 14, 3) := by decide +kernel
theorem d_X10_character_45 : decode b_X10_character 45 = .ok (.aload_n 0, 1) := by decide +kernel
theorem d_X10_character_46 : decode b_X10_character 46 = .ok (.aload_n 0, 1) := by decide +kernel
theorem d_X10_character_47 : decode b_X10_character 47 = .ok (.getfield 35, 3) := by decide +kernel
theorem d_X10_character_50 : decode b_X10_character 50 = .ok (.invokevirtual 65, 3) := by decide +kernel
theorem d_X10_character_53 : decode b_X10_character 53 = .ok (.goto 12, 3) := by decide +kernel
theorem d_X10_character_56 : decode b_X10_character 56 = .ok (.aload_n 0, 1) := by decide +kernel
theorem d_X10_character_57 : decode b_X10_character 57 = .ok (.iconst 3, 1) := by decide +kernel
theorem d_X10_character_58 : decode b_X10_character 58 = .ok (.iload_n 1, 1) := by decide +kernel
theorem d_X10_character_59 : decode b_X10_character 59 = .ok (.iload_n 2, 1) := by decide +kernel
theorem d_X10_character_60 : decode b_X10_character 60 = .ok (.iconst 1, 1) := by decide +kernel
theorem d_X10_character_61 : decode b_X10_character 61 = .ok (.iadd, 1) := by decide +kernel
theorem d_X10_character_62 : decode b_X10_character 62 = .ok (.invokevirtual 68, 3) := by decide +kernel
theorem d_X10_character_65 : decode b_X10_character 65 = .ok (.ireturn, 1) := by decide +kernel
theorem d_X10_codeAt_0 : decode b_X10_codeAt 0 = .ok (.aload_n 0, 1) := by decide +kernel
theorem d_X10_codeAt_1 : decode b_X10_codeAt 1 = .ok (.iload_n 1, 1) := by decide +kernel
theorem d_X10_codeAt_2 : decode b_X10_codeAt 2 = .ok (.invokevirtual 51, 3) := by decide +kernel
theorem d_X10_codeAt_5 : decode b_X10_codeAt 5 = .ok (.istore_n 3, 1) := by decide +kernel
theorem d_X10_codeAt_6 : decode b_X10_codeAt 6 = .ok (.iload_n 3, 1) := by decide +kernel
theorem d_X10_codeAt_7 : decode b_X10_codeAt 7 = .ok (.bipush 92, 2) := by decide +kernel
theorem d_X10_codeAt_9 : decode b_X10_codeAt 9 = .ok (.if_icmp .eq 26, 3) := by decide +kernel
theorem d_X10_codeAt_12 : decode b_X10_codeAt 12 = .ok (.iload_n 3, 1) := by decide +kernel
theorem d_X10_codeAt_13 : decode b_X10_codeAt 13 = .ok (.bipush 32, 2) := by decide +kernel
theorem d_X10_codeAt_15 : decode b_X10_codeAt 15 = .ok (.if_icmp .lt 14, 3) := by decide +kernel
theorem d_X10_codeAt_18 : decode b_X10_codeAt 18 = .ok (.iload_n 3, 1) := by decide +kernel
theorem d_X10_codeAt_19 : decode b_X10_codeAt 19 = .ok (.bipush 126, 2) := by decide +kernel
theorem d_X10_codeAt_21 : decode b_X10_codeAt 21 = .ok (.if_icmp .gt 8, 3) := by decide +kernel
theorem d_X10_codeAt_24 : decode b_X10_codeAt 24 = .ok (.iload_n 3, 1) := by decide +kernel
theorem d_X10_codeAt_25 : decode b_X10_codeAt 25 = .ok (.iload_n 2, 1) := by decide +kernel
theorem d_X10_codeAt_26 : decode b_X10_codeAt 26 = .ok (.if_icmp .ne 7, 3) := by decide +kernel
theorem d_X10_codeAt_29 : decode b_X10_codeAt 29 = .ok (.iconst (-1), 1) := by decide +kernel
theorem d_X10_codeAt_30 : decode b_X10_codeAt 30 = .ok (.goto 4, 3) := by decide +kernel
theorem d_X10_codeAt_33 : decode b_X10_codeAt 33 = .ok (.iload_n 3, 1) := by decide +kernel
theorem d_X10_codeAt_34 : decode b_X10_codeAt 34 = .ok (.ireturn, 1) := by decide +kernel
theorem d_X10_codeAt_35 : decode b_X10_codeAt 35 = .ok (.aload_n 0, 1) := by decide +kernel
theorem d_X10_codeAt_36 : decode b_X10_codeAt 36 = .ok (.iload_n 1, 1) := by decide +kernel
theorem d_X10_codeAt_37 : decode b_X10_codeAt 37 = .ok (.iconst 1, 1) := by decide +kernel
theorem d_X10_codeAt_38 : decode b_X10_codeAt 38 = .ok (.iadd, 1) := by decide +kernel
theorem d_X10_codeAt_39 : decode b_X10_codeAt 39 = .ok (.invokevirtual 51, 3) := by decide +kernel
theorem d_X10_codeAt_42 : decode b_X10_codeAt 42 = .ok (.istore 4, 2) := by decide +kernel
theorem d_X10_codeAt_44 : decode b_X10_codeAt 44 = .ok (.iload 4, 2) := by decide +kernel
theorem d_X10_codeAt_46 : decode b_X10_codeAt 46 = .ok (.lookupswitch 58 #[(34, 55), (39, 55), (48, 53), (92, 55), (110, 50)], 50) := by decide +kernel
theorem d_X10_codeAt_96 : decode b_X10_codeAt 96 = .ok (.bipush 10, 2) := by decide +kernel
theorem d_X10_codeAt_98 : decode b_X10_codeAt 98 = .ok (.ireturn, 1) := by decide +kernel
theorem d_X10_codeAt_99 : decode b_X10_codeAt 99 = .ok (.iconst 0, 1) := by decide +kernel
theorem d_X10_codeAt_100 : decode b_X10_codeAt 100 = .ok (.ireturn, 1) := by decide +kernel
theorem d_X10_codeAt_101 : decode b_X10_codeAt 101 = .ok (.iload 4, 2) := by decide +kernel
theorem d_X10_codeAt_103 : decode b_X10_codeAt 103 = .ok (.ireturn, 1) := by decide +kernel
theorem d_X10_codeAt_104 : decode b_X10_codeAt 104 = .ok (.iconst (-1), 1) := by decide +kernel
theorem d_X10_codeAt_105 : decode b_X10_codeAt 105 = .ok (.ireturn, 1) := by decide +kernel
theorem d_X10_widthAt_0 : decode b_X10_widthAt 0 = .ok (.aload_n 0, 1) := by decide +kernel
theorem d_X10_widthAt_1 : decode b_X10_widthAt 1 = .ok (.iload_n 1, 1) := by decide +kernel
theorem d_X10_widthAt_2 : decode b_X10_widthAt 2 = .ok (.invokevirtual 51, 3) := by decide +kernel
theorem d_X10_widthAt_5 : decode b_X10_widthAt 5 = .ok (.bipush 92, 2) := by decide +kernel
theorem d_X10_widthAt_7 : decode b_X10_widthAt 7 = .ok (.if_icmp .ne 7, 3) := by decide +kernel
theorem d_X10_widthAt_10 : decode b_X10_widthAt 10 = .ok (.iconst 2, 1) := by decide +kernel
theorem d_X10_widthAt_11 : decode b_X10_widthAt 11 = .ok (.goto 4, 3) := by decide +kernel
theorem d_X10_widthAt_14 : decode b_X10_widthAt 14 = .ok (.iconst 1, 1) := by decide +kernel
theorem d_X10_widthAt_15 : decode b_X10_widthAt 15 = .ok (.ireturn, 1) := by decide +kernel
theorem d_X10_string_0 : decode b_X10_string 0 = .ok (.iconst 1, 1) := by decide +kernel
theorem d_X10_string_1 : decode b_X10_string 1 = .ok (.istore_n 1, 1) := by decide +kernel
theorem d_X10_string_2 : decode b_X10_string 2 = .ok (.iconst 0, 1) := by decide +kernel
theorem d_X10_string_3 : decode b_X10_string 3 = .ok (.istore_n 2, 1) := by decide +kernel
theorem d_X10_string_4 : decode b_X10_string 4 = .ok (.iload_n 2, 1) := by decide +kernel
theorem d_X10_string_5 : decode b_X10_string 5 = .ok (.sipush 200, 3) := by decide +kernel
theorem d_X10_string_8 : decode b_X10_string 8 = .ok (.if_icmp .gt 61, 3) := by decide +kernel
theorem d_X10_string_11 : decode b_X10_string 11 = .ok (.aload_n 0, 1) := by decide +kernel
theorem d_X10_string_12 : decode b_X10_string 12 = .ok (.aload_n 0, 1) := by decide +kernel
theorem d_X10_string_13 : decode b_X10_string 13 = .ok (.getfield 35, 3) := by decide +kernel
theorem d_X10_string_16 : decode b_X10_string 16 = .ok (.iload_n 1, 1) := by decide +kernel
theorem d_X10_string_17 : decode b_X10_string 17 = .ok (.iadd, 1) := by decide +kernel
theorem d_X10_string_18 : decode b_X10_string 18 = .ok (.invokevirtual 51, 3) := by decide +kernel
theorem d_X10_string_21 : decode b_X10_string 21 = .ok (.bipush 34, 2) := by decide +kernel
theorem d_X10_string_23 : decode b_X10_string 23 = .ok (.if_icmp .eq 46, 3) := by decide +kernel
theorem d_X10_string_26 : decode b_X10_string 26 = .ok (.aload_n 0, 1) := by decide +kernel
theorem d_X10_string_27 : decode b_X10_string 27 = .ok (.aload_n 0, 1) := by decide +kernel
theorem d_X10_string_28 : decode b_X10_string 28 = .ok (.getfield 35, 3) := by decide +kernel
theorem d_X10_string_31 : decode b_X10_string 31 = .ok (.iload_n 1, 1) := by decide +kernel
theorem d_X10_string_32 : decode b_X10_string 32 = .ok (.iadd, 1) := by decide +kernel
theorem d_X10_string_33 : decode b_X10_string 33 = .ok (.bipush 34, 2) := by decide +kernel
theorem d_X10_string_35 : decode b_X10_string 35 = .ok (.invokevirtual 133, 3) := by decide +kernel
theorem d_X10_string_38 : decode b_X10_string 38 = .ok (.ifCond .ge 12, 3) := by decide +kernel
theorem d_X10_string_41 : decode b_X10_string 41 = .ok (.aload_n 0, 1) := by decide +kernel
theorem d_X10_string_42 : decode b_X10_string 42 = .ok (.aload_n 0, 1) := by decide +kernel
theorem d_X10_string_43 : decode b_X10_string 43 = .ok (.getfield 35, 3) := by decide +kernel
theorem d_X10_string_46 : decode b_X10_string 46 = .ok (.invokevirtual 65, 3) := by decide +kernel
theorem d_X10_string_49 : decode b_X10_string 49 = .ok (.ireturn, 1) := by decide +kernel
theorem d_X10_string_50 : decode b_X10_string 50 = .ok (.iload_n 1, 1) := by decide +kernel
theorem d_X10_string_51 : decode b_X10_string 51 = .ok (.aload_n 0, 1) := by decide +kernel
theorem d_X10_string_52 : decode b_X10_string 52 = .ok (.aload_n 0, 1) := by decide +kernel
theorem d_X10_string_53 : decode b_X10_string 53 = .ok (.getfield 35, 3) := by decide +kernel
theorem d_X10_string_56 : decode b_X10_string 56 = .ok (.iload_n 1, 1) := by decide +kernel
theorem d_X10_string_57 : decode b_X10_string 57 = .ok (.iadd, 1) := by decide +kernel
theorem d_X10_string_58 : decode b_X10_string 58 = .ok (.invokevirtual 137, 3) := by decide +kernel
theorem d_X10_string_61 : decode b_X10_string 61 = .ok (.iadd, 1) := by decide +kernel
theorem d_X10_string_62 : decode b_X10_string 62 = .ok (.istore_n 1, 1) := by decide +kernel
theorem d_X10_string_63 : decode b_X10_string 63 = .ok (.iinc 2 1, 3) := by decide +kernel
theorem d_X10_string_66 : decode b_X10_string 66 = .ok (.goto (-62), 3) := by decide +kernel
theorem d_X10_string_69 : decode b_X10_string 69 = .ok (.iload_n 2, 1) := by decide +kernel
theorem d_X10_string_70 : decode b_X10_string 70 = .ok (.sipush 200, 3) := by decide +kernel
theorem d_X10_string_73 : decode b_X10_string 73 = .ok (.if_icmp .le 14, 3) := by decide +kernel
theorem d_X10_string_76 : decode b_X10_string 76 = .ok (.aload_n 0, 1) := by decide +kernel
theorem d_X10_string_77 : decode b_X10_string 77 = .ok (.aload_n 0, 1) := by decide +kernel
theorem d_X10_string_78 : decode b_X10_string 78 = .ok (.getfield 35, 3) := by decide +kernel
theorem d_X10_string_81 : decode b_X10_string 81 = .ok (.invokevirtual 65, 3) := by decide +kernel
theorem d_X10_string_84 : decode b_X10_string 84 = .ok (.goto 12, 3) := by decide +kernel
theorem d_X10_string_87 : decode b_X10_string 87 = .ok (.aload_n 0, 1) := by decide +kernel
theorem d_X10_string_88 : decode b_X10_string 88 = .ok (.iconst 4, 1) := by decide +kernel
theorem d_X10_string_89 : decode b_X10_string 89 = .ok (.iload_n 2, 1) := by decide +kernel
theorem d_X10_string_90 : decode b_X10_string 90 = .ok (.iload_n 1, 1) := by decide +kernel
theorem d_X10_string_91 : decode b_X10_string 91 = .ok (.iconst 1, 1) := by decide +kernel
theorem d_X10_string_92 : decode b_X10_string 92 = .ok (.iadd, 1) := by decide +kernel
theorem d_X10_string_93 : decode b_X10_string 93 = .ok (.invokevirtual 68, 3) := by decide +kernel
theorem d_X10_string_96 : decode b_X10_string 96 = .ok (.ireturn, 1) := by decide +kernel
theorem d_X10_sign_0 : decode b_X10_sign 0 = .ok (.aload_n 0, 1) := by decide +kernel
theorem d_X10_sign_1 : decode b_X10_sign 1 = .ok (.aload_n 0, 1) := by decide +kernel
theorem d_X10_sign_2 : decode b_X10_sign 2 = .ok (.getfield 35, 3) := by decide +kernel
theorem d_X10_sign_5 : decode b_X10_sign 5 = .ok (.iconst 1, 1) := by decide +kernel
theorem d_X10_sign_6 : decode b_X10_sign 6 = .ok (.iadd, 1) := by decide +kernel
theorem d_X10_sign_7 : decode b_X10_sign 7 = .ok (.invokevirtual 51, 3) := by decide +kernel
theorem d_X10_sign_10 : decode b_X10_sign 10 = .ok (.invokestatic 140, 3) := by decide +kernel
theorem d_X10_sign_13 : decode b_X10_sign 13 = .ok (.ifCond .eq 7, 3) := by decide +kernel
theorem d_X10_sign_16 : decode b_X10_sign 16 = .ok (.iconst 3, 1) := by decide +kernel
theorem d_X10_sign_17 : decode b_X10_sign 17 = .ok (.goto 4, 3) := by decide +kernel
theorem d_X10_sign_20 : decode b_X10_sign 20 = .ok (.iconst 1, 1) := by decide +kernel
theorem d_X10_sign_21 : decode b_X10_sign 21 = .ok (.istore_n 1, 1) := by decide +kernel
theorem d_X10_sign_22 : decode b_X10_sign 22 = .ok (.iload_n 1, 1) := by decide +kernel
theorem d_X10_sign_23 : decode b_X10_sign 23 = .ok (.istore_n 2, 1) := by decide +kernel
theorem d_X10_sign_24 : decode b_X10_sign 24 = .ok (.iload_n 2, 1) := by decide +kernel
theorem d_X10_sign_25 : decode b_X10_sign 25 = .ok (.ifCond .le 32, 3) := by decide +kernel
theorem d_X10_sign_28 : decode b_X10_sign 28 = .ok (.aload_n 0, 1) := by decide +kernel
theorem d_X10_sign_29 : decode b_X10_sign 29 = .ok (.ldc 143, 2) := by decide +kernel
theorem d_X10_sign_31 : decode b_X10_sign 31 = .ok (.iload_n 2, 1) := by decide +kernel
theorem d_X10_sign_32 : decode b_X10_sign 32 = .ok (.invokevirtual 101, 3) := by decide +kernel
theorem d_X10_sign_35 : decode b_X10_sign 35 = .ok (.istore_n 3, 1) := by decide +kernel
theorem d_X10_sign_36 : decode b_X10_sign 36 = .ok (.iload_n 3, 1) := by decide +kernel
theorem d_X10_sign_37 : decode b_X10_sign 37 = .ok (.ifCond .lt 14, 3) := by decide +kernel
theorem d_X10_sign_40 : decode b_X10_sign 40 = .ok (.aload_n 0, 1) := by decide +kernel
theorem d_X10_sign_41 : decode b_X10_sign 41 = .ok (.bipush 20, 2) := by decide +kernel
theorem d_X10_sign_43 : decode b_X10_sign 43 = .ok (.iload_n 3, 1) := by decide +kernel
theorem d_X10_sign_44 : decode b_X10_sign 44 = .ok (.iadd, 1) := by decide +kernel
theorem d_X10_sign_45 : decode b_X10_sign 45 = .ok (.iconst 0, 1) := by decide +kernel
theorem d_X10_sign_46 : decode b_X10_sign 46 = .ok (.iload_n 2, 1) := by decide +kernel
theorem d_X10_sign_47 : decode b_X10_sign 47 = .ok (.invokevirtual 68, 3) := by decide +kernel
theorem d_X10_sign_50 : decode b_X10_sign 50 = .ok (.ireturn, 1) := by decide +kernel
theorem d_X10_sign_51 : decode b_X10_sign 51 = .ok (.iinc 2 (-1), 3) := by decide +kernel
theorem d_X10_sign_54 : decode b_X10_sign 54 = .ok (.goto (-30), 3) := by decide +kernel
theorem d_X10_sign_57 : decode b_X10_sign 57 = .ok (.aload_n 0, 1) := by decide +kernel
theorem d_X10_sign_58 : decode b_X10_sign 58 = .ok (.aload_n 0, 1) := by decide +kernel
theorem d_X10_sign_59 : decode b_X10_sign 59 = .ok (.getfield 35, 3) := by decide +kernel
theorem d_X10_sign_62 : decode b_X10_sign 62 = .ok (.invokevirtual 65, 3) := by decide +kernel
theorem d_X10_sign_65 : decode b_X10_sign 65 = .ok (.ireturn, 1) := by decide +kernel
theorem d_X10_mayGoOn_0 : decode b_X10_mayGoOn 0 = .ok (.iload_n 0, 1) := by decide +kernel
theorem d_X10_mayGoOn_1 : decode b_X10_mayGoOn 1 = .ok (.bipush 61, 2) := by decide +kernel
theorem d_X10_mayGoOn_3 : decode b_X10_mayGoOn 3 = .ok (.if_icmp .eq 39, 3) := by decide +kernel
theorem d_X10_mayGoOn_6 : decode b_X10_mayGoOn 6 = .ok (.iload_n 0, 1) := by decide +kernel
theorem d_X10_mayGoOn_7 : decode b_X10_mayGoOn 7 = .ok (.bipush 60, 2) := by decide +kernel
theorem d_X10_mayGoOn_9 : decode b_X10_mayGoOn 9 = .ok (.if_icmp .eq 33, 3) := by decide +kernel
theorem d_X10_mayGoOn_12 : decode b_X10_mayGoOn 12 = .ok (.iload_n 0, 1) := by decide +kernel
theorem d_X10_mayGoOn_13 : decode b_X10_mayGoOn 13 = .ok (.bipush 62, 2) := by decide +kernel
theorem d_X10_mayGoOn_15 : decode b_X10_mayGoOn 15 = .ok (.if_icmp .eq 27, 3) := by decide +kernel
theorem d_X10_mayGoOn_18 : decode b_X10_mayGoOn 18 = .ok (.iload_n 0, 1) := by decide +kernel
theorem d_X10_mayGoOn_19 : decode b_X10_mayGoOn 19 = .ok (.bipush 43, 2) := by decide +kernel
theorem d_X10_mayGoOn_21 : decode b_X10_mayGoOn 21 = .ok (.if_icmp .eq 21, 3) := by decide +kernel
theorem d_X10_mayGoOn_24 : decode b_X10_mayGoOn 24 = .ok (.iload_n 0, 1) := by decide +kernel
theorem d_X10_mayGoOn_25 : decode b_X10_mayGoOn 25 = .ok (.bipush 45, 2) := by decide +kernel
theorem d_X10_mayGoOn_27 : decode b_X10_mayGoOn 27 = .ok (.if_icmp .eq 15, 3) := by decide +kernel
theorem d_X10_mayGoOn_30 : decode b_X10_mayGoOn 30 = .ok (.iload_n 0, 1) := by decide +kernel
theorem d_X10_mayGoOn_31 : decode b_X10_mayGoOn 31 = .ok (.bipush 38, 2) := by decide +kernel
theorem d_X10_mayGoOn_33 : decode b_X10_mayGoOn 33 = .ok (.if_icmp .eq 9, 3) := by decide +kernel
theorem d_X10_mayGoOn_36 : decode b_X10_mayGoOn 36 = .ok (.iload_n 0, 1) := by decide +kernel
theorem d_X10_mayGoOn_37 : decode b_X10_mayGoOn 37 = .ok (.bipush 124, 2) := by decide +kernel
theorem d_X10_mayGoOn_39 : decode b_X10_mayGoOn 39 = .ok (.if_icmp .ne 7, 3) := by decide +kernel
theorem d_X10_mayGoOn_42 : decode b_X10_mayGoOn 42 = .ok (.iconst 1, 1) := by decide +kernel
theorem d_X10_mayGoOn_43 : decode b_X10_mayGoOn 43 = .ok (.goto 4, 3) := by decide +kernel
theorem d_X10_mayGoOn_46 : decode b_X10_mayGoOn 46 = .ok (.iconst 0, 1) := by decide +kernel
theorem d_X10_mayGoOn_47 : decode b_X10_mayGoOn 47 = .ok (.ireturn, 1) := by decide +kernel
theorem d_X3_read_0 : decode b_X3_read 0 = .ok (.aload_n 0, 1) := by decide +kernel
theorem d_X3_read_1 : decode b_X3_read 1 = .ok (.iconst 0, 1) := by decide +kernel
theorem d_X3_read_2 : decode b_X3_read 2 = .ok (.putfield 34, 3) := by decide +kernel
theorem d_X3_read_5 : decode b_X3_read 5 = .ok (.aload_n 0, 1) := by decide +kernel
theorem d_X3_read_6 : decode b_X3_read 6 = .ok (.iconst 0, 1) := by decide +kernel
theorem d_X3_read_7 : decode b_X3_read 7 = .ok (.putfield 38, 3) := by decide +kernel
theorem d_X3_read_10 : decode b_X3_read 10 = .ok (.aload_n 0, 1) := by decide +kernel
theorem d_X3_read_11 : decode b_X3_read 11 = .ok (.iconst (-1), 1) := by decide +kernel
theorem d_X3_read_12 : decode b_X3_read 12 = .ok (.putfield 41, 3) := by decide +kernel
theorem d_X3_read_15 : decode b_X3_read 15 = .ok (.aload_n 0, 1) := by decide +kernel
theorem d_X3_read_16 : decode b_X3_read 16 = .ok (.iconst (-1), 1) := by decide +kernel
theorem d_X3_read_17 : decode b_X3_read 17 = .ok (.putfield 44, 3) := by decide +kernel
theorem d_X3_read_20 : decode b_X3_read 20 = .ok (.aload_n 0, 1) := by decide +kernel
theorem d_X3_read_21 : decode b_X3_read 21 = .ok (.invokevirtual 47, 3) := by decide +kernel
theorem d_X3_read_24 : decode b_X3_read 24 = .ok (.aload_n 0, 1) := by decide +kernel
theorem d_X3_read_25 : decode b_X3_read 25 = .ok (.getfield 30, 3) := by decide +kernel
theorem d_X3_read_28 : decode b_X3_read 28 = .ok (.getfield 50, 3) := by decide +kernel
theorem d_X3_read_31 : decode b_X3_read 31 = .ok (.istore_n 1, 1) := by decide +kernel
theorem d_X3_read_32 : decode b_X3_read 32 = .ok (.iload_n 1, 1) := by decide +kernel
theorem d_X3_read_33 : decode b_X3_read 33 = .ok (.ifCond .le 166, 3) := by decide +kernel
theorem d_X3_read_36 : decode b_X3_read 36 = .ok (.aload_n 0, 1) := by decide +kernel
theorem d_X3_read_37 : decode b_X3_read 37 = .ok (.getfield 41, 3) := by decide +kernel
theorem d_X3_read_40 : decode b_X3_read 40 = .ok (.ifCond .ge 159, 3) := by decide +kernel
theorem d_X3_read_43 : decode b_X3_read 43 = .ok (.aload_n 0, 1) := by decide +kernel
theorem d_X3_read_44 : decode b_X3_read 44 = .ok (.getfield 53, 3) := by decide +kernel
theorem d_X3_read_47 : decode b_X3_read 47 = .ok (.ifCond .eq 152, 3) := by decide +kernel
theorem d_X3_read_50 : decode b_X3_read 50 = .ok (.aload_n 0, 1) := by decide +kernel
theorem d_X3_read_51 : decode b_X3_read 51 = .ok (.getfield 53, 3) := by decide +kernel
theorem d_X3_read_54 : decode b_X3_read 54 = .ok (.bipush 7, 2) := by decide +kernel
theorem d_X3_read_56 : decode b_X3_read 56 = .ok (.if_icmp .ne 7, 3) := by decide +kernel
theorem d_X3_read_59 : decode b_X3_read 59 = .ok (.iconst 1, 1) := by decide +kernel
theorem d_X3_read_60 : decode b_X3_read 60 = .ok (.goto 17, 3) := by decide +kernel
theorem d_X3_read_63 : decode b_X3_read 63 = .ok (.aload_n 0, 1) := by decide +kernel
theorem d_X3_read_64 : decode b_X3_read 64 = .ok (.getfield 53, 3) := by decide +kernel
theorem d_X3_read_67 : decode b_X3_read 67 = .ok (.bipush 8, 2) := by decide +kernel
theorem d_X3_read_69 : decode b_X3_read 69 = .ok (.if_icmp .ne 7, 3) := by decide +kernel
theorem d_X3_read_72 : decode b_X3_read 72 = .ok (.iconst 2, 1) := by decide +kernel
theorem d_X3_read_73 : decode b_X3_read 73 = .ok (.goto 4, 3) := by decide +kernel
theorem d_X3_read_76 : decode b_X3_read 76 = .ok (.iconst 0, 1) := by decide +kernel
theorem d_X3_read_77 : decode b_X3_read 77 = .ok (.istore_n 2, 1) := by decide +kernel
theorem d_X3_read_78 : decode b_X3_read 78 = .ok (.iload_n 2, 1) := by decide +kernel
theorem d_X3_read_79 : decode b_X3_read 79 = .ok (.ifCond .eq 7, 3) := by decide +kernel
theorem d_X3_read_82 : decode b_X3_read 82 = .ok (.aload_n 0, 1) := by decide +kernel
theorem d_X3_read_83 : decode b_X3_read 83 = .ok (.invokevirtual 47, 3) := by decide +kernel
theorem d_X3_read_86 : decode b_X3_read 86 = .ok (.aload_n 0, 1) := by decide +kernel
theorem d_X3_read_87 : decode b_X3_read 87 = .ok (.getfield 53, 3) := by decide +kernel
theorem d_X3_read_90 : decode b_X3_read 90 = .ok (.bipush 6, 2) := by decide +kernel
theorem d_X3_read_92 : decode b_X3_read 92 = .ok (.if_icmp .ne 7, 3) := by decide +kernel
theorem d_X3_read_95 : decode b_X3_read 95 = .ok (.iconst 1, 1) := by decide +kernel
theorem d_X3_read_96 : decode b_X3_read 96 = .ok (.goto 4, 3) := by decide +kernel
theorem d_X3_read_99 : decode b_X3_read 99 = .ok (.iconst 0, 1) := by decide +kernel
theorem d_X3_read_100 : decode b_X3_read 100 = .ok (.istore_n 3, 1) := by decide +kernel
theorem d_X3_read_101 : decode b_X3_read 101 = .ok (.aload_n 0, 1) := by decide +kernel
theorem d_X3_read_102 : decode b_X3_read 102 = .ok (.iload_n 3, 1) := by decide +kernel
theorem d_X3_read_103 : decode b_X3_read 103 = .ok (.ifCond .eq 8, 3) := by decide +kernel
theorem d_X3_read_106 : decode b_X3_read 106 = .ok (.bipush 6, 2) := by decide +kernel
theorem d_X3_read_108 : decode b_X3_read 108 = .ok (.goto 4, 3) := by decide +kernel
theorem d_X3_read_111 : decode b_X3_read 111 = .ok (.iconst 5, 1) := by decide +kernel
theorem d_X3_read_112 : decode b_X3_read 112 = .ok (.invokevirtual 56, 3) := by decide +kernel
theorem d_X3_read_115 : decode b_X3_read 115 = .ok (.iload_n 3, 1) := by decide +kernel
theorem d_X3_read_116 : decode b_X3_read 116 = .ok (.ifCond .eq 7, 3) := by decide +kernel
theorem d_X3_read_119 : decode b_X3_read 119 = .ok (.iconst (-1), 1) := by decide +kernel
theorem d_X3_read_120 : decode b_X3_read 120 = .ok (.goto 7, 3) := by decide +kernel
theorem d_X3_read_123 : decode b_X3_read 123 = .ok (.aload_n 0, 1) := by decide +kernel
theorem d_X3_read_124 : decode b_X3_read 124 = .ok (.invokevirtual 60, 3) := by decide +kernel
theorem d_X3_read_127 : decode b_X3_read 127 = .ok (.istore 4, 2) := by decide +kernel
theorem d_X3_read_129 : decode b_X3_read 129 = .ok (.aload_n 0, 1) := by decide +kernel
theorem d_X3_read_130 : decode b_X3_read 130 = .ok (.getfield 44, 3) := by decide +kernel
theorem d_X3_read_133 : decode b_X3_read 133 = .ok (.istore 5, 2) := by decide +kernel
theorem d_X3_read_135 : decode b_X3_read 135 = .ok (.aload_n 0, 1) := by decide +kernel
theorem d_X3_read_136 : decode b_X3_read 136 = .ok (.iconst 2, 1) := by decide +kernel
theorem d_X3_read_137 : decode b_X3_read 137 = .ok (.invokevirtual 56, 3) := by decide +kernel
theorem d_X3_read_140 : decode b_X3_read 140 = .ok (.iload_n 3, 1) := by decide +kernel
theorem d_X3_read_141 : decode b_X3_read 141 = .ok (.ifCond .ne 24, 3) := by decide +kernel
theorem d_X3_read_144 : decode b_X3_read 144 = .ok (.aload_n 0, 1) := by decide +kernel
theorem d_X3_read_145 : decode b_X3_read 145 = .ok (.getfield 53, 3) := by decide +kernel
theorem d_X3_read_148 : decode b_X3_read 148 = .ok (.bipush 20, 2) := by decide +kernel
theorem d_X3_read_150 : decode b_X3_read 150 = .ok (.if_icmp .eq 15, 3) := by decide +kernel
theorem d_X3_read_153 : decode b_X3_read 153 = .ok (.aload_n 0, 1) := by decide +kernel
theorem d_X3_read_154 : decode b_X3_read 154 = .ok (.iload 5, 2) := by decide +kernel
theorem d_X3_read_156 : decode b_X3_read 156 = .ok (.iload 4, 2) := by decide +kernel
theorem d_X3_read_158 : decode b_X3_read 158 = .ok (.iload_n 2, 1) := by decide +kernel
theorem d_X3_read_159 : decode b_X3_read 159 = .ok (.invokevirtual 64, 3) := by decide +kernel
theorem d_X3_read_162 : decode b_X3_read 162 = .ok (.goto 31, 3) := by decide +kernel
theorem d_X3_read_165 : decode b_X3_read 165 = .ok (.aload_n 0, 1) := by decide +kernel
theorem d_X3_read_166 : decode b_X3_read 166 = .ok (.iload 5, 2) := by decide +kernel
theorem d_X3_read_168 : decode b_X3_read 168 = .ok (.iload 4, 2) := by decide +kernel
theorem d_X3_read_170 : decode b_X3_read 170 = .ok (.iload_n 2, 1) := by decide +kernel
theorem d_X3_read_171 : decode b_X3_read 171 = .ok (.invokevirtual 68, 3) := by decide +kernel
theorem d_X3_read_174 : decode b_X3_read 174 = .ok (.ifCond .eq 19, 3) := by decide +kernel
theorem d_X3_read_177 : decode b_X3_read 177 = .ok (.aload_n 0, 1) := by decide +kernel
theorem d_X3_read_178 : decode b_X3_read 178 = .ok (.iconst 1, 1) := by decide +kernel
theorem d_X3_read_179 : decode b_X3_read 179 = .ok (.invokevirtual 72, 3) := by decide +kernel
theorem d_X3_read_182 : decode b_X3_read 182 = .ok (.aload_n 0, 1) := by decide +kernel
theorem d_X3_read_183 : decode b_X3_read 183 = .ok (.bipush 49, 2) := by decide +kernel
theorem d_X3_read_185 : decode b_X3_read 185 = .ok (.iload 5, 2) := by decide +kernel
theorem d_X3_read_187 : decode b_X3_read 187 = .ok (.iconst 0, 1) := by decide +kernel
theorem d_X3_read_188 : decode b_X3_read 188 = .ok (.iconst 0, 1) := by decide +kernel
theorem d_X3_read_189 : decode b_X3_read 189 = .ok (.invokevirtual 75, 3) := by decide +kernel
theorem d_X3_read_192 : decode b_X3_read 192 = .ok (.pop, 1) := by decide +kernel
theorem d_X3_read_193 : decode b_X3_read 193 = .ok (.iinc 1 (-1), 3) := by decide +kernel
theorem d_X3_read_196 : decode b_X3_read 196 = .ok (.goto (-164), 3) := by decide +kernel
theorem d_X3_read_199 : decode b_X3_read 199 = .ok (.aload_n 0, 1) := by decide +kernel
theorem d_X3_read_200 : decode b_X3_read 200 = .ok (.getfield 41, 3) := by decide +kernel
theorem d_X3_read_203 : decode b_X3_read 203 = .ok (.ifCond .ge 7, 3) := by decide +kernel
theorem d_X3_read_206 : decode b_X3_read 206 = .ok (.iconst 1, 1) := by decide +kernel
theorem d_X3_read_207 : decode b_X3_read 207 = .ok (.goto 4, 3) := by decide +kernel
theorem d_X3_read_210 : decode b_X3_read 210 = .ok (.iconst 0, 1) := by decide +kernel
theorem d_X3_read_211 : decode b_X3_read 211 = .ok (.ireturn, 1) := by decide +kernel
theorem d_X3_advance_0 : decode b_X3_advance 0 = .ok (.aload_n 0, 1) := by decide +kernel
theorem d_X3_advance_1 : decode b_X3_advance 1 = .ok (.dup, 1) := by decide +kernel
theorem d_X3_advance_2 : decode b_X3_advance 2 = .ok (.getfield 44, 3) := by decide +kernel
theorem d_X3_advance_5 : decode b_X3_advance 5 = .ok (.iconst 1, 1) := by decide +kernel
theorem d_X3_advance_6 : decode b_X3_advance 6 = .ok (.iadd, 1) := by decide +kernel
theorem d_X3_advance_7 : decode b_X3_advance 7 = .ok (.putfield 44, 3) := by decide +kernel
theorem d_X3_advance_10 : decode b_X3_advance 10 = .ok (.aload_n 0, 1) := by decide +kernel
theorem d_X3_advance_11 : decode b_X3_advance 11 = .ok (.getfield 44, 3) := by decide +kernel
theorem d_X3_advance_14 : decode b_X3_advance 14 = .ok (.ifCond .lt 36, 3) := by decide +kernel
theorem d_X3_advance_17 : decode b_X3_advance 17 = .ok (.aload_n 0, 1) := by decide +kernel
theorem d_X3_advance_18 : decode b_X3_advance 18 = .ok (.getfield 44, 3) := by decide +kernel
theorem d_X3_advance_21 : decode b_X3_advance 21 = .ok (.aload_n 0, 1) := by decide +kernel
theorem d_X3_advance_22 : decode b_X3_advance 22 = .ok (.getfield 30, 3) := by decide +kernel
theorem d_X3_advance_25 : decode b_X3_advance 25 = .ok (.getfield 50, 3) := by decide +kernel
theorem d_X3_advance_28 : decode b_X3_advance 28 = .ok (.if_icmp .ge 22, 3) := by decide +kernel
theorem d_X3_advance_31 : decode b_X3_advance 31 = .ok (.aload_n 0, 1) := by decide +kernel
theorem d_X3_advance_32 : decode b_X3_advance 32 = .ok (.getfield 44, 3) := by decide +kernel
theorem d_X3_advance_35 : decode b_X3_advance 35 = .ok (.aload_n 0, 1) := by decide +kernel
theorem d_X3_advance_36 : decode b_X3_advance 36 = .ok (.getfield 30, 3) := by decide +kernel
theorem d_X3_advance_39 : decode b_X3_advance 39 = .ok (.getfield 79, 3) := by decide +kernel
theorem d_X3_advance_42 : decode b_X3_advance 42 = .ok (.arraylength, 1) := by decide +kernel
theorem d_X3_advance_43 : decode b_X3_advance 43 = .ok (.if_icmp .ge 7, 3) := by decide +kernel
theorem d_X3_advance_46 : decode b_X3_advance 46 = .ok (.iconst 1, 1) := by decide +kernel
theorem d_X3_advance_47 : decode b_X3_advance 47 = .ok (.goto 4, 3) := by decide +kernel
theorem d_X3_advance_50 : decode b_X3_advance 50 = .ok (.iconst 0, 1) := by decide +kernel
theorem d_X3_advance_51 : decode b_X3_advance 51 = .ok (.istore_n 1, 1) := by decide +kernel
theorem d_X3_advance_52 : decode b_X3_advance 52 = .ok (.aload_n 0, 1) := by decide +kernel
theorem d_X3_advance_53 : decode b_X3_advance 53 = .ok (.iload_n 1, 1) := by decide +kernel
theorem d_X3_advance_54 : decode b_X3_advance 54 = .ok (.ifCond .eq 18, 3) := by decide +kernel
theorem d_X3_advance_57 : decode b_X3_advance 57 = .ok (.aload_n 0, 1) := by decide +kernel
theorem d_X3_advance_58 : decode b_X3_advance 58 = .ok (.getfield 30, 3) := by decide +kernel
theorem d_X3_advance_61 : decode b_X3_advance 61 = .ok (.getfield 79, 3) := by decide +kernel
theorem d_X3_advance_64 : decode b_X3_advance 64 = .ok (.aload_n 0, 1) := by decide +kernel
theorem d_X3_advance_65 : decode b_X3_advance 65 = .ok (.getfield 44, 3) := by decide +kernel
theorem d_X3_advance_68 : decode b_X3_advance 68 = .ok (.iaload, 1) := by decide +kernel
theorem d_X3_advance_69 : decode b_X3_advance 69 = .ok (.goto 4, 3) := by decide +kernel
theorem d_X3_advance_72 : decode b_X3_advance 72 = .ok (.iconst 0, 1) := by decide +kernel
theorem d_X3_advance_73 : decode b_X3_advance 73 = .ok (.putfield 53, 3) := by decide +kernel
theorem d_X3_advance_76 : decode b_X3_advance 76 = .ok (.return_, 1) := by decide +kernel
theorem d_X3_expect_0 : decode b_X3_expect 0 = .ok (.aload_n 0, 1) := by decide +kernel
theorem d_X3_expect_1 : decode b_X3_expect 1 = .ok (.getfield 53, 3) := by decide +kernel
theorem d_X3_expect_4 : decode b_X3_expect 4 = .ok (.iload_n 1, 1) := by decide +kernel
theorem d_X3_expect_5 : decode b_X3_expect 5 = .ok (.if_icmp .ne 10, 3) := by decide +kernel
theorem d_X3_expect_8 : decode b_X3_expect 8 = .ok (.aload_n 0, 1) := by decide +kernel
theorem d_X3_expect_9 : decode b_X3_expect 9 = .ok (.invokevirtual 47, 3) := by decide +kernel
theorem d_X3_expect_12 : decode b_X3_expect 12 = .ok (.goto 7, 3) := by decide +kernel
theorem d_X3_expect_15 : decode b_X3_expect 15 = .ok (.aload_n 0, 1) := by decide +kernel
theorem d_X3_expect_16 : decode b_X3_expect 16 = .ok (.invokevirtual 82, 3) := by decide +kernel
theorem d_X3_expect_19 : decode b_X3_expect 19 = .ok (.return_, 1) := by decide +kernel
theorem d_X3_fail_0 : decode b_X3_fail 0 = .ok (.aload_n 0, 1) := by decide +kernel
theorem d_X3_fail_1 : decode b_X3_fail 1 = .ok (.getfield 41, 3) := by decide +kernel
theorem d_X3_fail_4 : decode b_X3_fail 4 = .ok (.ifCond .ge 11, 3) := by decide +kernel
theorem d_X3_fail_7 : decode b_X3_fail 7 = .ok (.aload_n 0, 1) := by decide +kernel
theorem d_X3_fail_8 : decode b_X3_fail 8 = .ok (.aload_n 0, 1) := by decide +kernel
theorem d_X3_fail_9 : decode b_X3_fail 9 = .ok (.getfield 44, 3) := by decide +kernel
theorem d_X3_fail_12 : decode b_X3_fail 12 = .ok (.putfield 41, 3) := by decide +kernel
theorem d_X3_fail_15 : decode b_X3_fail 15 = .ok (.aload_n 0, 1) := by decide +kernel
theorem d_X3_fail_16 : decode b_X3_fail 16 = .ok (.iconst (-1), 1) := by decide +kernel
theorem d_X3_fail_17 : decode b_X3_fail 17 = .ok (.putfield 53, 3) := by decide +kernel
theorem d_X3_fail_20 : decode b_X3_fail 20 = .ok (.return_, 1) := by decide +kernel
theorem d_X3_stars_0 : decode b_X3_stars 0 = .ok (.iconst 0, 1) := by decide +kernel
theorem d_X3_stars_1 : decode b_X3_stars 1 = .ok (.istore_n 1, 1) := by decide +kernel
theorem d_X3_stars_2 : decode b_X3_stars 2 = .ok (.iload_n 1, 1) := by decide +kernel
theorem d_X3_stars_3 : decode b_X3_stars 3 = .ok (.iconst 5, 1) := by decide +kernel
theorem d_X3_stars_4 : decode b_X3_stars 4 = .ok (.if_icmp .ge 22, 3) := by decide +kernel
theorem d_X3_stars_7 : decode b_X3_stars 7 = .ok (.aload_n 0, 1) := by decide +kernel
theorem d_X3_stars_8 : decode b_X3_stars 8 = .ok (.getfield 53, 3) := by decide +kernel
theorem d_X3_stars_11 : decode b_X3_stars 11 = .ok (.bipush 45, 2) := by decide +kernel
theorem d_X3_stars_13 : decode b_X3_stars 13 = .ok (.if_icmp .ne 13, 3) := by decide +kernel
theorem d_X3_stars_16 : decode b_X3_stars 16 = .ok (.aload_n 0, 1) := by decide +kernel
theorem d_X3_stars_17 : decode b_X3_stars 17 = .ok (.invokevirtual 47, 3) := by decide +kernel
theorem d_X3_stars_20 : decode b_X3_stars 20 = .ok (.iinc 1 1, 3) := by decide +kernel
theorem d_X3_stars_23 : decode b_X3_stars 23 = .ok (.goto (-21), 3) := by decide +kernel
theorem d_X3_stars_26 : decode b_X3_stars 26 = .ok (.aload_n 0, 1) := by decide +kernel
theorem d_X3_stars_27 : decode b_X3_stars 27 = .ok (.getfield 53, 3) := by decide +kernel
theorem d_X3_stars_30 : decode b_X3_stars 30 = .ok (.bipush 45, 2) := by decide +kernel
theorem d_X3_stars_32 : decode b_X3_stars 32 = .ok (.if_icmp .ne 7, 3) := by decide +kernel
theorem d_X3_stars_35 : decode b_X3_stars 35 = .ok (.aload_n 0, 1) := by decide +kernel
theorem d_X3_stars_36 : decode b_X3_stars 36 = .ok (.invokevirtual 82, 3) := by decide +kernel
theorem d_X3_stars_39 : decode b_X3_stars 39 = .ok (.iload_n 1, 1) := by decide +kernel
theorem d_X3_stars_40 : decode b_X3_stars 40 = .ok (.ireturn, 1) := by decide +kernel
theorem d_X3_variables_0 : decode b_X3_variables 0 = .ok (.iload_n 1, 1) := by decide +kernel
theorem d_X3_variables_1 : decode b_X3_variables 1 = .ok (.istore 4, 2) := by decide +kernel
theorem d_X3_variables_3 : decode b_X3_variables 3 = .ok (.iload_n 2, 1) := by decide +kernel
theorem d_X3_variables_4 : decode b_X3_variables 4 = .ok (.istore 5, 2) := by decide +kernel
theorem d_X3_variables_6 : decode b_X3_variables 6 = .ok (.iconst 1, 1) := by decide +kernel
theorem d_X3_variables_7 : decode b_X3_variables 7 = .ok (.istore 6, 2) := by decide +kernel
theorem d_X3_variables_9 : decode b_X3_variables 9 = .ok (.aload_n 0, 1) := by decide +kernel
theorem d_X3_variables_10 : decode b_X3_variables 10 = .ok (.getfield 30, 3) := by decide +kernel
theorem d_X3_variables_13 : decode b_X3_variables 13 = .ok (.getfield 50, 3) := by decide +kernel
theorem d_X3_variables_16 : decode b_X3_variables 16 = .ok (.istore 7, 2) := by decide +kernel
theorem d_X3_variables_18 : decode b_X3_variables 18 = .ok (.iload 7, 2) := by decide +kernel
theorem d_X3_variables_20 : decode b_X3_variables 20 = .ok (.ifCond .le 115, 3) := by decide +kernel
theorem d_X3_variables_23 : decode b_X3_variables 23 = .ok (.iload 6, 2) := by decide +kernel
theorem d_X3_variables_25 : decode b_X3_variables 25 = .ok (.ifCond .eq 110, 3) := by decide +kernel
theorem d_X3_variables_28 : decode b_X3_variables 28 = .ok (.aload_n 0, 1) := by decide +kernel
theorem d_X3_variables_29 : decode b_X3_variables 29 = .ok (.getfield 53, 3) := by decide +kernel
theorem d_X3_variables_32 : decode b_X3_variables 32 = .ok (.bipush 24, 2) := by decide +kernel
theorem d_X3_variables_34 : decode b_X3_variables 34 = .ok (.if_icmp .ne 10, 3) := by decide +kernel
theorem d_X3_variables_37 : decode b_X3_variables 37 = .ok (.aload_n 0, 1) := by decide +kernel
theorem d_X3_variables_38 : decode b_X3_variables 38 = .ok (.invokevirtual 112, 3) := by decide +kernel
theorem d_X3_variables_41 : decode b_X3_variables 41 = .ok (.goto 4, 3) := by decide +kernel
theorem d_X3_variables_44 : decode b_X3_variables 44 = .ok (.iconst (-1), 1) := by decide +kernel
theorem d_X3_variables_45 : decode b_X3_variables 45 = .ok (.istore 8, 2) := by decide +kernel
theorem d_X3_variables_47 : decode b_X3_variables 47 = .ok (.aload_n 0, 1) := by decide +kernel
theorem d_X3_variables_48 : decode b_X3_variables 48 = .ok (.getfield 53, 3) := by decide +kernel
theorem d_X3_variables_51 : decode b_X3_variables 51 = .ok (.bipush 30, 2) := by decide +kernel
theorem d_X3_variables_53 : decode b_X3_variables 53 = .ok (.if_icmp .ne 7, 3) := by decide +kernel
theorem d_X3_variables_56 : decode b_X3_variables 56 = .ok (.iconst 1, 1) := by decide +kernel
theorem d_X3_variables_57 : decode b_X3_variables 57 = .ok (.goto 4, 3) := by decide +kernel
theorem d_X3_variables_60 : decode b_X3_variables 60 = .ok (.iconst 0, 1) := by decide +kernel
theorem d_X3_variables_61 : decode b_X3_variables 61 = .ok (.istore 9, 2) := by decide +kernel
theorem d_X3_variables_63 : decode b_X3_variables 63 = .ok (.aload_n 0, 1) := by decide +kernel
theorem d_X3_variables_64 : decode b_X3_variables 64 = .ok (.bipush 43, 2) := by decide +kernel
theorem d_X3_variables_66 : decode b_X3_variables 66 = .ok (.iload 4, 2) := by decide +kernel
theorem d_X3_variables_68 : decode b_X3_variables 68 = .ok (.iload 5, 2) := by decide +kernel
theorem d_X3_variables_70 : decode b_X3_variables 70 = .ok (.iload 9, 2) := by decide +kernel
theorem d_X3_variables_72 : decode b_X3_variables 72 = .ok (.ifCond .eq 9, 3) := by decide +kernel
theorem d_X3_variables_75 : decode b_X3_variables 75 = .ok (.iload_n 3, 1) := by decide +kernel
theorem d_X3_variables_76 : decode b_X3_variables 76 = .ok (.iconst 4, 1) := by decide +kernel
theorem d_X3_variables_77 : decode b_X3_variables 77 = .ok (.iadd, 1) := by decide +kernel
theorem d_X3_variables_78 : decode b_X3_variables 78 = .ok (.goto 4, 3) := by decide +kernel
theorem d_X3_variables_81 : decode b_X3_variables 81 = .ok (.iload_n 3, 1) := by decide +kernel
theorem d_X3_variables_82 : decode b_X3_variables 82 = .ok (.invokevirtual 75, 3) := by decide +kernel
theorem d_X3_variables_85 : decode b_X3_variables 85 = .ok (.pop, 1) := by decide +kernel
theorem d_X3_variables_86 : decode b_X3_variables 86 = .ok (.iload 9, 2) := by decide +kernel
theorem d_X3_variables_88 : decode b_X3_variables 88 = .ok (.ifCond .eq 11, 3) := by decide +kernel
theorem d_X3_variables_91 : decode b_X3_variables 91 = .ok (.aload_n 0, 1) := by decide +kernel
theorem d_X3_variables_92 : decode b_X3_variables 92 = .ok (.iload 8, 2) := by decide +kernel
theorem d_X3_variables_94 : decode b_X3_variables 94 = .ok (.iload 5, 2) := by decide +kernel
theorem d_X3_variables_96 : decode b_X3_variables 96 = .ok (.invokevirtual 115, 3) := by decide +kernel
theorem d_X3_variables_99 : decode b_X3_variables 99 = .ok (.aload_n 0, 1) := by decide +kernel
theorem d_X3_variables_100 : decode b_X3_variables 100 = .ok (.bipush 26, 2) := by decide +kernel
theorem d_X3_variables_102 : decode b_X3_variables 102 = .ok (.invokevirtual 101, 3) := by decide +kernel
theorem d_X3_variables_105 : decode b_X3_variables 105 = .ok (.istore 6, 2) := by decide +kernel
theorem d_X3_variables_107 : decode b_X3_variables 107 = .ok (.iload 6, 2) := by decide +kernel
theorem d_X3_variables_109 : decode b_X3_variables 109 = .ok (.ifCond .eq 20, 3) := by decide +kernel
theorem d_X3_variables_112 : decode b_X3_variables 112 = .ok (.aload_n 0, 1) := by decide +kernel
theorem d_X3_variables_113 : decode b_X3_variables 113 = .ok (.invokevirtual 60, 3) := by decide +kernel
theorem d_X3_variables_116 : decode b_X3_variables 116 = .ok (.istore 5, 2) := by decide +kernel
theorem d_X3_variables_118 : decode b_X3_variables 118 = .ok (.aload_n 0, 1) := by decide +kernel
theorem d_X3_variables_119 : decode b_X3_variables 119 = .ok (.getfield 44, 3) := by decide +kernel
theorem d_X3_variables_122 : decode b_X3_variables 122 = .ok (.istore 4, 2) := by decide +kernel
theorem d_X3_variables_124 : decode b_X3_variables 124 = .ok (.aload_n 0, 1) := by decide +kernel
theorem d_X3_variables_125 : decode b_X3_variables 125 = .ok (.iconst 2, 1) := by decide +kernel
theorem d_X3_variables_126 : decode b_X3_variables 126 = .ok (.invokevirtual 56, 3) := by decide +kernel
theorem d_X3_variables_129 : decode b_X3_variables 129 = .ok (.iinc 7 (-1), 3) := by decide +kernel
theorem d_X3_variables_132 : decode b_X3_variables 132 = .ok (.goto (-114), 3) := by decide +kernel
theorem d_X3_variables_135 : decode b_X3_variables 135 = .ok (.aload_n 0, 1) := by decide +kernel
theorem d_X3_variables_136 : decode b_X3_variables 136 = .ok (.bipush 27, 2) := by decide +kernel
theorem d_X3_variables_138 : decode b_X3_variables 138 = .ok (.invokevirtual 56, 3) := by decide +kernel
theorem d_X3_variables_141 : decode b_X3_variables 141 = .ok (.return_, 1) := by decide +kernel
theorem d_X3_bracket_0 : decode b_X3_bracket 0 = .ok (.aload_n 0, 1) := by decide +kernel
theorem d_X3_bracket_1 : decode b_X3_bracket 1 = .ok (.getfield 44, 3) := by decide +kernel
theorem d_X3_bracket_4 : decode b_X3_bracket 4 = .ok (.istore_n 1, 1) := by decide +kernel
theorem d_X3_bracket_5 : decode b_X3_bracket 5 = .ok (.aload_n 0, 1) := by decide +kernel
theorem d_X3_bracket_6 : decode b_X3_bracket 6 = .ok (.invokevirtual 47, 3) := by decide +kernel
theorem d_X3_bracket_9 : decode b_X3_bracket 9 = .ok (.aload_n 0, 1) := by decide +kernel
theorem d_X3_bracket_10 : decode b_X3_bracket 10 = .ok (.getfield 53, 3) := by decide +kernel
theorem d_X3_bracket_13 : decode b_X3_bracket 13 = .ok (.bipush 25, 2) := by decide +kernel
theorem d_X3_bracket_15 : decode b_X3_bracket 15 = .ok (.if_icmp .eq 7, 3) := by decide +kernel
theorem d_X3_bracket_18 : decode b_X3_bracket 18 = .ok (.iconst 1, 1) := by decide +kernel
theorem d_X3_bracket_19 : decode b_X3_bracket 19 = .ok (.goto 4, 3) := by decide +kernel
theorem d_X3_bracket_22 : decode b_X3_bracket 22 = .ok (.iconst 0, 1) := by decide +kernel
theorem d_X3_bracket_23 : decode b_X3_bracket 23 = .ok (.istore_n 2, 1) := by decide +kernel
theorem d_X3_bracket_24 : decode b_X3_bracket 24 = .ok (.iload_n 2, 1) := by decide +kernel
theorem d_X3_bracket_25 : decode b_X3_bracket 25 = .ok (.ifCond .eq 35, 3) := by decide +kernel
theorem d_X3_bracket_28 : decode b_X3_bracket 28 = .ok (.aload_n 0, 1) := by decide +kernel
theorem d_X3_bracket_29 : decode b_X3_bracket 29 = .ok (.bipush 40, 2) := by decide +kernel
theorem d_X3_bracket_31 : decode b_X3_bracket 31 = .ok (.iload_n 1, 1) := by decide +kernel
theorem d_X3_bracket_32 : decode b_X3_bracket 32 = .ok (.iconst 0, 1) := by decide +kernel
theorem d_X3_bracket_33 : decode b_X3_bracket 33 = .ok (.iconst 0, 1) := by decide +kernel
theorem d_X3_bracket_34 : decode b_X3_bracket 34 = .ok (.invokevirtual 75, 3) := by decide +kernel
theorem d_X3_bracket_37 : decode b_X3_bracket 37 = .ok (.istore_n 3, 1) := by decide +kernel
theorem d_X3_bracket_38 : decode b_X3_bracket 38 = .ok (.aload_n 0, 1) := by decide +kernel
theorem d_X3_bracket_39 : decode b_X3_bracket 39 = .ok (.iconst 1, 1) := by decide +kernel
theorem d_X3_bracket_40 : decode b_X3_bracket 40 = .ok (.invokevirtual 119, 3) := by decide +kernel
theorem d_X3_bracket_43 : decode b_X3_bracket 43 = .ok (.aload_n 0, 1) := by decide +kernel
theorem d_X3_bracket_44 : decode b_X3_bracket 44 = .ok (.getfield 18, 3) := by decide +kernel
theorem d_X3_bracket_47 : decode b_X3_bracket 47 = .ok (.iload_n 3, 1) := by decide +kernel
theorem d_X3_bracket_48 : decode b_X3_bracket 48 = .ok (.aload_n 0, 1) := by decide +kernel
theorem d_X3_bracket_49 : decode b_X3_bracket 49 = .ok (.bipush 41, 2) := by decide +kernel
theorem d_X3_bracket_51 : decode b_X3_bracket 51 = .ok (.iload_n 1, 1) := by decide +kernel
theorem d_X3_bracket_52 : decode b_X3_bracket 52 = .ok (.iconst 0, 1) := by decide +kernel
theorem d_X3_bracket_53 : decode b_X3_bracket 53 = .ok (.iconst 0, 1) := by decide +kernel
theorem d_X3_bracket_54 : decode b_X3_bracket 54 = .ok (.invokevirtual 75, 3) := by decide +kernel
theorem d_X3_bracket_57 : decode b_X3_bracket 57 = .ok (.invokestatic 105, 3) := by decide +kernel
theorem d_X3_bracket_60 : decode b_X3_bracket 60 = .ok (.aload_n 0, 1) := by decide +kernel
theorem d_X3_bracket_61 : decode b_X3_bracket 61 = .ok (.bipush 25, 2) := by decide +kernel
theorem d_X3_bracket_63 : decode b_X3_bracket 63 = .ok (.invokevirtual 56, 3) := by decide +kernel
theorem d_X3_bracket_66 : decode b_X3_bracket 66 = .ok (.aload_n 0, 1) := by decide +kernel
theorem d_X3_bracket_67 : decode b_X3_bracket 67 = .ok (.bipush 42, 2) := by decide +kernel
theorem d_X3_bracket_69 : decode b_X3_bracket 69 = .ok (.iload_n 1, 1) := by decide +kernel
theorem d_X3_bracket_70 : decode b_X3_bracket 70 = .ok (.iload_n 2, 1) := by decide +kernel
theorem d_X3_bracket_71 : decode b_X3_bracket 71 = .ok (.ifCond .eq 7, 3) := by decide +kernel
theorem d_X3_bracket_74 : decode b_X3_bracket 74 = .ok (.iconst 1, 1) := by decide +kernel
theorem d_X3_bracket_75 : decode b_X3_bracket 75 = .ok (.goto 4, 3) := by decide +kernel
theorem d_X3_bracket_78 : decode b_X3_bracket 78 = .ok (.iconst 0, 1) := by decide +kernel
theorem d_X3_bracket_79 : decode b_X3_bracket 79 = .ok (.iconst 0, 1) := by decide +kernel
theorem d_X3_bracket_80 : decode b_X3_bracket 80 = .ok (.invokevirtual 75, 3) := by decide +kernel
theorem d_X3_bracket_83 : decode b_X3_bracket 83 = .ok (.ireturn, 1) := by decide +kernel
theorem d_X3_add_0 : decode b_X3_add 0 = .ok (.aload_n 0, 1) := by decide +kernel
theorem d_X3_add_1 : decode b_X3_add 1 = .ok (.getfield 34, 3) := by decide +kernel
theorem d_X3_add_4 : decode b_X3_add 4 = .ok (.istore 5, 2) := by decide +kernel
theorem d_X3_add_6 : decode b_X3_add 6 = .ok (.iload 5, 2) := by decide +kernel
theorem d_X3_add_8 : decode b_X3_add 8 = .ok (.ifCond .lt 86, 3) := by decide +kernel
theorem d_X3_add_11 : decode b_X3_add 11 = .ok (.iload 5, 2) := by decide +kernel
theorem d_X3_add_13 : decode b_X3_add 13 = .ok (.aload_n 0, 1) := by decide +kernel
theorem d_X3_add_14 : decode b_X3_add 14 = .ok (.getfield 11, 3) := by decide +kernel
theorem d_X3_add_17 : decode b_X3_add 17 = .ok (.arraylength, 1) := by decide +kernel
theorem d_X3_add_18 : decode b_X3_add 18 = .ok (.if_icmp .ge 76, 3) := by decide +kernel
theorem d_X3_add_21 : decode b_X3_add 21 = .ok (.iload 5, 2) := by decide +kernel
theorem d_X3_add_23 : decode b_X3_add 23 = .ok (.aload_n 0, 1) := by decide +kernel
theorem d_X3_add_24 : decode b_X3_add 24 = .ok (.getfield 15, 3) := by decide +kernel
theorem d_X3_add_27 : decode b_X3_add 27 = .ok (.arraylength, 1) := by decide +kernel
theorem d_X3_add_28 : decode b_X3_add 28 = .ok (.if_icmp .ge 66, 3) := by decide +kernel
theorem d_X3_add_31 : decode b_X3_add 31 = .ok (.iload 5, 2) := by decide +kernel
theorem d_X3_add_33 : decode b_X3_add 33 = .ok (.aload_n 0, 1) := by decide +kernel
theorem d_X3_add_34 : decode b_X3_add 34 = .ok (.getfield 18, 3) := by decide +kernel
theorem d_X3_add_37 : decode b_X3_add 37 = .ok (.arraylength, 1) := by decide +kernel
theorem d_X3_add_38 : decode b_X3_add 38 = .ok (.if_icmp .ge 56, 3) := by decide +kernel
theorem d_X3_add_41 : decode b_X3_add 41 = .ok (.iload 5, 2) := by decide +kernel
theorem d_X3_add_43 : decode b_X3_add 43 = .ok (.aload_n 0, 1) := by decide +kernel
theorem d_X3_add_44 : decode b_X3_add 44 = .ok (.getfield 21, 3) := by decide +kernel
theorem d_X3_add_47 : decode b_X3_add 47 = .ok (.arraylength, 1) := by decide +kernel
theorem d_X3_add_48 : decode b_X3_add 48 = .ok (.if_icmp .ge 46, 3) := by decide +kernel
theorem d_X3_add_51 : decode b_X3_add 51 = .ok (.aload_n 0, 1) := by decide +kernel
theorem d_X3_add_52 : decode b_X3_add 52 = .ok (.getfield 11, 3) := by decide +kernel
theorem d_X3_add_55 : decode b_X3_add 55 = .ok (.iload 5, 2) := by decide +kernel
theorem d_X3_add_57 : decode b_X3_add 57 = .ok (.iload_n 1, 1) := by decide +kernel
theorem d_X3_add_58 : decode b_X3_add 58 = .ok (.iastore, 1) := by decide +kernel
theorem d_X3_add_59 : decode b_X3_add 59 = .ok (.aload_n 0, 1) := by decide +kernel
theorem d_X3_add_60 : decode b_X3_add 60 = .ok (.getfield 15, 3) := by decide +kernel
theorem d_X3_add_63 : decode b_X3_add 63 = .ok (.iload 5, 2) := by decide +kernel
theorem d_X3_add_65 : decode b_X3_add 65 = .ok (.iload_n 2, 1) := by decide +kernel
theorem d_X3_add_66 : decode b_X3_add 66 = .ok (.iastore, 1) := by decide +kernel
theorem d_X3_add_67 : decode b_X3_add 67 = .ok (.aload_n 0, 1) := by decide +kernel
theorem d_X3_add_68 : decode b_X3_add 68 = .ok (.getfield 18, 3) := by decide +kernel
theorem d_X3_add_71 : decode b_X3_add 71 = .ok (.iload 5, 2) := by decide +kernel
theorem d_X3_add_73 : decode b_X3_add 73 = .ok (.iload_n 3, 1) := by decide +kernel
theorem d_X3_add_74 : decode b_X3_add 74 = .ok (.iastore, 1) := by decide +kernel
theorem d_X3_add_75 : decode b_X3_add 75 = .ok (.aload_n 0, 1) := by decide +kernel
theorem d_X3_add_76 : decode b_X3_add 76 = .ok (.getfield 21, 3) := by decide +kernel
theorem d_X3_add_79 : decode b_X3_add 79 = .ok (.iload 5, 2) := by decide +kernel
theorem d_X3_add_81 : decode b_X3_add 81 = .ok (.iload 4, 2) := by decide +kernel
theorem d_X3_add_83 : decode b_X3_add 83 = .ok (.iastore, 1) := by decide +kernel
theorem d_X3_add_84 : decode b_X3_add 84 = .ok (.aload_n 0, 1) := by decide +kernel
theorem d_X3_add_85 : decode b_X3_add 85 = .ok (.dup, 1) := by decide +kernel
theorem d_X3_add_86 : decode b_X3_add 86 = .ok (.getfield 34, 3) := by decide +kernel
theorem d_X3_add_89 : decode b_X3_add 89 = .ok (.iconst 1, 1) := by decide +kernel
theorem d_X3_add_90 : decode b_X3_add 90 = .ok (.iadd, 1) := by decide +kernel
theorem d_X3_add_91 : decode b_X3_add 91 = .ok (.putfield 34, 3) := by decide +kernel
theorem d_X3_add_94 : decode b_X3_add 94 = .ok (.iload 5, 2) := by decide +kernel
theorem d_X3_add_96 : decode b_X3_add 96 = .ok (.ireturn, 1) := by decide +kernel
theorem d_X3_expression_0 : decode b_X3_expression 0 = .ok (.aload_n 0, 1) := by decide +kernel
theorem d_X3_expression_1 : decode b_X3_expression 1 = .ok (.iload_n 1, 1) := by decide +kernel
theorem d_X3_expression_2 : decode b_X3_expression 2 = .ok (.invokevirtual 146, 3) := by decide +kernel
theorem d_X3_expression_5 : decode b_X3_expression 5 = .ok (.aload_n 0, 1) := by decide +kernel
theorem d_X3_expression_6 : decode b_X3_expression 6 = .ok (.getfield 44, 3) := by decide +kernel
theorem d_X3_expression_9 : decode b_X3_expression 9 = .ok (.istore_n 2, 1) := by decide +kernel
theorem d_X3_expression_10 : decode b_X3_expression 10 = .ok (.aload_n 0, 1) := by decide +kernel
theorem d_X3_expression_11 : decode b_X3_expression 11 = .ok (.getfield 53, 3) := by decide +kernel
theorem d_X3_expression_14 : decode b_X3_expression 14 = .ok (.bipush 30, 2) := by decide +kernel
theorem d_X3_expression_16 : decode b_X3_expression 16 = .ok (.if_icmp .lt 47, 3) := by decide +kernel
theorem d_X3_expression_19 : decode b_X3_expression 19 = .ok (.aload_n 0, 1) := by decide +kernel
theorem d_X3_expression_20 : decode b_X3_expression 20 = .ok (.getfield 53, 3) := by decide +kernel
theorem d_X3_expression_23 : decode b_X3_expression 23 = .ok (.bipush 40, 2) := by decide +kernel
theorem d_X3_expression_25 : decode b_X3_expression 25 = .ok (.if_icmp .gt 38, 3) := by decide +kernel
theorem d_X3_expression_28 : decode b_X3_expression 28 = .ok (.aload_n 0, 1) := by decide +kernel
theorem d_X3_expression_29 : decode b_X3_expression 29 = .ok (.iload_n 1, 1) := by decide +kernel
theorem d_X3_expression_30 : decode b_X3_expression 30 = .ok (.invokevirtual 149, 3) := by decide +kernel
theorem d_X3_expression_33 : decode b_X3_expression 33 = .ok (.ifCond .eq 30, 3) := by decide +kernel
theorem d_X3_expression_36 : decode b_X3_expression 36 = .ok (.aload_n 0, 1) := by decide +kernel
theorem d_X3_expression_37 : decode b_X3_expression 37 = .ok (.bipush 7, 2) := by decide +kernel
theorem d_X3_expression_39 : decode b_X3_expression 39 = .ok (.iload_n 2, 1) := by decide +kernel
theorem d_X3_expression_40 : decode b_X3_expression 40 = .ok (.iconst 0, 1) := by decide +kernel
theorem d_X3_expression_41 : decode b_X3_expression 41 = .ok (.iconst 0, 1) := by decide +kernel
theorem d_X3_expression_42 : decode b_X3_expression 42 = .ok (.invokevirtual 75, 3) := by decide +kernel
theorem d_X3_expression_45 : decode b_X3_expression 45 = .ok (.pop, 1) := by decide +kernel
theorem d_X3_expression_46 : decode b_X3_expression 46 = .ok (.aload_n 0, 1) := by decide +kernel
theorem d_X3_expression_47 : decode b_X3_expression 47 = .ok (.iload_n 1, 1) := by decide +kernel
theorem d_X3_expression_48 : decode b_X3_expression 48 = .ok (.iconst 1, 1) := by decide +kernel
theorem d_X3_expression_49 : decode b_X3_expression 49 = .ok (.iadd, 1) := by decide +kernel
theorem d_X3_expression_50 : decode b_X3_expression 50 = .ok (.invokevirtual 119, 3) := by decide +kernel
theorem d_X3_expression_53 : decode b_X3_expression 53 = .ok (.aload_n 0, 1) := by decide +kernel
theorem d_X3_expression_54 : decode b_X3_expression 54 = .ok (.bipush 9, 2) := by decide +kernel
theorem d_X3_expression_56 : decode b_X3_expression 56 = .ok (.iload_n 2, 1) := by decide +kernel
theorem d_X3_expression_57 : decode b_X3_expression 57 = .ok (.iconst 0, 1) := by decide +kernel
theorem d_X3_expression_58 : decode b_X3_expression 58 = .ok (.iconst 0, 1) := by decide +kernel
theorem d_X3_expression_59 : decode b_X3_expression 59 = .ok (.invokevirtual 75, 3) := by decide +kernel
theorem d_X3_expression_62 : decode b_X3_expression 62 = .ok (.pop, 1) := by decide +kernel
theorem d_X3_expression_63 : decode b_X3_expression 63 = .ok (.return_, 1) := by decide +kernel
theorem d_X3_choice_0 : decode b_X3_choice 0 = .ok (.aload_n 0, 1) := by decide +kernel
theorem d_X3_choice_1 : decode b_X3_choice 1 = .ok (.iload_n 1, 1) := by decide +kernel
theorem d_X3_choice_2 : decode b_X3_choice 2 = .ok (.invokevirtual 152, 3) := by decide +kernel
theorem d_X3_choice_5 : decode b_X3_choice 5 = .ok (.aload_n 0, 1) := by decide +kernel
theorem d_X3_choice_6 : decode b_X3_choice 6 = .ok (.getfield 44, 3) := by decide +kernel
theorem d_X3_choice_9 : decode b_X3_choice 9 = .ok (.istore_n 2, 1) := by decide +kernel
theorem d_X3_choice_10 : decode b_X3_choice 10 = .ok (.aload_n 0, 1) := by decide +kernel
theorem d_X3_choice_11 : decode b_X3_choice 11 = .ok (.getfield 53, 3) := by decide +kernel
theorem d_X3_choice_14 : decode b_X3_choice 14 = .ok (.bipush 28, 2) := by decide +kernel
theorem d_X3_choice_16 : decode b_X3_choice 16 = .ok (.if_icmp .ne 61, 3) := by decide +kernel
theorem d_X3_choice_19 : decode b_X3_choice 19 = .ok (.aload_n 0, 1) := by decide +kernel
theorem d_X3_choice_20 : decode b_X3_choice 20 = .ok (.iload_n 1, 1) := by decide +kernel
theorem d_X3_choice_21 : decode b_X3_choice 21 = .ok (.invokevirtual 149, 3) := by decide +kernel
theorem d_X3_choice_24 : decode b_X3_choice 24 = .ok (.ifCond .eq 53, 3) := by decide +kernel
theorem d_X3_choice_27 : decode b_X3_choice 27 = .ok (.aload_n 0, 1) := by decide +kernel
theorem d_X3_choice_28 : decode b_X3_choice 28 = .ok (.bipush 14, 2) := by decide +kernel
theorem d_X3_choice_30 : decode b_X3_choice 30 = .ok (.iload_n 2, 1) := by decide +kernel
theorem d_X3_choice_31 : decode b_X3_choice 31 = .ok (.iconst 0, 1) := by decide +kernel
theorem d_X3_choice_32 : decode b_X3_choice 32 = .ok (.iconst 0, 1) := by decide +kernel
theorem d_X3_choice_33 : decode b_X3_choice 33 = .ok (.invokevirtual 75, 3) := by decide +kernel
theorem d_X3_choice_36 : decode b_X3_choice 36 = .ok (.pop, 1) := by decide +kernel
theorem d_X3_choice_37 : decode b_X3_choice 37 = .ok (.aload_n 0, 1) := by decide +kernel
theorem d_X3_choice_38 : decode b_X3_choice 38 = .ok (.iload_n 1, 1) := by decide +kernel
theorem d_X3_choice_39 : decode b_X3_choice 39 = .ok (.iconst 1, 1) := by decide +kernel
theorem d_X3_choice_40 : decode b_X3_choice 40 = .ok (.iadd, 1) := by decide +kernel
theorem d_X3_choice_41 : decode b_X3_choice 41 = .ok (.invokevirtual 119, 3) := by decide +kernel
theorem d_X3_choice_44 : decode b_X3_choice 44 = .ok (.aload_n 0, 1) := by decide +kernel
theorem d_X3_choice_45 : decode b_X3_choice 45 = .ok (.bipush 29, 2) := by decide +kernel
theorem d_X3_choice_47 : decode b_X3_choice 47 = .ok (.invokevirtual 56, 3) := by decide +kernel
theorem d_X3_choice_50 : decode b_X3_choice 50 = .ok (.aload_n 0, 1) := by decide +kernel
theorem d_X3_choice_51 : decode b_X3_choice 51 = .ok (.bipush 15, 2) := by decide +kernel
theorem d_X3_choice_53 : decode b_X3_choice 53 = .ok (.iload_n 2, 1) := by decide +kernel
theorem d_X3_choice_54 : decode b_X3_choice 54 = .ok (.iconst 0, 1) := by decide +kernel
theorem d_X3_choice_55 : decode b_X3_choice 55 = .ok (.iconst 0, 1) := by decide +kernel
theorem d_X3_choice_56 : decode b_X3_choice 56 = .ok (.invokevirtual 75, 3) := by decide +kernel
theorem d_X3_choice_59 : decode b_X3_choice 59 = .ok (.pop, 1) := by decide +kernel
theorem d_X3_choice_60 : decode b_X3_choice 60 = .ok (.aload_n 0, 1) := by decide +kernel
theorem d_X3_choice_61 : decode b_X3_choice 61 = .ok (.iload_n 1, 1) := by decide +kernel
theorem d_X3_choice_62 : decode b_X3_choice 62 = .ok (.iconst 1, 1) := by decide +kernel
theorem d_X3_choice_63 : decode b_X3_choice 63 = .ok (.iadd, 1) := by decide +kernel
theorem d_X3_choice_64 : decode b_X3_choice 64 = .ok (.invokevirtual 146, 3) := by decide +kernel
theorem d_X3_choice_67 : decode b_X3_choice 67 = .ok (.aload_n 0, 1) := by decide +kernel
theorem d_X3_choice_68 : decode b_X3_choice 68 = .ok (.bipush 16, 2) := by decide +kernel
theorem d_X3_choice_70 : decode b_X3_choice 70 = .ok (.iload_n 2, 1) := by decide +kernel
theorem d_X3_choice_71 : decode b_X3_choice 71 = .ok (.iconst 0, 1) := by decide +kernel
theorem d_X3_choice_72 : decode b_X3_choice 72 = .ok (.iconst 0, 1) := by decide +kernel
theorem d_X3_choice_73 : decode b_X3_choice 73 = .ok (.invokevirtual 75, 3) := by decide +kernel
theorem d_X3_choice_76 : decode b_X3_choice 76 = .ok (.pop, 1) := by decide +kernel
theorem d_X3_choice_77 : decode b_X3_choice 77 = .ok (.return_, 1) := by decide +kernel
theorem d_X3_binary_0 : decode b_X3_binary 0 = .ok (.aload_n 0, 1) := by decide +kernel
theorem d_X3_binary_1 : decode b_X3_binary 1 = .ok (.getfield 38, 3) := by decide +kernel
theorem d_X3_binary_4 : decode b_X3_binary 4 = .ok (.istore_n 2, 1) := by decide +kernel
theorem d_X3_binary_5 : decode b_X3_binary 5 = .ok (.aload_n 0, 1) := by decide +kernel
theorem d_X3_binary_6 : decode b_X3_binary 6 = .ok (.iload_n 1, 1) := by decide +kernel
theorem d_X3_binary_7 : decode b_X3_binary 7 = .ok (.invokevirtual 158, 3) := by decide +kernel
theorem d_X3_binary_10 : decode b_X3_binary 10 = .ok (.aload_n 0, 1) := by decide +kernel
theorem d_X3_binary_11 : decode b_X3_binary 11 = .ok (.getfield 30, 3) := by decide +kernel
theorem d_X3_binary_14 : decode b_X3_binary 14 = .ok (.getfield 50, 3) := by decide +kernel
theorem d_X3_binary_17 : decode b_X3_binary 17 = .ok (.istore_n 3, 1) := by decide +kernel
theorem d_X3_binary_18 : decode b_X3_binary 18 = .ok (.iload_n 3, 1) := by decide +kernel
theorem d_X3_binary_19 : decode b_X3_binary 19 = .ok (.ifCond .le 78, 3) := by decide +kernel
theorem d_X3_binary_22 : decode b_X3_binary 22 = .ok (.aload_n 0, 1) := by decide +kernel
theorem d_X3_binary_23 : decode b_X3_binary 23 = .ok (.getfield 53, 3) := by decide +kernel
theorem d_X3_binary_26 : decode b_X3_binary 26 = .ok (.invokestatic 161, 3) := by decide +kernel
theorem d_X3_binary_29 : decode b_X3_binary 29 = .ok (.ifCond .le 68, 3) := by decide +kernel
theorem d_X3_binary_32 : decode b_X3_binary 32 = .ok (.aload_n 0, 1) := by decide +kernel
theorem d_X3_binary_33 : decode b_X3_binary 33 = .ok (.iload_n 2, 1) := by decide +kernel
theorem d_X3_binary_34 : decode b_X3_binary 34 = .ok (.aload_n 0, 1) := by decide +kernel
theorem d_X3_binary_35 : decode b_X3_binary 35 = .ok (.getfield 53, 3) := by decide +kernel
theorem d_X3_binary_38 : decode b_X3_binary 38 = .ok (.invokestatic 161, 3) := by decide +kernel
theorem d_X3_binary_41 : decode b_X3_binary 41 = .ok (.invokevirtual 164, 3) := by decide +kernel
theorem d_X3_binary_44 : decode b_X3_binary 44 = .ok (.aload_n 0, 1) := by decide +kernel
theorem d_X3_binary_45 : decode b_X3_binary 45 = .ok (.getfield 24, 3) := by decide +kernel
theorem d_X3_binary_48 : decode b_X3_binary 48 = .ok (.aload_n 0, 1) := by decide +kernel
theorem d_X3_binary_49 : decode b_X3_binary 49 = .ok (.getfield 38, 3) := by decide +kernel
theorem d_X3_binary_52 : decode b_X3_binary 52 = .ok (.aload_n 0, 1) := by decide +kernel
theorem d_X3_binary_53 : decode b_X3_binary 53 = .ok (.getfield 44, 3) := by decide +kernel
theorem d_X3_binary_56 : decode b_X3_binary 56 = .ok (.invokestatic 105, 3) := by decide +kernel
theorem d_X3_binary_59 : decode b_X3_binary 59 = .ok (.aload_n 0, 1) := by decide +kernel
theorem d_X3_binary_60 : decode b_X3_binary 60 = .ok (.dup, 1) := by decide +kernel
theorem d_X3_binary_61 : decode b_X3_binary 61 = .ok (.getfield 38, 3) := by decide +kernel
theorem d_X3_binary_64 : decode b_X3_binary 64 = .ok (.iconst 1, 1) := by decide +kernel
theorem d_X3_binary_65 : decode b_X3_binary 65 = .ok (.iadd, 1) := by decide +kernel
theorem d_X3_binary_66 : decode b_X3_binary 66 = .ok (.putfield 38, 3) := by decide +kernel
theorem d_X3_binary_69 : decode b_X3_binary 69 = .ok (.aload_n 0, 1) := by decide +kernel
theorem d_X3_binary_70 : decode b_X3_binary 70 = .ok (.bipush 7, 2) := by decide +kernel
theorem d_X3_binary_72 : decode b_X3_binary 72 = .ok (.aload_n 0, 1) := by decide +kernel
theorem d_X3_binary_73 : decode b_X3_binary 73 = .ok (.getfield 44, 3) := by decide +kernel
theorem d_X3_binary_76 : decode b_X3_binary 76 = .ok (.iconst 0, 1) := by decide +kernel
theorem d_X3_binary_77 : decode b_X3_binary 77 = .ok (.iconst 0, 1) := by decide +kernel
theorem d_X3_binary_78 : decode b_X3_binary 78 = .ok (.invokevirtual 75, 3) := by decide +kernel
theorem d_X3_binary_81 : decode b_X3_binary 81 = .ok (.pop, 1) := by decide +kernel
theorem d_X3_binary_82 : decode b_X3_binary 82 = .ok (.aload_n 0, 1) := by decide +kernel
theorem d_X3_binary_83 : decode b_X3_binary 83 = .ok (.invokevirtual 47, 3) := by decide +kernel
theorem d_X3_binary_86 : decode b_X3_binary 86 = .ok (.aload_n 0, 1) := by decide +kernel
theorem d_X3_binary_87 : decode b_X3_binary 87 = .ok (.iload_n 1, 1) := by decide +kernel
theorem d_X3_binary_88 : decode b_X3_binary 88 = .ok (.invokevirtual 158, 3) := by decide +kernel
theorem d_X3_binary_91 : decode b_X3_binary 91 = .ok (.iinc 3 (-1), 3) := by decide +kernel
theorem d_X3_binary_94 : decode b_X3_binary 94 = .ok (.goto (-76), 3) := by decide +kernel
theorem d_X3_binary_97 : decode b_X3_binary 97 = .ok (.aload_n 0, 1) := by decide +kernel
theorem d_X3_binary_98 : decode b_X3_binary 98 = .ok (.iload_n 2, 1) := by decide +kernel
theorem d_X3_binary_99 : decode b_X3_binary 99 = .ok (.iconst 0, 1) := by decide +kernel
theorem d_X3_binary_100 : decode b_X3_binary 100 = .ok (.invokevirtual 164, 3) := by decide +kernel
theorem d_X3_binary_103 : decode b_X3_binary 103 = .ok (.return_, 1) := by decide +kernel
theorem d_X3_unary_0 : decode b_X3_unary 0 = .ok (.aload_n 0, 1) := by decide +kernel
theorem d_X3_unary_1 : decode b_X3_unary 1 = .ok (.getfield 44, 3) := by decide +kernel
theorem d_X3_unary_4 : decode b_X3_unary 4 = .ok (.istore_n 2, 1) := by decide +kernel
theorem d_X3_unary_5 : decode b_X3_unary 5 = .ok (.aload_n 0, 1) := by decide +kernel
theorem d_X3_unary_6 : decode b_X3_unary 6 = .ok (.getfield 53, 3) := by decide +kernel
theorem d_X3_unary_9 : decode b_X3_unary 9 = .ok (.tableswitch 119 44 62 #[91, 91, 119, 119, 91, 119, 119, 119, 119, 119, 119, 119, 119, 119, 119, 91, 91, 91, 91], 91) := by decide +kernel
theorem d_X3_unary_100 : decode b_X3_unary 100 = .ok (.aload_n 0, 1) := by decide +kernel
theorem d_X3_unary_101 : decode b_X3_unary 101 = .ok (.iload_n 1, 1) := by decide +kernel
theorem d_X3_unary_102 : decode b_X3_unary 102 = .ok (.invokevirtual 149, 3) := by decide +kernel
theorem d_X3_unary_105 : decode b_X3_unary 105 = .ok (.ifCond .eq 62, 3) := by decide +kernel
theorem d_X3_unary_108 : decode b_X3_unary 108 = .ok (.aload_n 0, 1) := by decide +kernel
theorem d_X3_unary_109 : decode b_X3_unary 109 = .ok (.iload_n 1, 1) := by decide +kernel
theorem d_X3_unary_110 : decode b_X3_unary 110 = .ok (.iconst 1, 1) := by decide +kernel
theorem d_X3_unary_111 : decode b_X3_unary 111 = .ok (.iadd, 1) := by decide +kernel
theorem d_X3_unary_112 : decode b_X3_unary 112 = .ok (.invokevirtual 158, 3) := by decide +kernel
theorem d_X3_unary_115 : decode b_X3_unary 115 = .ok (.aload_n 0, 1) := by decide +kernel
theorem d_X3_unary_116 : decode b_X3_unary 116 = .ok (.bipush 11, 2) := by decide +kernel
theorem d_X3_unary_118 : decode b_X3_unary 118 = .ok (.iload_n 2, 1) := by decide +kernel
theorem d_X3_unary_119 : decode b_X3_unary 119 = .ok (.iconst 0, 1) := by decide +kernel
theorem d_X3_unary_120 : decode b_X3_unary 120 = .ok (.iconst 0, 1) := by decide +kernel
theorem d_X3_unary_121 : decode b_X3_unary 121 = .ok (.invokevirtual 75, 3) := by decide +kernel
theorem d_X3_unary_124 : decode b_X3_unary 124 = .ok (.pop, 1) := by decide +kernel
theorem d_X3_unary_125 : decode b_X3_unary 125 = .ok (.goto 42, 3) := by decide +kernel
theorem d_X3_unary_128 : decode b_X3_unary 128 = .ok (.aload_n 0, 1) := by decide +kernel
theorem d_X3_unary_129 : decode b_X3_unary 129 = .ok (.getfield 53, 3) := by decide +kernel
theorem d_X3_unary_132 : decode b_X3_unary 132 = .ok (.bipush 20, 2) := by decide +kernel
theorem d_X3_unary_134 : decode b_X3_unary 134 = .ok (.if_icmp .ne 28, 3) := by decide +kernel
theorem d_X3_unary_137 : decode b_X3_unary 137 = .ok (.aload_n 0, 1) := by decide +kernel
theorem d_X3_unary_138 : decode b_X3_unary 138 = .ok (.getfield 30, 3) := by decide +kernel
theorem d_X3_unary_141 : decode b_X3_unary 141 = .ok (.getfield 79, 3) := by decide +kernel
theorem d_X3_unary_144 : decode b_X3_unary 144 = .ok (.iload_n 2, 1) := by decide +kernel
theorem d_X3_unary_145 : decode b_X3_unary 145 = .ok (.iconst 1, 1) := by decide +kernel
theorem d_X3_unary_146 : decode b_X3_unary 146 = .ok (.iadd, 1) := by decide +kernel
theorem d_X3_unary_147 : decode b_X3_unary 147 = .ok (.invokestatic 93, 3) := by decide +kernel
theorem d_X3_unary_150 : decode b_X3_unary 150 = .ok (.iconst 5, 1) := by decide +kernel
theorem d_X3_unary_151 : decode b_X3_unary 151 = .ok (.if_icmp .ne 11, 3) := by decide +kernel
theorem d_X3_unary_154 : decode b_X3_unary 154 = .ok (.aload_n 0, 1) := by decide +kernel
theorem d_X3_unary_155 : decode b_X3_unary 155 = .ok (.iload_n 1, 1) := by decide +kernel
theorem d_X3_unary_156 : decode b_X3_unary 156 = .ok (.invokevirtual 167, 3) := by decide +kernel
theorem d_X3_unary_159 : decode b_X3_unary 159 = .ok (.goto 8, 3) := by decide +kernel
theorem d_X3_unary_162 : decode b_X3_unary 162 = .ok (.aload_n 0, 1) := by decide +kernel
theorem d_X3_unary_163 : decode b_X3_unary 163 = .ok (.iload_n 1, 1) := by decide +kernel
theorem d_X3_unary_164 : decode b_X3_unary 164 = .ok (.invokevirtual 170, 3) := by decide +kernel
theorem d_X3_unary_167 : decode b_X3_unary 167 = .ok (.return_, 1) := by decide +kernel
theorem d_X3_deeper_0 : decode b_X3_deeper 0 = .ok (.iload_n 1, 1) := by decide +kernel
theorem d_X3_deeper_1 : decode b_X3_deeper 1 = .ok (.bipush 25, 2) := by decide +kernel
theorem d_X3_deeper_3 : decode b_X3_deeper 3 = .ok (.if_icmp .ge 7, 3) := by decide +kernel
theorem d_X3_deeper_6 : decode b_X3_deeper 6 = .ok (.iconst 1, 1) := by decide +kernel
theorem d_X3_deeper_7 : decode b_X3_deeper 7 = .ok (.goto 4, 3) := by decide +kernel
theorem d_X3_deeper_10 : decode b_X3_deeper 10 = .ok (.iconst 0, 1) := by decide +kernel
theorem d_X3_deeper_11 : decode b_X3_deeper 11 = .ok (.istore_n 2, 1) := by decide +kernel
theorem d_X3_deeper_12 : decode b_X3_deeper 12 = .ok (.iload_n 2, 1) := by decide +kernel
theorem d_X3_deeper_13 : decode b_X3_deeper 13 = .ok (.ifCond .eq 10, 3) := by decide +kernel
theorem d_X3_deeper_16 : decode b_X3_deeper 16 = .ok (.aload_n 0, 1) := by decide +kernel
theorem d_X3_deeper_17 : decode b_X3_deeper 17 = .ok (.invokevirtual 47, 3) := by decide +kernel
theorem d_X3_deeper_20 : decode b_X3_deeper 20 = .ok (.goto 7, 3) := by decide +kernel
theorem d_X3_deeper_23 : decode b_X3_deeper 23 = .ok (.aload_n 0, 1) := by decide +kernel
theorem d_X3_deeper_24 : decode b_X3_deeper 24 = .ok (.invokevirtual 82, 3) := by decide +kernel
theorem d_X3_deeper_27 : decode b_X3_deeper 27 = .ok (.iload_n 2, 1) := by decide +kernel
theorem d_X3_deeper_28 : decode b_X3_deeper 28 = .ok (.ireturn, 1) := by decide +kernel
theorem d_X3_cast_0 : decode b_X3_cast 0 = .ok (.aload_n 0, 1) := by decide +kernel
theorem d_X3_cast_1 : decode b_X3_cast 1 = .ok (.getfield 44, 3) := by decide +kernel
theorem d_X3_cast_4 : decode b_X3_cast 4 = .ok (.istore_n 2, 1) := by decide +kernel
theorem d_X3_cast_5 : decode b_X3_cast 5 = .ok (.aload_n 0, 1) := by decide +kernel
theorem d_X3_cast_6 : decode b_X3_cast 6 = .ok (.iload_n 1, 1) := by decide +kernel
theorem d_X3_cast_7 : decode b_X3_cast 7 = .ok (.invokevirtual 149, 3) := by decide +kernel
theorem d_X3_cast_10 : decode b_X3_cast 10 = .ok (.ifCond .eq 36, 3) := by decide +kernel
theorem d_X3_cast_13 : decode b_X3_cast 13 = .ok (.aload_n 0, 1) := by decide +kernel
theorem d_X3_cast_14 : decode b_X3_cast 14 = .ok (.iconst 5, 1) := by decide +kernel
theorem d_X3_cast_15 : decode b_X3_cast 15 = .ok (.invokevirtual 56, 3) := by decide +kernel
theorem d_X3_cast_18 : decode b_X3_cast 18 = .ok (.aload_n 0, 1) := by decide +kernel
theorem d_X3_cast_19 : decode b_X3_cast 19 = .ok (.invokevirtual 60, 3) := by decide +kernel
theorem d_X3_cast_22 : decode b_X3_cast 22 = .ok (.istore_n 3, 1) := by decide +kernel
theorem d_X3_cast_23 : decode b_X3_cast 23 = .ok (.aload_n 0, 1) := by decide +kernel
theorem d_X3_cast_24 : decode b_X3_cast 24 = .ok (.bipush 21, 2) := by decide +kernel
theorem d_X3_cast_26 : decode b_X3_cast 26 = .ok (.invokevirtual 56, 3) := by decide +kernel
theorem d_X3_cast_29 : decode b_X3_cast 29 = .ok (.aload_n 0, 1) := by decide +kernel
theorem d_X3_cast_30 : decode b_X3_cast 30 = .ok (.iload_n 1, 1) := by decide +kernel
theorem d_X3_cast_31 : decode b_X3_cast 31 = .ok (.iconst 1, 1) := by decide +kernel
theorem d_X3_cast_32 : decode b_X3_cast 32 = .ok (.iadd, 1) := by decide +kernel
theorem d_X3_cast_33 : decode b_X3_cast 33 = .ok (.invokevirtual 158, 3) := by decide +kernel
theorem d_X3_cast_36 : decode b_X3_cast 36 = .ok (.aload_n 0, 1) := by decide +kernel
theorem d_X3_cast_37 : decode b_X3_cast 37 = .ok (.bipush 12, 2) := by decide +kernel
theorem d_X3_cast_39 : decode b_X3_cast 39 = .ok (.iload_n 2, 1) := by decide +kernel
theorem d_X3_cast_40 : decode b_X3_cast 40 = .ok (.iload_n 3, 1) := by decide +kernel
theorem d_X3_cast_41 : decode b_X3_cast 41 = .ok (.iconst 0, 1) := by decide +kernel
theorem d_X3_cast_42 : decode b_X3_cast 42 = .ok (.invokevirtual 75, 3) := by decide +kernel
theorem d_X3_cast_45 : decode b_X3_cast 45 = .ok (.pop, 1) := by decide +kernel
theorem d_X3_cast_46 : decode b_X3_cast 46 = .ok (.return_, 1) := by decide +kernel
theorem d_X3_behind_0 : decode b_X3_behind 0 = .ok (.aload_n 0, 1) := by decide +kernel
theorem d_X3_behind_1 : decode b_X3_behind 1 = .ok (.iload_n 1, 1) := by decide +kernel
theorem d_X3_behind_2 : decode b_X3_behind 2 = .ok (.invokevirtual 173, 3) := by decide +kernel
theorem d_X3_behind_5 : decode b_X3_behind 5 = .ok (.iconst 1, 1) := by decide +kernel
theorem d_X3_behind_6 : decode b_X3_behind 6 = .ok (.istore_n 2, 1) := by decide +kernel
theorem d_X3_behind_7 : decode b_X3_behind 7 = .ok (.aload_n 0, 1) := by decide +kernel
theorem d_X3_behind_8 : decode b_X3_behind 8 = .ok (.getfield 30, 3) := by decide +kernel
theorem d_X3_behind_11 : decode b_X3_behind 11 = .ok (.getfield 50, 3) := by decide +kernel
theorem d_X3_behind_14 : decode b_X3_behind 14 = .ok (.istore_n 3, 1) := by decide +kernel
theorem d_X3_behind_15 : decode b_X3_behind 15 = .ok (.iload_n 3, 1) := by decide +kernel
theorem d_X3_behind_16 : decode b_X3_behind 16 = .ok (.ifCond .le 126, 3) := by decide +kernel
theorem d_X3_behind_19 : decode b_X3_behind 19 = .ok (.iload_n 2, 1) := by decide +kernel
theorem d_X3_behind_20 : decode b_X3_behind 20 = .ok (.ifCond .eq 122, 3) := by decide +kernel
theorem d_X3_behind_23 : decode b_X3_behind 23 = .ok (.aload_n 0, 1) := by decide +kernel
theorem d_X3_behind_24 : decode b_X3_behind 24 = .ok (.getfield 44, 3) := by decide +kernel
theorem d_X3_behind_27 : decode b_X3_behind 27 = .ok (.istore 4, 2) := by decide +kernel
theorem d_X3_behind_29 : decode b_X3_behind 29 = .ok (.aload_n 0, 1) := by decide +kernel
theorem d_X3_behind_30 : decode b_X3_behind 30 = .ok (.getfield 53, 3) := by decide +kernel
theorem d_X3_behind_33 : decode b_X3_behind 33 = .ok (.bipush 24, 2) := by decide +kernel
theorem d_X3_behind_35 : decode b_X3_behind 35 = .ok (.if_icmp .eq 21, 3) := by decide +kernel
theorem d_X3_behind_38 : decode b_X3_behind 38 = .ok (.aload_n 0, 1) := by decide +kernel
theorem d_X3_behind_39 : decode b_X3_behind 39 = .ok (.getfield 53, 3) := by decide +kernel
theorem d_X3_behind_42 : decode b_X3_behind 42 = .ok (.bipush 61, 2) := by decide +kernel
theorem d_X3_behind_44 : decode b_X3_behind 44 = .ok (.if_icmp .eq 12, 3) := by decide +kernel
theorem d_X3_behind_47 : decode b_X3_behind 47 = .ok (.aload_n 0, 1) := by decide +kernel
theorem d_X3_behind_48 : decode b_X3_behind 48 = .ok (.getfield 53, 3) := by decide +kernel
theorem d_X3_behind_51 : decode b_X3_behind 51 = .ok (.bipush 62, 2) := by decide +kernel
theorem d_X3_behind_53 : decode b_X3_behind 53 = .ok (.if_icmp .ne 7, 3) := by decide +kernel
theorem d_X3_behind_56 : decode b_X3_behind 56 = .ok (.iconst 1, 1) := by decide +kernel
theorem d_X3_behind_57 : decode b_X3_behind 57 = .ok (.goto 4, 3) := by decide +kernel
theorem d_X3_behind_60 : decode b_X3_behind 60 = .ok (.iconst 0, 1) := by decide +kernel
theorem d_X3_behind_61 : decode b_X3_behind 61 = .ok (.istore_n 2, 1) := by decide +kernel
theorem d_X3_behind_62 : decode b_X3_behind 62 = .ok (.aload_n 0, 1) := by decide +kernel
theorem d_X3_behind_63 : decode b_X3_behind 63 = .ok (.getfield 53, 3) := by decide +kernel
theorem d_X3_behind_66 : decode b_X3_behind 66 = .ok (.bipush 24, 2) := by decide +kernel
theorem d_X3_behind_68 : decode b_X3_behind 68 = .ok (.if_icmp .ne 49, 3) := by decide +kernel
theorem d_X3_behind_71 : decode b_X3_behind 71 = .ok (.aload_n 0, 1) := by decide +kernel
theorem d_X3_behind_72 : decode b_X3_behind 72 = .ok (.iload_n 1, 1) := by decide +kernel
theorem d_X3_behind_73 : decode b_X3_behind 73 = .ok (.invokevirtual 149, 3) := by decide +kernel
theorem d_X3_behind_76 : decode b_X3_behind 76 = .ok (.ifCond .eq 60, 3) := by decide +kernel
theorem d_X3_behind_79 : decode b_X3_behind 79 = .ok (.aload_n 0, 1) := by decide +kernel
theorem d_X3_behind_80 : decode b_X3_behind 80 = .ok (.bipush 7, 2) := by decide +kernel
theorem d_X3_behind_82 : decode b_X3_behind 82 = .ok (.iload 4, 2) := by decide +kernel
theorem d_X3_behind_84 : decode b_X3_behind 84 = .ok (.iconst 0, 1) := by decide +kernel
theorem d_X3_behind_85 : decode b_X3_behind 85 = .ok (.iconst 0, 1) := by decide +kernel
theorem d_X3_behind_86 : decode b_X3_behind 86 = .ok (.invokevirtual 75, 3) := by decide +kernel
theorem d_X3_behind_89 : decode b_X3_behind 89 = .ok (.pop, 1) := by decide +kernel
theorem d_X3_behind_90 : decode b_X3_behind 90 = .ok (.aload_n 0, 1) := by decide +kernel
theorem d_X3_behind_91 : decode b_X3_behind 91 = .ok (.iload_n 1, 1) := by decide +kernel
theorem d_X3_behind_92 : decode b_X3_behind 92 = .ok (.iconst 1, 1) := by decide +kernel
theorem d_X3_behind_93 : decode b_X3_behind 93 = .ok (.iadd, 1) := by decide +kernel
theorem d_X3_behind_94 : decode b_X3_behind 94 = .ok (.invokevirtual 119, 3) := by decide +kernel
theorem d_X3_behind_97 : decode b_X3_behind 97 = .ok (.aload_n 0, 1) := by decide +kernel
theorem d_X3_behind_98 : decode b_X3_behind 98 = .ok (.bipush 25, 2) := by decide +kernel
theorem d_X3_behind_100 : decode b_X3_behind 100 = .ok (.invokevirtual 56, 3) := by decide +kernel
theorem d_X3_behind_103 : decode b_X3_behind 103 = .ok (.aload_n 0, 1) := by decide +kernel
theorem d_X3_behind_104 : decode b_X3_behind 104 = .ok (.bipush 10, 2) := by decide +kernel
theorem d_X3_behind_106 : decode b_X3_behind 106 = .ok (.iload 4, 2) := by decide +kernel
theorem d_X3_behind_108 : decode b_X3_behind 108 = .ok (.iconst 0, 1) := by decide +kernel
theorem d_X3_behind_109 : decode b_X3_behind 109 = .ok (.iconst 0, 1) := by decide +kernel
theorem d_X3_behind_110 : decode b_X3_behind 110 = .ok (.invokevirtual 75, 3) := by decide +kernel
theorem d_X3_behind_113 : decode b_X3_behind 113 = .ok (.pop, 1) := by decide +kernel
theorem d_X3_behind_114 : decode b_X3_behind 114 = .ok (.goto 22, 3) := by decide +kernel
theorem d_X3_behind_117 : decode b_X3_behind 117 = .ok (.iload_n 2, 1) := by decide +kernel
theorem d_X3_behind_118 : decode b_X3_behind 118 = .ok (.ifCond .eq 18, 3) := by decide +kernel
theorem d_X3_behind_121 : decode b_X3_behind 121 = .ok (.aload_n 0, 1) := by decide +kernel
theorem d_X3_behind_122 : decode b_X3_behind 122 = .ok (.invokevirtual 47, 3) := by decide +kernel
theorem d_X3_behind_125 : decode b_X3_behind 125 = .ok (.aload_n 0, 1) := by decide +kernel
theorem d_X3_behind_126 : decode b_X3_behind 126 = .ok (.bipush 13, 2) := by decide +kernel
theorem d_X3_behind_128 : decode b_X3_behind 128 = .ok (.iload 4, 2) := by decide +kernel
theorem d_X3_behind_130 : decode b_X3_behind 130 = .ok (.iconst 0, 1) := by decide +kernel
theorem d_X3_behind_131 : decode b_X3_behind 131 = .ok (.iconst 0, 1) := by decide +kernel
theorem d_X3_behind_132 : decode b_X3_behind 132 = .ok (.invokevirtual 75, 3) := by decide +kernel
theorem d_X3_behind_135 : decode b_X3_behind 135 = .ok (.pop, 1) := by decide +kernel
theorem d_X3_behind_136 : decode b_X3_behind 136 = .ok (.iinc 3 (-1), 3) := by decide +kernel
theorem d_X3_behind_139 : decode b_X3_behind 139 = .ok (.goto (-124), 3) := by decide +kernel
theorem d_X3_behind_142 : decode b_X3_behind 142 = .ok (.return_, 1) := by decide +kernel
theorem d_X3_primary_0 : decode b_X3_primary 0 = .ok (.aload_n 0, 1) := by decide +kernel
theorem d_X3_primary_1 : decode b_X3_primary 1 = .ok (.getfield 44, 3) := by decide +kernel
theorem d_X3_primary_4 : decode b_X3_primary 4 = .ok (.istore_n 2, 1) := by decide +kernel
theorem d_X3_primary_5 : decode b_X3_primary 5 = .ok (.aload_n 0, 1) := by decide +kernel
theorem d_X3_primary_6 : decode b_X3_primary 6 = .ok (.getfield 53, 3) := by decide +kernel
theorem d_X3_primary_9 : decode b_X3_primary 9 = .ok (.lookupswitch 129 #[(2, 71), (3, 43), (4, 43), (20, 105)], 43) := by decide +kernel
theorem d_X3_primary_52 : decode b_X3_primary 52 = .ok (.aload_n 0, 1) := by decide +kernel
theorem d_X3_primary_53 : decode b_X3_primary 53 = .ok (.aload_n 0, 1) := by decide +kernel
theorem d_X3_primary_54 : decode b_X3_primary 54 = .ok (.getfield 53, 3) := by decide +kernel
theorem d_X3_primary_57 : decode b_X3_primary 57 = .ok (.iconst 3, 1) := by decide +kernel
theorem d_X3_primary_58 : decode b_X3_primary 58 = .ok (.if_icmp .ne 7, 3) := by decide +kernel
theorem d_X3_primary_61 : decode b_X3_primary 61 = .ok (.iconst 1, 1) := by decide +kernel
theorem d_X3_primary_62 : decode b_X3_primary 62 = .ok (.goto 4, 3) := by decide +kernel
theorem d_X3_primary_65 : decode b_X3_primary 65 = .ok (.iconst 2, 1) := by decide +kernel
theorem d_X3_primary_66 : decode b_X3_primary 66 = .ok (.iload_n 2, 1) := by decide +kernel
theorem d_X3_primary_67 : decode b_X3_primary 67 = .ok (.iconst 0, 1) := by decide +kernel
theorem d_X3_primary_68 : decode b_X3_primary 68 = .ok (.iconst 0, 1) := by decide +kernel
theorem d_X3_primary_69 : decode b_X3_primary 69 = .ok (.invokevirtual 75, 3) := by decide +kernel
theorem d_X3_primary_72 : decode b_X3_primary 72 = .ok (.pop, 1) := by decide +kernel
theorem d_X3_primary_73 : decode b_X3_primary 73 = .ok (.aload_n 0, 1) := by decide +kernel
theorem d_X3_primary_74 : decode b_X3_primary 74 = .ok (.invokevirtual 47, 3) := by decide +kernel
theorem d_X3_primary_77 : decode b_X3_primary 77 = .ok (.goto 65, 3) := by decide +kernel
theorem d_X3_primary_80 : decode b_X3_primary 80 = .ok (.aload_n 0, 1) := by decide +kernel
theorem d_X3_primary_81 : decode b_X3_primary 81 = .ok (.invokevirtual 47, 3) := by decide +kernel
theorem d_X3_primary_84 : decode b_X3_primary 84 = .ok (.aload_n 0, 1) := by decide +kernel
theorem d_X3_primary_85 : decode b_X3_primary 85 = .ok (.getfield 53, 3) := by decide +kernel
theorem d_X3_primary_88 : decode b_X3_primary 88 = .ok (.bipush 20, 2) := by decide +kernel
theorem d_X3_primary_90 : decode b_X3_primary 90 = .ok (.if_icmp .ne 12, 3) := by decide +kernel
theorem d_X3_primary_93 : decode b_X3_primary 93 = .ok (.aload_n 0, 1) := by decide +kernel
theorem d_X3_primary_94 : decode b_X3_primary 94 = .ok (.iload_n 2, 1) := by decide +kernel
theorem d_X3_primary_95 : decode b_X3_primary 95 = .ok (.iload_n 1, 1) := by decide +kernel
theorem d_X3_primary_96 : decode b_X3_primary 96 = .ok (.invokevirtual 176, 3) := by decide +kernel
theorem d_X3_primary_99 : decode b_X3_primary 99 = .ok (.goto 43, 3) := by decide +kernel
theorem d_X3_primary_102 : decode b_X3_primary 102 = .ok (.aload_n 0, 1) := by decide +kernel
theorem d_X3_primary_103 : decode b_X3_primary 103 = .ok (.iconst 3, 1) := by decide +kernel
theorem d_X3_primary_104 : decode b_X3_primary 104 = .ok (.iload_n 2, 1) := by decide +kernel
theorem d_X3_primary_105 : decode b_X3_primary 105 = .ok (.iconst 0, 1) := by decide +kernel
theorem d_X3_primary_106 : decode b_X3_primary 106 = .ok (.iconst 0, 1) := by decide +kernel
theorem d_X3_primary_107 : decode b_X3_primary 107 = .ok (.invokevirtual 75, 3) := by decide +kernel
theorem d_X3_primary_110 : decode b_X3_primary 110 = .ok (.pop, 1) := by decide +kernel
theorem d_X3_primary_111 : decode b_X3_primary 111 = .ok (.goto 31, 3) := by decide +kernel
theorem d_X3_primary_114 : decode b_X3_primary 114 = .ok (.aload_n 0, 1) := by decide +kernel
theorem d_X3_primary_115 : decode b_X3_primary 115 = .ok (.iload_n 1, 1) := by decide +kernel
theorem d_X3_primary_116 : decode b_X3_primary 116 = .ok (.invokevirtual 149, 3) := by decide +kernel
theorem d_X3_primary_119 : decode b_X3_primary 119 = .ok (.ifCond .eq 23, 3) := by decide +kernel
theorem d_X3_primary_122 : decode b_X3_primary 122 = .ok (.aload_n 0, 1) := by decide +kernel
theorem d_X3_primary_123 : decode b_X3_primary 123 = .ok (.iload_n 1, 1) := by decide +kernel
theorem d_X3_primary_124 : decode b_X3_primary 124 = .ok (.iconst 1, 1) := by decide +kernel
theorem d_X3_primary_125 : decode b_X3_primary 125 = .ok (.iadd, 1) := by decide +kernel
theorem d_X3_primary_126 : decode b_X3_primary 126 = .ok (.invokevirtual 119, 3) := by decide +kernel
theorem d_X3_primary_129 : decode b_X3_primary 129 = .ok (.aload_n 0, 1) := by decide +kernel
theorem d_X3_primary_130 : decode b_X3_primary 130 = .ok (.bipush 21, 2) := by decide +kernel
theorem d_X3_primary_132 : decode b_X3_primary 132 = .ok (.invokevirtual 56, 3) := by decide +kernel
theorem d_X3_primary_135 : decode b_X3_primary 135 = .ok (.goto 7, 3) := by decide +kernel
theorem d_X3_primary_138 : decode b_X3_primary 138 = .ok (.aload_n 0, 1) := by decide +kernel
theorem d_X3_primary_139 : decode b_X3_primary 139 = .ok (.invokevirtual 82, 3) := by decide +kernel
theorem d_X3_primary_142 : decode b_X3_primary 142 = .ok (.return_, 1) := by decide +kernel
theorem d_X3_call_0 : decode b_X3_call 0 = .ok (.aload_n 0, 1) := by decide +kernel
theorem d_X3_call_1 : decode b_X3_call 1 = .ok (.iload_n 2, 1) := by decide +kernel
theorem d_X3_call_2 : decode b_X3_call 2 = .ok (.invokevirtual 149, 3) := by decide +kernel
theorem d_X3_call_5 : decode b_X3_call 5 = .ok (.ifCond .ne 4, 3) := by decide +kernel
theorem d_X3_call_8 : decode b_X3_call 8 = .ok (.return_, 1) := by decide +kernel
theorem d_X3_call_9 : decode b_X3_call 9 = .ok (.aload_n 0, 1) := by decide +kernel
theorem d_X3_call_10 : decode b_X3_call 10 = .ok (.iconst 4, 1) := by decide +kernel
theorem d_X3_call_11 : decode b_X3_call 11 = .ok (.iload_n 1, 1) := by decide +kernel
theorem d_X3_call_12 : decode b_X3_call 12 = .ok (.iconst 0, 1) := by decide +kernel
theorem d_X3_call_13 : decode b_X3_call 13 = .ok (.iconst 0, 1) := by decide +kernel
theorem d_X3_call_14 : decode b_X3_call 14 = .ok (.invokevirtual 75, 3) := by decide +kernel
theorem d_X3_call_17 : decode b_X3_call 17 = .ok (.pop, 1) := by decide +kernel
theorem d_X3_call_18 : decode b_X3_call 18 = .ok (.aload_n 0, 1) := by decide +kernel
theorem d_X3_call_19 : decode b_X3_call 19 = .ok (.getfield 53, 3) := by decide +kernel
theorem d_X3_call_22 : decode b_X3_call 22 = .ok (.bipush 21, 2) := by decide +kernel
theorem d_X3_call_24 : decode b_X3_call 24 = .ok (.if_icmp .eq 7, 3) := by decide +kernel
theorem d_X3_call_27 : decode b_X3_call 27 = .ok (.iconst 1, 1) := by decide +kernel
theorem d_X3_call_28 : decode b_X3_call 28 = .ok (.goto 4, 3) := by decide +kernel
theorem d_X3_call_31 : decode b_X3_call 31 = .ok (.iconst 0, 1) := by decide +kernel
theorem d_X3_call_32 : decode b_X3_call 32 = .ok (.istore_n 3, 1) := by decide +kernel
theorem d_X3_call_33 : decode b_X3_call 33 = .ok (.aload_n 0, 1) := by decide +kernel
theorem d_X3_call_34 : decode b_X3_call 34 = .ok (.getfield 30, 3) := by decide +kernel
theorem d_X3_call_37 : decode b_X3_call 37 = .ok (.getfield 50, 3) := by decide +kernel
theorem d_X3_call_40 : decode b_X3_call 40 = .ok (.istore 4, 2) := by decide +kernel
theorem d_X3_call_42 : decode b_X3_call 42 = .ok (.iload 4, 2) := by decide +kernel
theorem d_X3_call_44 : decode b_X3_call 44 = .ok (.ifCond .le 36, 3) := by decide +kernel
theorem d_X3_call_47 : decode b_X3_call 47 = .ok (.iload_n 3, 1) := by decide +kernel
theorem d_X3_call_48 : decode b_X3_call 48 = .ok (.ifCond .eq 32, 3) := by decide +kernel
theorem d_X3_call_51 : decode b_X3_call 51 = .ok (.aload_n 0, 1) := by decide +kernel
theorem d_X3_call_52 : decode b_X3_call 52 = .ok (.iload_n 2, 1) := by decide +kernel
theorem d_X3_call_53 : decode b_X3_call 53 = .ok (.iconst 1, 1) := by decide +kernel
theorem d_X3_call_54 : decode b_X3_call 54 = .ok (.iadd, 1) := by decide +kernel
theorem d_X3_call_55 : decode b_X3_call 55 = .ok (.invokevirtual 119, 3) := by decide +kernel
theorem d_X3_call_58 : decode b_X3_call 58 = .ok (.aload_n 0, 1) := by decide +kernel
theorem d_X3_call_59 : decode b_X3_call 59 = .ok (.iconst 5, 1) := by decide +kernel
theorem d_X3_call_60 : decode b_X3_call 60 = .ok (.iload_n 1, 1) := by decide +kernel
theorem d_X3_call_61 : decode b_X3_call 61 = .ok (.iconst 0, 1) := by decide +kernel
theorem d_X3_call_62 : decode b_X3_call 62 = .ok (.iconst 0, 1) := by decide +kernel
theorem d_X3_call_63 : decode b_X3_call 63 = .ok (.invokevirtual 75, 3) := by decide +kernel
theorem d_X3_call_66 : decode b_X3_call 66 = .ok (.pop, 1) := by decide +kernel
theorem d_X3_call_67 : decode b_X3_call 67 = .ok (.aload_n 0, 1) := by decide +kernel
theorem d_X3_call_68 : decode b_X3_call 68 = .ok (.bipush 26, 2) := by decide +kernel
theorem d_X3_call_70 : decode b_X3_call 70 = .ok (.invokevirtual 101, 3) := by decide +kernel
theorem d_X3_call_73 : decode b_X3_call 73 = .ok (.istore_n 3, 1) := by decide +kernel
theorem d_X3_call_74 : decode b_X3_call 74 = .ok (.iinc 4 (-1), 3) := by decide +kernel
theorem d_X3_call_77 : decode b_X3_call 77 = .ok (.goto (-35), 3) := by decide +kernel
theorem d_X3_call_80 : decode b_X3_call 80 = .ok (.aload_n 0, 1) := by decide +kernel
theorem d_X3_call_81 : decode b_X3_call 81 = .ok (.bipush 21, 2) := by decide +kernel
theorem d_X3_call_83 : decode b_X3_call 83 = .ok (.invokevirtual 56, 3) := by decide +kernel
theorem d_X3_call_86 : decode b_X3_call 86 = .ok (.aload_n 0, 1) := by decide +kernel
theorem d_X3_call_87 : decode b_X3_call 87 = .ok (.bipush 6, 2) := by decide +kernel
theorem d_X3_call_89 : decode b_X3_call 89 = .ok (.iload_n 1, 1) := by decide +kernel
theorem d_X3_call_90 : decode b_X3_call 90 = .ok (.iconst 0, 1) := by decide +kernel
theorem d_X3_call_91 : decode b_X3_call 91 = .ok (.iconst 0, 1) := by decide +kernel
theorem d_X3_call_92 : decode b_X3_call 92 = .ok (.invokevirtual 75, 3) := by decide +kernel
theorem d_X3_call_95 : decode b_X3_call 95 = .ok (.pop, 1) := by decide +kernel
theorem d_X3_call_96 : decode b_X3_call 96 = .ok (.return_, 1) := by decide +kernel
theorem d_X3_accept_0 : decode b_X3_accept 0 = .ok (.aload_n 0, 1) := by decide +kernel
theorem d_X3_accept_1 : decode b_X3_accept 1 = .ok (.getfield 53, 3) := by decide +kernel
theorem d_X3_accept_4 : decode b_X3_accept 4 = .ok (.iload_n 1, 1) := by decide +kernel
theorem d_X3_accept_5 : decode b_X3_accept 5 = .ok (.if_icmp .ne 7, 3) := by decide +kernel
theorem d_X3_accept_8 : decode b_X3_accept 8 = .ok (.iconst 1, 1) := by decide +kernel
theorem d_X3_accept_9 : decode b_X3_accept 9 = .ok (.goto 4, 3) := by decide +kernel
theorem d_X3_accept_12 : decode b_X3_accept 12 = .ok (.iconst 0, 1) := by decide +kernel
theorem d_X3_accept_13 : decode b_X3_accept 13 = .ok (.istore_n 2, 1) := by decide +kernel
theorem d_X3_accept_14 : decode b_X3_accept 14 = .ok (.iload_n 2, 1) := by decide +kernel
theorem d_X3_accept_15 : decode b_X3_accept 15 = .ok (.ifCond .eq 7, 3) := by decide +kernel
theorem d_X3_accept_18 : decode b_X3_accept 18 = .ok (.aload_n 0, 1) := by decide +kernel
theorem d_X3_accept_19 : decode b_X3_accept 19 = .ok (.invokevirtual 47, 3) := by decide +kernel
theorem d_X3_accept_22 : decode b_X3_accept 22 = .ok (.iload_n 2, 1) := by decide +kernel
theorem d_X3_accept_23 : decode b_X3_accept 23 = .ok (.ireturn, 1) := by decide +kernel
theorem d_X3_levelOf_0 : decode b_X3_levelOf 0 = .ok (.iload_n 0, 1) := by decide +kernel
theorem d_X3_levelOf_1 : decode b_X3_levelOf 1 = .ok (.bipush 41, 2) := by decide +kernel
theorem d_X3_levelOf_3 : decode b_X3_levelOf 3 = .ok (.isub, 1) := by decide +kernel
theorem d_X3_levelOf_4 : decode b_X3_levelOf 4 = .ok (.istore_n 1, 1) := by decide +kernel
theorem d_X3_levelOf_5 : decode b_X3_levelOf 5 = .ok (.iload_n 1, 1) := by decide +kernel
theorem d_X3_levelOf_6 : decode b_X3_levelOf 6 = .ok (.ifCond .lt 19, 3) := by decide +kernel
theorem d_X3_levelOf_9 : decode b_X3_levelOf 9 = .ok (.iload_n 1, 1) := by decide +kernel
theorem d_X3_levelOf_10 : decode b_X3_levelOf 10 = .ok (.getstatic 155, 3) := by decide +kernel
theorem d_X3_levelOf_13 : decode b_X3_levelOf 13 = .ok (.arraylength, 1) := by decide +kernel
theorem d_X3_levelOf_14 : decode b_X3_levelOf 14 = .ok (.if_icmp .ge 11, 3) := by decide +kernel
theorem d_X3_levelOf_17 : decode b_X3_levelOf 17 = .ok (.getstatic 155, 3) := by decide +kernel
theorem d_X3_levelOf_20 : decode b_X3_levelOf 20 = .ok (.iload_n 1, 1) := by decide +kernel
theorem d_X3_levelOf_21 : decode b_X3_levelOf 21 = .ok (.iaload, 1) := by decide +kernel
theorem d_X3_levelOf_22 : decode b_X3_levelOf 22 = .ok (.goto 4, 3) := by decide +kernel
theorem d_X3_levelOf_25 : decode b_X3_levelOf 25 = .ok (.iconst 0, 1) := by decide +kernel
theorem d_X3_levelOf_26 : decode b_X3_levelOf 26 = .ok (.ireturn, 1) := by decide +kernel
theorem d_X3_settle_0 : decode b_X3_settle 0 = .ok (.aload_n 0, 1) := by decide +kernel
theorem d_X3_settle_1 : decode b_X3_settle 1 = .ok (.getfield 38, 3) := by decide +kernel
theorem d_X3_settle_4 : decode b_X3_settle 4 = .ok (.iload_n 1, 1) := by decide +kernel
theorem d_X3_settle_5 : decode b_X3_settle 5 = .ok (.if_icmp .le 59, 3) := by decide +kernel
theorem d_X3_settle_8 : decode b_X3_settle 8 = .ok (.aload_n 0, 1) := by decide +kernel
theorem d_X3_settle_9 : decode b_X3_settle 9 = .ok (.getfield 24, 3) := by decide +kernel
theorem d_X3_settle_12 : decode b_X3_settle 12 = .ok (.aload_n 0, 1) := by decide +kernel
theorem d_X3_settle_13 : decode b_X3_settle 13 = .ok (.getfield 38, 3) := by decide +kernel
theorem d_X3_settle_16 : decode b_X3_settle 16 = .ok (.iconst 1, 1) := by decide +kernel
theorem d_X3_settle_17 : decode b_X3_settle 17 = .ok (.isub, 1) := by decide +kernel
theorem d_X3_settle_18 : decode b_X3_settle 18 = .ok (.invokestatic 93, 3) := by decide +kernel
theorem d_X3_settle_21 : decode b_X3_settle 21 = .ok (.istore_n 3, 1) := by decide +kernel
theorem d_X3_settle_22 : decode b_X3_settle 22 = .ok (.aload_n 0, 1) := by decide +kernel
theorem d_X3_settle_23 : decode b_X3_settle 23 = .ok (.getfield 30, 3) := by decide +kernel
theorem d_X3_settle_26 : decode b_X3_settle 26 = .ok (.getfield 79, 3) := by decide +kernel
theorem d_X3_settle_29 : decode b_X3_settle 29 = .ok (.iload_n 3, 1) := by decide +kernel
theorem d_X3_settle_30 : decode b_X3_settle 30 = .ok (.invokestatic 93, 3) := by decide +kernel
theorem d_X3_settle_33 : decode b_X3_settle 33 = .ok (.invokestatic 161, 3) := by decide +kernel
theorem d_X3_settle_36 : decode b_X3_settle 36 = .ok (.iload_n 2, 1) := by decide +kernel
theorem d_X3_settle_37 : decode b_X3_settle 37 = .ok (.if_icmp .ge 4, 3) := by decide +kernel
theorem d_X3_settle_40 : decode b_X3_settle 40 = .ok (.return_, 1) := by decide +kernel
theorem d_X3_settle_41 : decode b_X3_settle 41 = .ok (.aload_n 0, 1) := by decide +kernel
theorem d_X3_settle_42 : decode b_X3_settle 42 = .ok (.bipush 8, 2) := by decide +kernel
theorem d_X3_settle_44 : decode b_X3_settle 44 = .ok (.iload_n 3, 1) := by decide +kernel
theorem d_X3_settle_45 : decode b_X3_settle 45 = .ok (.iconst 0, 1) := by decide +kernel
theorem d_X3_settle_46 : decode b_X3_settle 46 = .ok (.iconst 0, 1) := by decide +kernel
theorem d_X3_settle_47 : decode b_X3_settle 47 = .ok (.invokevirtual 75, 3) := by decide +kernel
theorem d_X3_settle_50 : decode b_X3_settle 50 = .ok (.pop, 1) := by decide +kernel
theorem d_X3_settle_51 : decode b_X3_settle 51 = .ok (.aload_n 0, 1) := by decide +kernel
theorem d_X3_settle_52 : decode b_X3_settle 52 = .ok (.dup, 1) := by decide +kernel
theorem d_X3_settle_53 : decode b_X3_settle 53 = .ok (.getfield 38, 3) := by decide +kernel
theorem d_X3_settle_56 : decode b_X3_settle 56 = .ok (.iconst 1, 1) := by decide +kernel
theorem d_X3_settle_57 : decode b_X3_settle 57 = .ok (.isub, 1) := by decide +kernel
theorem d_X3_settle_58 : decode b_X3_settle 58 = .ok (.putfield 38, 3) := by decide +kernel
theorem d_X3_settle_61 : decode b_X3_settle 61 = .ok (.goto (-61), 3) := by decide +kernel
theorem d_X3_settle_64 : decode b_X3_settle 64 = .ok (.return_, 1) := by decide +kernel
theorem d_X3_initial_0 : decode b_X3_initial 0 = .ok (.aload_n 0, 1) := by decide +kernel
theorem d_X3_initial_1 : decode b_X3_initial 1 = .ok (.getfield 44, 3) := by decide +kernel
theorem d_X3_initial_4 : decode b_X3_initial 4 = .ok (.istore_n 3, 1) := by decide +kernel
theorem d_X3_initial_5 : decode b_X3_initial 5 = .ok (.aload_n 0, 1) := by decide +kernel
theorem d_X3_initial_6 : decode b_X3_initial 6 = .ok (.invokevirtual 47, 3) := by decide +kernel
theorem d_X3_initial_9 : decode b_X3_initial 9 = .ok (.aload_n 0, 1) := by decide +kernel
theorem d_X3_initial_10 : decode b_X3_initial 10 = .ok (.getfield 30, 3) := by decide +kernel
theorem d_X3_initial_13 : decode b_X3_initial 13 = .ok (.getfield 79, 3) := by decide +kernel
theorem d_X3_initial_16 : decode b_X3_initial 16 = .ok (.aload_n 0, 1) := by decide +kernel
theorem d_X3_initial_17 : decode b_X3_initial 17 = .ok (.getfield 44, 3) := by decide +kernel
theorem d_X3_initial_20 : decode b_X3_initial 20 = .ok (.iconst 1, 1) := by decide +kernel
theorem d_X3_initial_21 : decode b_X3_initial 21 = .ok (.iadd, 1) := by decide +kernel
theorem d_X3_initial_22 : decode b_X3_initial 22 = .ok (.invokestatic 93, 3) := by decide +kernel
theorem d_X3_initial_25 : decode b_X3_initial 25 = .ok (.istore 4, 2) := by decide +kernel
theorem d_X3_initial_27 : decode b_X3_initial 27 = .ok (.iload_n 1, 1) := by decide +kernel
theorem d_X3_initial_28 : decode b_X3_initial 28 = .ok (.ifCond .lt 29, 3) := by decide +kernel
theorem d_X3_initial_31 : decode b_X3_initial 31 = .ok (.aload_n 0, 1) := by decide +kernel
theorem d_X3_initial_32 : decode b_X3_initial 32 = .ok (.getfield 53, 3) := by decide +kernel
theorem d_X3_initial_35 : decode b_X3_initial 35 = .ok (.iconst 4, 1) := by decide +kernel
theorem d_X3_initial_36 : decode b_X3_initial 36 = .ok (.if_icmp .ne 21, 3) := by decide +kernel
theorem d_X3_initial_39 : decode b_X3_initial 39 = .ok (.iload 4, 2) := by decide +kernel
theorem d_X3_initial_41 : decode b_X3_initial 41 = .ok (.bipush 26, 2) := by decide +kernel
theorem d_X3_initial_43 : decode b_X3_initial 43 = .ok (.if_icmp .eq 10, 3) := by decide +kernel
theorem d_X3_initial_46 : decode b_X3_initial 46 = .ok (.iload 4, 2) := by decide +kernel
theorem d_X3_initial_48 : decode b_X3_initial 48 = .ok (.bipush 27, 2) := by decide +kernel
theorem d_X3_initial_50 : decode b_X3_initial 50 = .ok (.if_icmp .ne 7, 3) := by decide +kernel
theorem d_X3_initial_53 : decode b_X3_initial 53 = .ok (.iconst 1, 1) := by decide +kernel
theorem d_X3_initial_54 : decode b_X3_initial 54 = .ok (.goto 4, 3) := by decide +kernel
theorem d_X3_initial_57 : decode b_X3_initial 57 = .ok (.iconst 0, 1) := by decide +kernel
theorem d_X3_initial_58 : decode b_X3_initial 58 = .ok (.istore 5, 2) := by decide +kernel
theorem d_X3_initial_60 : decode b_X3_initial 60 = .ok (.iload 5, 2) := by decide +kernel
theorem d_X3_initial_62 : decode b_X3_initial 62 = .ok (.ifCond .eq 27, 3) := by decide +kernel
theorem d_X3_initial_65 : decode b_X3_initial 65 = .ok (.aload_n 0, 1) := by decide +kernel
theorem d_X3_initial_66 : decode b_X3_initial 66 = .ok (.getfield 21, 3) := by decide +kernel
theorem d_X3_initial_69 : decode b_X3_initial 69 = .ok (.iload_n 1, 1) := by decide +kernel
theorem d_X3_initial_70 : decode b_X3_initial 70 = .ok (.aload_n 0, 1) := by decide +kernel
theorem d_X3_initial_71 : decode b_X3_initial 71 = .ok (.getfield 30, 3) := by decide +kernel
theorem d_X3_initial_74 : decode b_X3_initial 74 = .ok (.getfield 122, 3) := by decide +kernel
theorem d_X3_initial_77 : decode b_X3_initial 77 = .ok (.aload_n 0, 1) := by decide +kernel
theorem d_X3_initial_78 : decode b_X3_initial 78 = .ok (.getfield 44, 3) := by decide +kernel
theorem d_X3_initial_81 : decode b_X3_initial 81 = .ok (.invokestatic 93, 3) := by decide +kernel
theorem d_X3_initial_84 : decode b_X3_initial 84 = .ok (.iconst 1, 1) := by decide +kernel
theorem d_X3_initial_85 : decode b_X3_initial 85 = .ok (.iadd, 1) := by decide +kernel
theorem d_X3_initial_86 : decode b_X3_initial 86 = .ok (.invokestatic 105, 3) := by decide +kernel
theorem d_X3_initial_89 : decode b_X3_initial 89 = .ok (.aload_n 0, 1) := by decide +kernel
theorem d_X3_initial_90 : decode b_X3_initial 90 = .ok (.getfield 53, 3) := by decide +kernel
theorem d_X3_initial_93 : decode b_X3_initial 93 = .ok (.bipush 22, 2) := by decide +kernel
theorem d_X3_initial_95 : decode b_X3_initial 95 = .ok (.if_icmp .ne 91, 3) := by decide +kernel
theorem d_X3_initial_98 : decode b_X3_initial 98 = .ok (.aload_n 0, 1) := by decide +kernel
theorem d_X3_initial_99 : decode b_X3_initial 99 = .ok (.invokevirtual 47, 3) := by decide +kernel
theorem d_X3_initial_102 : decode b_X3_initial 102 = .ok (.iconst 0, 1) := by decide +kernel
theorem d_X3_initial_103 : decode b_X3_initial 103 = .ok (.istore 6, 2) := by decide +kernel
theorem d_X3_initial_105 : decode b_X3_initial 105 = .ok (.iconst 1, 1) := by decide +kernel
theorem d_X3_initial_106 : decode b_X3_initial 106 = .ok (.istore 7, 2) := by decide +kernel
theorem d_X3_initial_108 : decode b_X3_initial 108 = .ok (.iload 6, 2) := by decide +kernel
theorem d_X3_initial_110 : decode b_X3_initial 110 = .ok (.aload_n 0, 1) := by decide +kernel
theorem d_X3_initial_111 : decode b_X3_initial 111 = .ok (.getfield 30, 3) := by decide +kernel
theorem d_X3_initial_114 : decode b_X3_initial 114 = .ok (.getfield 50, 3) := by decide +kernel
theorem d_X3_initial_117 : decode b_X3_initial 117 = .ok (.if_icmp .ge 40, 3) := by decide +kernel
theorem d_X3_initial_120 : decode b_X3_initial 120 = .ok (.iload 7, 2) := by decide +kernel
theorem d_X3_initial_122 : decode b_X3_initial 122 = .ok (.ifCond .eq 35, 3) := by decide +kernel
theorem d_X3_initial_125 : decode b_X3_initial 125 = .ok (.aload_n 0, 1) := by decide +kernel
theorem d_X3_initial_126 : decode b_X3_initial 126 = .ok (.iconst 1, 1) := by decide +kernel
theorem d_X3_initial_127 : decode b_X3_initial 127 = .ok (.invokevirtual 119, 3) := by decide +kernel
theorem d_X3_initial_130 : decode b_X3_initial 130 = .ok (.aload_n 0, 1) := by decide +kernel
theorem d_X3_initial_131 : decode b_X3_initial 131 = .ok (.bipush 44, 2) := by decide +kernel
theorem d_X3_initial_133 : decode b_X3_initial 133 = .ok (.aload_n 0, 1) := by decide +kernel
theorem d_X3_initial_134 : decode b_X3_initial 134 = .ok (.getfield 44, 3) := by decide +kernel
theorem d_X3_initial_137 : decode b_X3_initial 137 = .ok (.iconst 0, 1) := by decide +kernel
theorem d_X3_initial_138 : decode b_X3_initial 138 = .ok (.iconst 0, 1) := by decide +kernel
theorem d_X3_initial_139 : decode b_X3_initial 139 = .ok (.invokevirtual 75, 3) := by decide +kernel
theorem d_X3_initial_142 : decode b_X3_initial 142 = .ok (.pop, 1) := by decide +kernel
theorem d_X3_initial_143 : decode b_X3_initial 143 = .ok (.aload_n 0, 1) := by decide +kernel
theorem d_X3_initial_144 : decode b_X3_initial 144 = .ok (.bipush 26, 2) := by decide +kernel
theorem d_X3_initial_146 : decode b_X3_initial 146 = .ok (.invokevirtual 101, 3) := by decide +kernel
theorem d_X3_initial_149 : decode b_X3_initial 149 = .ok (.istore 7, 2) := by decide +kernel
theorem d_X3_initial_151 : decode b_X3_initial 151 = .ok (.iinc 6 1, 3) := by decide +kernel
theorem d_X3_initial_154 : decode b_X3_initial 154 = .ok (.goto (-46), 3) := by decide +kernel
theorem d_X3_initial_157 : decode b_X3_initial 157 = .ok (.aload_n 0, 1) := by decide +kernel
theorem d_X3_initial_158 : decode b_X3_initial 158 = .ok (.bipush 23, 2) := by decide +kernel
theorem d_X3_initial_160 : decode b_X3_initial 160 = .ok (.invokevirtual 56, 3) := by decide +kernel
theorem d_X3_initial_163 : decode b_X3_initial 163 = .ok (.aload_n 0, 1) := by decide +kernel
theorem d_X3_initial_164 : decode b_X3_initial 164 = .ok (.getfield 21, 3) := by decide +kernel
theorem d_X3_initial_167 : decode b_X3_initial 167 = .ok (.iload_n 1, 1) := by decide +kernel
theorem d_X3_initial_168 : decode b_X3_initial 168 = .ok (.iload 6, 2) := by decide +kernel
theorem d_X3_initial_170 : decode b_X3_initial 170 = .ok (.invokestatic 105, 3) := by decide +kernel
theorem d_X3_initial_173 : decode b_X3_initial 173 = .ok (.aload_n 0, 1) := by decide +kernel
theorem d_X3_initial_174 : decode b_X3_initial 174 = .ok (.bipush 46, 2) := by decide +kernel
theorem d_X3_initial_176 : decode b_X3_initial 176 = .ok (.iload_n 3, 1) := by decide +kernel
theorem d_X3_initial_177 : decode b_X3_initial 177 = .ok (.iconst 1, 1) := by decide +kernel
theorem d_X3_initial_178 : decode b_X3_initial 178 = .ok (.iconst 0, 1) := by decide +kernel
theorem d_X3_initial_179 : decode b_X3_initial 179 = .ok (.invokevirtual 75, 3) := by decide +kernel
theorem d_X3_initial_182 : decode b_X3_initial 182 = .ok (.pop, 1) := by decide +kernel
theorem d_X3_initial_183 : decode b_X3_initial 183 = .ok (.goto 57, 3) := by decide +kernel
theorem d_X3_initial_186 : decode b_X3_initial 186 = .ok (.iload 5, 2) := by decide +kernel
theorem d_X3_initial_188 : decode b_X3_initial 188 = .ok (.ifCond .eq 37, 3) := by decide +kernel
theorem d_X3_initial_191 : decode b_X3_initial 191 = .ok (.iload_n 2, 1) := by decide +kernel
theorem d_X3_initial_192 : decode b_X3_initial 192 = .ok (.ifCond .ne 33, 3) := by decide +kernel
theorem d_X3_initial_195 : decode b_X3_initial 195 = .ok (.aload_n 0, 1) := by decide +kernel
theorem d_X3_initial_196 : decode b_X3_initial 196 = .ok (.bipush 45, 2) := by decide +kernel
theorem d_X3_initial_198 : decode b_X3_initial 198 = .ok (.aload_n 0, 1) := by decide +kernel
theorem d_X3_initial_199 : decode b_X3_initial 199 = .ok (.getfield 44, 3) := by decide +kernel
theorem d_X3_initial_202 : decode b_X3_initial 202 = .ok (.iconst 0, 1) := by decide +kernel
theorem d_X3_initial_203 : decode b_X3_initial 203 = .ok (.iconst 0, 1) := by decide +kernel
theorem d_X3_initial_204 : decode b_X3_initial 204 = .ok (.invokevirtual 75, 3) := by decide +kernel
theorem d_X3_initial_207 : decode b_X3_initial 207 = .ok (.pop, 1) := by decide +kernel
theorem d_X3_initial_208 : decode b_X3_initial 208 = .ok (.aload_n 0, 1) := by decide +kernel
theorem d_X3_initial_209 : decode b_X3_initial 209 = .ok (.invokevirtual 47, 3) := by decide +kernel
theorem d_X3_initial_212 : decode b_X3_initial 212 = .ok (.aload_n 0, 1) := by decide +kernel
theorem d_X3_initial_213 : decode b_X3_initial 213 = .ok (.bipush 46, 2) := by decide +kernel
theorem d_X3_initial_215 : decode b_X3_initial 215 = .ok (.iload_n 3, 1) := by decide +kernel
theorem d_X3_initial_216 : decode b_X3_initial 216 = .ok (.iconst 2, 1) := by decide +kernel
theorem d_X3_initial_217 : decode b_X3_initial 217 = .ok (.iconst 0, 1) := by decide +kernel
theorem d_X3_initial_218 : decode b_X3_initial 218 = .ok (.invokevirtual 75, 3) := by decide +kernel
theorem d_X3_initial_221 : decode b_X3_initial 221 = .ok (.pop, 1) := by decide +kernel
theorem d_X3_initial_222 : decode b_X3_initial 222 = .ok (.goto 18, 3) := by decide +kernel
theorem d_X3_initial_225 : decode b_X3_initial 225 = .ok (.aload_n 0, 1) := by decide +kernel
theorem d_X3_initial_226 : decode b_X3_initial 226 = .ok (.iconst 1, 1) := by decide +kernel
theorem d_X3_initial_227 : decode b_X3_initial 227 = .ok (.invokevirtual 119, 3) := by decide +kernel
theorem d_X3_initial_230 : decode b_X3_initial 230 = .ok (.aload_n 0, 1) := by decide +kernel
theorem d_X3_initial_231 : decode b_X3_initial 231 = .ok (.bipush 46, 2) := by decide +kernel
theorem d_X3_initial_233 : decode b_X3_initial 233 = .ok (.iload_n 3, 1) := by decide +kernel
theorem d_X3_initial_234 : decode b_X3_initial 234 = .ok (.iconst 0, 1) := by decide +kernel
theorem d_X3_initial_235 : decode b_X3_initial 235 = .ok (.iconst 0, 1) := by decide +kernel
theorem d_X3_initial_236 : decode b_X3_initial 236 = .ok (.invokevirtual 75, 3) := by decide +kernel
theorem d_X3_initial_239 : decode b_X3_initial 239 = .ok (.pop, 1) := by decide +kernel
theorem d_X3_initial_240 : decode b_X3_initial 240 = .ok (.return_, 1) := by decide +kernel
theorem d_X3_head_0 : decode b_X3_head 0 = .ok (.aload_n 0, 1) := by decide +kernel
theorem d_X3_head_1 : decode b_X3_head 1 = .ok (.bipush 20, 2) := by decide +kernel
theorem d_X3_head_3 : decode b_X3_head 3 = .ok (.invokevirtual 56, 3) := by decide +kernel
theorem d_X3_head_6 : decode b_X3_head 6 = .ok (.iconst 0, 1) := by decide +kernel
theorem d_X3_head_7 : decode b_X3_head 7 = .ok (.istore 4, 2) := by decide +kernel
theorem d_X3_head_9 : decode b_X3_head 9 = .ok (.aload_n 0, 1) := by decide +kernel
theorem d_X3_head_10 : decode b_X3_head 10 = .ok (.getfield 53, 3) := by decide +kernel
theorem d_X3_head_13 : decode b_X3_head 13 = .ok (.bipush 6, 2) := by decide +kernel
theorem d_X3_head_15 : decode b_X3_head 15 = .ok (.if_icmp .ne 10, 3) := by decide +kernel
theorem d_X3_head_18 : decode b_X3_head 18 = .ok (.aload_n 0, 1) := by decide +kernel
theorem d_X3_head_19 : decode b_X3_head 19 = .ok (.invokevirtual 47, 3) := by decide +kernel
theorem d_X3_head_22 : decode b_X3_head 22 = .ok (.goto 18, 3) := by decide +kernel
theorem d_X3_head_25 : decode b_X3_head 25 = .ok (.aload_n 0, 1) := by decide +kernel
theorem d_X3_head_26 : decode b_X3_head 26 = .ok (.getfield 53, 3) := by decide +kernel
theorem d_X3_head_29 : decode b_X3_head 29 = .ok (.bipush 21, 2) := by decide +kernel
theorem d_X3_head_31 : decode b_X3_head 31 = .ok (.if_icmp .eq 9, 3) := by decide +kernel
theorem d_X3_head_34 : decode b_X3_head 34 = .ok (.aload_n 0, 1) := by decide +kernel
theorem d_X3_head_35 : decode b_X3_head 35 = .ok (.invokevirtual 85, 3) := by decide +kernel
theorem d_X3_head_38 : decode b_X3_head 38 = .ok (.istore 4, 2) := by decide +kernel
theorem d_X3_head_40 : decode b_X3_head 40 = .ok (.aload_n 0, 1) := by decide +kernel
theorem d_X3_head_41 : decode b_X3_head 41 = .ok (.bipush 21, 2) := by decide +kernel
theorem d_X3_head_43 : decode b_X3_head 43 = .ok (.invokevirtual 56, 3) := by decide +kernel
theorem d_X3_head_46 : decode b_X3_head 46 = .ok (.aload_n 0, 1) := by decide +kernel
theorem d_X3_head_47 : decode b_X3_head 47 = .ok (.getfield 53, 3) := by decide +kernel
theorem d_X3_head_50 : decode b_X3_head 50 = .ok (.bipush 22, 2) := by decide +kernel
theorem d_X3_head_52 : decode b_X3_head 52 = .ok (.if_icmp .ne 7, 3) := by decide +kernel
theorem d_X3_head_55 : decode b_X3_head 55 = .ok (.iconst 1, 1) := by decide +kernel
theorem d_X3_head_56 : decode b_X3_head 56 = .ok (.goto 4, 3) := by decide +kernel
theorem d_X3_head_59 : decode b_X3_head 59 = .ok (.iconst 0, 1) := by decide +kernel
theorem d_X3_head_60 : decode b_X3_head 60 = .ok (.istore 5, 2) := by decide +kernel
theorem d_X3_head_62 : decode b_X3_head 62 = .ok (.aload_n 0, 1) := by decide +kernel
theorem d_X3_head_63 : decode b_X3_head 63 = .ok (.bipush 47, 2) := by decide +kernel
theorem d_X3_head_65 : decode b_X3_head 65 = .ok (.iload_n 1, 1) := by decide +kernel
theorem d_X3_head_66 : decode b_X3_head 66 = .ok (.iload 4, 2) := by decide +kernel
theorem d_X3_head_68 : decode b_X3_head 68 = .ok (.iload_n 2, 1) := by decide +kernel
theorem d_X3_head_69 : decode b_X3_head 69 = .ok (.iconst 1, 1) := by decide +kernel
theorem d_X3_head_70 : decode b_X3_head 70 = .ok (.iadd, 1) := by decide +kernel
theorem d_X3_head_71 : decode b_X3_head 71 = .ok (.bipush 8, 2) := by decide +kernel
theorem d_X3_head_73 : decode b_X3_head 73 = .ok (.imul, 1) := by decide +kernel
theorem d_X3_head_74 : decode b_X3_head 74 = .ok (.iload_n 3, 1) := by decide +kernel
theorem d_X3_head_75 : decode b_X3_head 75 = .ok (.iadd, 1) := by decide +kernel
theorem d_X3_head_76 : decode b_X3_head 76 = .ok (.iload 5, 2) := by decide +kernel
theorem d_X3_head_78 : decode b_X3_head 78 = .ok (.ifCond .eq 7, 3) := by decide +kernel
theorem d_X3_head_81 : decode b_X3_head 81 = .ok (.iconst 4, 1) := by decide +kernel
theorem d_X3_head_82 : decode b_X3_head 82 = .ok (.goto 4, 3) := by decide +kernel
theorem d_X3_head_85 : decode b_X3_head 85 = .ok (.iconst 0, 1) := by decide +kernel
theorem d_X3_head_86 : decode b_X3_head 86 = .ok (.iadd, 1) := by decide +kernel
theorem d_X3_head_87 : decode b_X3_head 87 = .ok (.invokevirtual 75, 3) := by decide +kernel
theorem d_X3_head_90 : decode b_X3_head 90 = .ok (.pop, 1) := by decide +kernel
theorem d_X3_head_91 : decode b_X3_head 91 = .ok (.iload 5, 2) := by decide +kernel
theorem d_X3_head_93 : decode b_X3_head 93 = .ok (.ifCond .ne 9, 3) := by decide +kernel
theorem d_X3_head_96 : decode b_X3_head 96 = .ok (.aload_n 0, 1) := by decide +kernel
theorem d_X3_head_97 : decode b_X3_head 97 = .ok (.bipush 27, 2) := by decide +kernel
theorem d_X3_head_99 : decode b_X3_head 99 = .ok (.invokevirtual 56, 3) := by decide +kernel
theorem d_X3_head_102 : decode b_X3_head 102 = .ok (.iconst 0, 1) := by decide +kernel
theorem d_X3_head_103 : decode b_X3_head 103 = .ok (.istore 6, 2) := by decide +kernel
theorem d_X3_head_105 : decode b_X3_head 105 = .ok (.iload 6, 2) := by decide +kernel
theorem d_X3_head_107 : decode b_X3_head 107 = .ok (.iload 4, 2) := by decide +kernel
theorem d_X3_head_109 : decode b_X3_head 109 = .ok (.invokestatic 88, 3) := by decide +kernel
theorem d_X3_head_112 : decode b_X3_head 112 = .ok (.if_icmp .ge 38, 3) := by decide +kernel
theorem d_X3_head_115 : decode b_X3_head 115 = .ok (.iload 5, 2) := by decide +kernel
theorem d_X3_head_117 : decode b_X3_head 117 = .ok (.ifCond .eq 33, 3) := by decide +kernel
theorem d_X3_head_120 : decode b_X3_head 120 = .ok (.aload_n 0, 1) := by decide +kernel
theorem d_X3_head_121 : decode b_X3_head 121 = .ok (.bipush 48, 2) := by decide +kernel
theorem d_X3_head_123 : decode b_X3_head 123 = .ok (.aload_n 0, 1) := by decide +kernel
theorem d_X3_head_124 : decode b_X3_head 124 = .ok (.getfield 27, 3) := by decide +kernel
theorem d_X3_head_127 : decode b_X3_head 127 = .ok (.iload 6, 2) := by decide +kernel
theorem d_X3_head_129 : decode b_X3_head 129 = .ok (.invokestatic 93, 3) := by decide +kernel
theorem d_X3_head_132 : decode b_X3_head 132 = .ok (.iload 4, 2) := by decide +kernel
theorem d_X3_head_134 : decode b_X3_head 134 = .ok (.iload 6, 2) := by decide +kernel
theorem d_X3_head_136 : decode b_X3_head 136 = .ok (.invokestatic 97, 3) := by decide +kernel
theorem d_X3_head_139 : decode b_X3_head 139 = .ok (.iconst 0, 1) := by decide +kernel
theorem d_X3_head_140 : decode b_X3_head 140 = .ok (.invokevirtual 75, 3) := by decide +kernel
theorem d_X3_head_143 : decode b_X3_head 143 = .ok (.pop, 1) := by decide +kernel
theorem d_X3_head_144 : decode b_X3_head 144 = .ok (.iinc 6 1, 3) := by decide +kernel
theorem d_X3_head_147 : decode b_X3_head 147 = .ok (.goto (-42), 3) := by decide +kernel
theorem d_X3_head_150 : decode b_X3_head 150 = .ok (.iload 5, 2) := by decide +kernel
theorem d_X3_head_152 : decode b_X3_head 152 = .ok (.ireturn, 1) := by decide +kernel
theorem d_X3_parameters_0 : decode b_X3_parameters 0 = .ok (.iconst 0, 1) := by decide +kernel
theorem d_X3_parameters_1 : decode b_X3_parameters 1 = .ok (.istore_n 1, 1) := by decide +kernel
theorem d_X3_parameters_2 : decode b_X3_parameters 2 = .ok (.iconst 0, 1) := by decide +kernel
theorem d_X3_parameters_3 : decode b_X3_parameters 3 = .ok (.istore_n 2, 1) := by decide +kernel
theorem d_X3_parameters_4 : decode b_X3_parameters 4 = .ok (.iconst 1, 1) := by decide +kernel
theorem d_X3_parameters_5 : decode b_X3_parameters 5 = .ok (.istore_n 3, 1) := by decide +kernel
theorem d_X3_parameters_6 : decode b_X3_parameters 6 = .ok (.iload_n 2, 1) := by decide +kernel
theorem d_X3_parameters_7 : decode b_X3_parameters 7 = .ok (.bipush 8, 2) := by decide +kernel
theorem d_X3_parameters_9 : decode b_X3_parameters 9 = .ok (.if_icmp .ge 91, 3) := by decide +kernel
theorem d_X3_parameters_12 : decode b_X3_parameters 12 = .ok (.iload_n 3, 1) := by decide +kernel
theorem d_X3_parameters_13 : decode b_X3_parameters 13 = .ok (.ifCond .eq 87, 3) := by decide +kernel
theorem d_X3_parameters_16 : decode b_X3_parameters 16 = .ok (.aload_n 0, 1) := by decide +kernel
theorem d_X3_parameters_17 : decode b_X3_parameters 17 = .ok (.iconst 5, 1) := by decide +kernel
theorem d_X3_parameters_18 : decode b_X3_parameters 18 = .ok (.invokevirtual 56, 3) := by decide +kernel
theorem d_X3_parameters_21 : decode b_X3_parameters 21 = .ok (.aload_n 0, 1) := by decide +kernel
theorem d_X3_parameters_22 : decode b_X3_parameters 22 = .ok (.invokevirtual 60, 3) := by decide +kernel
theorem d_X3_parameters_25 : decode b_X3_parameters 25 = .ok (.istore 4, 2) := by decide +kernel
theorem d_X3_parameters_27 : decode b_X3_parameters 27 = .ok (.aload_n 0, 1) := by decide +kernel
theorem d_X3_parameters_28 : decode b_X3_parameters 28 = .ok (.getfield 44, 3) := by decide +kernel
theorem d_X3_parameters_31 : decode b_X3_parameters 31 = .ok (.istore 5, 2) := by decide +kernel
theorem d_X3_parameters_33 : decode b_X3_parameters 33 = .ok (.aload_n 0, 1) := by decide +kernel
theorem d_X3_parameters_34 : decode b_X3_parameters 34 = .ok (.iconst 2, 1) := by decide +kernel
theorem d_X3_parameters_35 : decode b_X3_parameters 35 = .ok (.invokevirtual 101, 3) := by decide +kernel
theorem d_X3_parameters_38 : decode b_X3_parameters 38 = .ok (.istore 6, 2) := by decide +kernel
theorem d_X3_parameters_40 : decode b_X3_parameters 40 = .ok (.aload_n 0, 1) := by decide +kernel
theorem d_X3_parameters_41 : decode b_X3_parameters 41 = .ok (.bipush 24, 2) := by decide +kernel
theorem d_X3_parameters_43 : decode b_X3_parameters 43 = .ok (.invokevirtual 101, 3) := by decide +kernel
theorem d_X3_parameters_46 : decode b_X3_parameters 46 = .ok (.ifCond .eq 12, 3) := by decide +kernel
theorem d_X3_parameters_49 : decode b_X3_parameters 49 = .ok (.aload_n 0, 1) := by decide +kernel
theorem d_X3_parameters_50 : decode b_X3_parameters 50 = .ok (.bipush 25, 2) := by decide +kernel
theorem d_X3_parameters_52 : decode b_X3_parameters 52 = .ok (.invokevirtual 56, 3) := by decide +kernel
theorem d_X3_parameters_55 : decode b_X3_parameters 55 = .ok (.iinc 4 1, 3) := by decide +kernel
theorem d_X3_parameters_58 : decode b_X3_parameters 58 = .ok (.aload_n 0, 1) := by decide +kernel
theorem d_X3_parameters_59 : decode b_X3_parameters 59 = .ok (.getfield 27, 3) := by decide +kernel
theorem d_X3_parameters_62 : decode b_X3_parameters 62 = .ok (.iload_n 2, 1) := by decide +kernel
theorem d_X3_parameters_63 : decode b_X3_parameters 63 = .ok (.iload 6, 2) := by decide +kernel
theorem d_X3_parameters_65 : decode b_X3_parameters 65 = .ok (.ifCond .eq 8, 3) := by decide +kernel
theorem d_X3_parameters_68 : decode b_X3_parameters 68 = .ok (.iload 5, 2) := by decide +kernel
theorem d_X3_parameters_70 : decode b_X3_parameters 70 = .ok (.goto 7, 3) := by decide +kernel
theorem d_X3_parameters_73 : decode b_X3_parameters 73 = .ok (.aload_n 0, 1) := by decide +kernel
theorem d_X3_parameters_74 : decode b_X3_parameters 74 = .ok (.getfield 44, 3) := by decide +kernel
theorem d_X3_parameters_77 : decode b_X3_parameters 77 = .ok (.invokestatic 105, 3) := by decide +kernel
theorem d_X3_parameters_80 : decode b_X3_parameters 80 = .ok (.iload_n 1, 1) := by decide +kernel
theorem d_X3_parameters_81 : decode b_X3_parameters 81 = .ok (.iload 4, 2) := by decide +kernel
theorem d_X3_parameters_83 : decode b_X3_parameters 83 = .ok (.invokestatic 109, 3) := by decide +kernel
theorem d_X3_parameters_86 : decode b_X3_parameters 86 = .ok (.istore_n 1, 1) := by decide +kernel
theorem d_X3_parameters_87 : decode b_X3_parameters 87 = .ok (.aload_n 0, 1) := by decide +kernel
theorem d_X3_parameters_88 : decode b_X3_parameters 88 = .ok (.bipush 26, 2) := by decide +kernel
theorem d_X3_parameters_90 : decode b_X3_parameters 90 = .ok (.invokevirtual 101, 3) := by decide +kernel
theorem d_X3_parameters_93 : decode b_X3_parameters 93 = .ok (.istore_n 3, 1) := by decide +kernel
theorem d_X3_parameters_94 : decode b_X3_parameters 94 = .ok (.iinc 2 1, 3) := by decide +kernel
theorem d_X3_parameters_97 : decode b_X3_parameters 97 = .ok (.goto (-91), 3) := by decide +kernel
theorem d_X3_parameters_100 : decode b_X3_parameters 100 = .ok (.iload_n 3, 1) := by decide +kernel
theorem d_X3_parameters_101 : decode b_X3_parameters 101 = .ok (.ifCond .eq 7, 3) := by decide +kernel
theorem d_X3_parameters_104 : decode b_X3_parameters 104 = .ok (.aload_n 0, 1) := by decide +kernel
theorem d_X3_parameters_105 : decode b_X3_parameters 105 = .ok (.invokevirtual 82, 3) := by decide +kernel
theorem d_X3_parameters_108 : decode b_X3_parameters 108 = .ok (.iload_n 1, 1) := by decide +kernel
theorem d_X3_parameters_109 : decode b_X3_parameters 109 = .ok (.ireturn, 1) := by decide +kernel
theorem d_X8_withParameter_0 : decode b_X8_withParameter 0 = .ok (.iload_n 0, 1) := by decide +kernel
theorem d_X8_withParameter_1 : decode b_X8_withParameter 1 = .ok (.ldc 83, 2) := by decide +kernel
theorem d_X8_withParameter_3 : decode b_X8_withParameter 3 = .ok (.iadd, 1) := by decide +kernel
theorem d_X8_withParameter_4 : decode b_X8_withParameter 4 = .ok (.iload_n 1, 1) := by decide +kernel
theorem d_X8_withParameter_5 : decode b_X8_withParameter 5 = .ok (.iconst 3, 1) := by decide +kernel
theorem d_X8_withParameter_6 : decode b_X8_withParameter 6 = .ok (.iload_n 0, 1) := by decide +kernel
theorem d_X8_withParameter_7 : decode b_X8_withParameter 7 = .ok (.invokestatic 84, 3) := by decide +kernel
theorem d_X8_withParameter_10 : decode b_X8_withParameter 10 = .ok (.imul, 1) := by decide +kernel
theorem d_X8_withParameter_11 : decode b_X8_withParameter 11 = .ok (.ishl, 1) := by decide +kernel
theorem d_X8_withParameter_12 : decode b_X8_withParameter 12 = .ok (.ior, 1) := by decide +kernel
theorem d_X8_withParameter_13 : decode b_X8_withParameter 13 = .ok (.ireturn, 1) := by decide +kernel
theorem d_X8_parameters_0 : decode b_X8_parameters 0 = .ok (.iload_n 0, 1) := by decide +kernel
theorem d_X8_parameters_1 : decode b_X8_parameters 1 = .ok (.bipush 24, 2) := by decide +kernel
theorem d_X8_parameters_3 : decode b_X8_parameters 3 = .ok (.iushr, 1) := by decide +kernel
theorem d_X8_parameters_4 : decode b_X8_parameters 4 = .ok (.ireturn, 1) := by decide +kernel
theorem d_X8_parameter_0 : decode b_X8_parameter 0 = .ok (.iload_n 0, 1) := by decide +kernel
theorem d_X8_parameter_1 : decode b_X8_parameter 1 = .ok (.iconst 3, 1) := by decide +kernel
theorem d_X8_parameter_2 : decode b_X8_parameter 2 = .ok (.iload_n 1, 1) := by decide +kernel
theorem d_X8_parameter_3 : decode b_X8_parameter 3 = .ok (.imul, 1) := by decide +kernel
theorem d_X8_parameter_4 : decode b_X8_parameter 4 = .ok (.iushr, 1) := by decide +kernel
theorem d_X8_parameter_5 : decode b_X8_parameter 5 = .ok (.bipush 7, 2) := by decide +kernel
theorem d_X8_parameter_7 : decode b_X8_parameter 7 = .ok (.iand, 1) := by decide +kernel
theorem d_X8_parameter_8 : decode b_X8_parameter 8 = .ok (.ireturn, 1) := by decide +kernel
theorem d_X3_statements_0 : decode b_X3_statements 0 = .ok (.aload_n 0, 1) := by decide +kernel
theorem d_X3_statements_1 : decode b_X3_statements 1 = .ok (.bipush 22, 2) := by decide +kernel
theorem d_X3_statements_3 : decode b_X3_statements 3 = .ok (.invokevirtual 56, 3) := by decide +kernel
theorem d_X3_statements_6 : decode b_X3_statements 6 = .ok (.aload_n 0, 1) := by decide +kernel
theorem d_X3_statements_7 : decode b_X3_statements 7 = .ok (.getfield 30, 3) := by decide +kernel
theorem d_X3_statements_10 : decode b_X3_statements 10 = .ok (.getfield 50, 3) := by decide +kernel
theorem d_X3_statements_13 : decode b_X3_statements 13 = .ok (.istore_n 2, 1) := by decide +kernel
theorem d_X3_statements_14 : decode b_X3_statements 14 = .ok (.iload_n 2, 1) := by decide +kernel
theorem d_X3_statements_15 : decode b_X3_statements 15 = .ok (.ifCond .le 30, 3) := by decide +kernel
theorem d_X3_statements_18 : decode b_X3_statements 18 = .ok (.aload_n 0, 1) := by decide +kernel
theorem d_X3_statements_19 : decode b_X3_statements 19 = .ok (.getfield 41, 3) := by decide +kernel
theorem d_X3_statements_22 : decode b_X3_statements 22 = .ok (.ifCond .ge 23, 3) := by decide +kernel
theorem d_X3_statements_25 : decode b_X3_statements 25 = .ok (.aload_n 0, 1) := by decide +kernel
theorem d_X3_statements_26 : decode b_X3_statements 26 = .ok (.getfield 53, 3) := by decide +kernel
theorem d_X3_statements_29 : decode b_X3_statements 29 = .ok (.bipush 23, 2) := by decide +kernel
theorem d_X3_statements_31 : decode b_X3_statements 31 = .ok (.if_icmp .eq 14, 3) := by decide +kernel
theorem d_X3_statements_34 : decode b_X3_statements 34 = .ok (.aload_n 0, 1) := by decide +kernel
theorem d_X3_statements_35 : decode b_X3_statements 35 = .ok (.iload_n 1, 1) := by decide +kernel
theorem d_X3_statements_36 : decode b_X3_statements 36 = .ok (.invokevirtual 125, 3) := by decide +kernel
theorem d_X3_statements_39 : decode b_X3_statements 39 = .ok (.iinc 2 (-1), 3) := by decide +kernel
theorem d_X3_statements_42 : decode b_X3_statements 42 = .ok (.goto (-28), 3) := by decide +kernel
theorem d_X3_statements_45 : decode b_X3_statements 45 = .ok (.aload_n 0, 1) := by decide +kernel
theorem d_X3_statements_46 : decode b_X3_statements 46 = .ok (.bipush 23, 2) := by decide +kernel
theorem d_X3_statements_48 : decode b_X3_statements 48 = .ok (.invokevirtual 56, 3) := by decide +kernel
theorem d_X3_statements_51 : decode b_X3_statements 51 = .ok (.return_, 1) := by decide +kernel
theorem d_X3_statement_0 : decode b_X3_statement 0 = .ok (.iload_n 1, 1) := by decide +kernel
theorem d_X3_statement_1 : decode b_X3_statement 1 = .ok (.bipush 25, 2) := by decide +kernel
theorem d_X3_statement_3 : decode b_X3_statement 3 = .ok (.if_icmp .le 8, 3) := by decide +kernel
theorem d_X3_statement_6 : decode b_X3_statement 6 = .ok (.aload_n 0, 1) := by decide +kernel
theorem d_X3_statement_7 : decode b_X3_statement 7 = .ok (.invokevirtual 82, 3) := by decide +kernel
theorem d_X3_statement_10 : decode b_X3_statement 10 = .ok (.return_, 1) := by decide +kernel
theorem d_X3_statement_11 : decode b_X3_statement 11 = .ok (.aload_n 0, 1) := by decide +kernel
theorem d_X3_statement_12 : decode b_X3_statement 12 = .ok (.getfield 44, 3) := by decide +kernel
theorem d_X3_statement_15 : decode b_X3_statement 15 = .ok (.istore_n 2, 1) := by decide +kernel
theorem d_X3_statement_16 : decode b_X3_statement 16 = .ok (.aload_n 0, 1) := by decide +kernel
theorem d_X3_statement_17 : decode b_X3_statement 17 = .ok (.getfield 53, 3) := by decide +kernel
theorem d_X3_statement_20 : decode b_X3_statement 20 = .ok (.tableswitch 192 5 27 #[145, 192, 192, 192, 176, 192, 184, 184, 184, 192, 192, 192, 192, 192, 192, 192, 192, 108, 192, 192, 192, 192, 138], 108) := by decide +kernel
theorem d_X3_statement_128 : decode b_X3_statement 128 = .ok (.aload_n 0, 1) := by decide +kernel
theorem d_X3_statement_129 : decode b_X3_statement 129 = .ok (.bipush 20, 2) := by decide +kernel
theorem d_X3_statement_131 : decode b_X3_statement 131 = .ok (.iload_n 2, 1) := by decide +kernel
theorem d_X3_statement_132 : decode b_X3_statement 132 = .ok (.iconst 0, 1) := by decide +kernel
theorem d_X3_statement_133 : decode b_X3_statement 133 = .ok (.iconst 0, 1) := by decide +kernel
theorem d_X3_statement_134 : decode b_X3_statement 134 = .ok (.invokevirtual 75, 3) := by decide +kernel
theorem d_X3_statement_137 : decode b_X3_statement 137 = .ok (.pop, 1) := by decide +kernel
theorem d_X3_statement_138 : decode b_X3_statement 138 = .ok (.aload_n 0, 1) := by decide +kernel
theorem d_X3_statement_139 : decode b_X3_statement 139 = .ok (.iload_n 1, 1) := by decide +kernel
theorem d_X3_statement_140 : decode b_X3_statement 140 = .ok (.iconst 1, 1) := by decide +kernel
theorem d_X3_statement_141 : decode b_X3_statement 141 = .ok (.iadd, 1) := by decide +kernel
theorem d_X3_statement_142 : decode b_X3_statement 142 = .ok (.invokevirtual 72, 3) := by decide +kernel
theorem d_X3_statement_145 : decode b_X3_statement 145 = .ok (.aload_n 0, 1) := by decide +kernel
theorem d_X3_statement_146 : decode b_X3_statement 146 = .ok (.bipush 21, 2) := by decide +kernel
theorem d_X3_statement_148 : decode b_X3_statement 148 = .ok (.iload_n 2, 1) := by decide +kernel
theorem d_X3_statement_149 : decode b_X3_statement 149 = .ok (.iconst 0, 1) := by decide +kernel
theorem d_X3_statement_150 : decode b_X3_statement 150 = .ok (.iconst 0, 1) := by decide +kernel
theorem d_X3_statement_151 : decode b_X3_statement 151 = .ok (.invokevirtual 75, 3) := by decide +kernel
theorem d_X3_statement_154 : decode b_X3_statement 154 = .ok (.pop, 1) := by decide +kernel
theorem d_X3_statement_155 : decode b_X3_statement 155 = .ok (.goto 61, 3) := by decide +kernel
theorem d_X3_statement_158 : decode b_X3_statement 158 = .ok (.aload_n 0, 1) := by decide +kernel
theorem d_X3_statement_159 : decode b_X3_statement 159 = .ok (.invokevirtual 47, 3) := by decide +kernel
theorem d_X3_statement_162 : decode b_X3_statement 162 = .ok (.goto 54, 3) := by decide +kernel
theorem d_X3_statement_165 : decode b_X3_statement 165 = .ok (.aload_n 0, 1) := by decide +kernel
theorem d_X3_statement_166 : decode b_X3_statement 166 = .ok (.invokevirtual 47, 3) := by decide +kernel
theorem d_X3_statement_169 : decode b_X3_statement 169 = .ok (.aload_n 0, 1) := by decide +kernel
theorem d_X3_statement_170 : decode b_X3_statement 170 = .ok (.invokevirtual 60, 3) := by decide +kernel
theorem d_X3_statement_173 : decode b_X3_statement 173 = .ok (.istore_n 3, 1) := by decide +kernel
theorem d_X3_statement_174 : decode b_X3_statement 174 = .ok (.aload_n 0, 1) := by decide +kernel
theorem d_X3_statement_175 : decode b_X3_statement 175 = .ok (.getfield 44, 3) := by decide +kernel
theorem d_X3_statement_178 : decode b_X3_statement 178 = .ok (.istore 4, 2) := by decide +kernel
theorem d_X3_statement_180 : decode b_X3_statement 180 = .ok (.aload_n 0, 1) := by decide +kernel
theorem d_X3_statement_181 : decode b_X3_statement 181 = .ok (.iconst 2, 1) := by decide +kernel
theorem d_X3_statement_182 : decode b_X3_statement 182 = .ok (.invokevirtual 56, 3) := by decide +kernel
theorem d_X3_statement_185 : decode b_X3_statement 185 = .ok (.aload_n 0, 1) := by decide +kernel
theorem d_X3_statement_186 : decode b_X3_statement 186 = .ok (.iload 4, 2) := by decide +kernel
theorem d_X3_statement_188 : decode b_X3_statement 188 = .ok (.iload_n 3, 1) := by decide +kernel
theorem d_X3_statement_189 : decode b_X3_statement 189 = .ok (.iconst 0, 1) := by decide +kernel
theorem d_X3_statement_190 : decode b_X3_statement 190 = .ok (.invokevirtual 64, 3) := by decide +kernel
theorem d_X3_statement_193 : decode b_X3_statement 193 = .ok (.goto 23, 3) := by decide +kernel
theorem d_X3_statement_196 : decode b_X3_statement 196 = .ok (.aload_n 0, 1) := by decide +kernel
theorem d_X3_statement_197 : decode b_X3_statement 197 = .ok (.iload_n 1, 1) := by decide +kernel
theorem d_X3_statement_198 : decode b_X3_statement 198 = .ok (.invokevirtual 128, 3) := by decide +kernel
theorem d_X3_statement_201 : decode b_X3_statement 201 = .ok (.goto 15, 3) := by decide +kernel
theorem d_X3_statement_204 : decode b_X3_statement 204 = .ok (.aload_n 0, 1) := by decide +kernel
theorem d_X3_statement_205 : decode b_X3_statement 205 = .ok (.iload_n 1, 1) := by decide +kernel
theorem d_X3_statement_206 : decode b_X3_statement 206 = .ok (.invokevirtual 131, 3) := by decide +kernel
theorem d_X3_statement_209 : decode b_X3_statement 209 = .ok (.goto 7, 3) := by decide +kernel
theorem d_X3_statement_212 : decode b_X3_statement 212 = .ok (.aload_n 0, 1) := by decide +kernel
theorem d_X3_statement_213 : decode b_X3_statement 213 = .ok (.invokevirtual 134, 3) := by decide +kernel
theorem d_X3_statement_216 : decode b_X3_statement 216 = .ok (.return_, 1) := by decide +kernel
theorem d_X3_conditional_0 : decode b_X3_conditional 0 = .ok (.aload_n 0, 1) := by decide +kernel
theorem d_X3_conditional_1 : decode b_X3_conditional 1 = .ok (.getfield 44, 3) := by decide +kernel
theorem d_X3_conditional_4 : decode b_X3_conditional 4 = .ok (.istore_n 2, 1) := by decide +kernel
theorem d_X3_conditional_5 : decode b_X3_conditional 5 = .ok (.aload_n 0, 1) := by decide +kernel
theorem d_X3_conditional_6 : decode b_X3_conditional 6 = .ok (.invokevirtual 47, 3) := by decide +kernel
theorem d_X3_conditional_9 : decode b_X3_conditional 9 = .ok (.aload_n 0, 1) := by decide +kernel
theorem d_X3_conditional_10 : decode b_X3_conditional 10 = .ok (.bipush 23, 2) := by decide +kernel
theorem d_X3_conditional_12 : decode b_X3_conditional 12 = .ok (.iload_n 2, 1) := by decide +kernel
theorem d_X3_conditional_13 : decode b_X3_conditional 13 = .ok (.invokevirtual 137, 3) := by decide +kernel
theorem d_X3_conditional_16 : decode b_X3_conditional 16 = .ok (.aload_n 0, 1) := by decide +kernel
theorem d_X3_conditional_17 : decode b_X3_conditional 17 = .ok (.iload_n 1, 1) := by decide +kernel
theorem d_X3_conditional_18 : decode b_X3_conditional 18 = .ok (.invokevirtual 140, 3) := by decide +kernel
theorem d_X3_conditional_21 : decode b_X3_conditional 21 = .ok (.aload_n 0, 1) := by decide +kernel
theorem d_X3_conditional_22 : decode b_X3_conditional 22 = .ok (.getfield 53, 3) := by decide +kernel
theorem d_X3_conditional_25 : decode b_X3_conditional 25 = .ok (.bipush 10, 2) := by decide +kernel
theorem d_X3_conditional_27 : decode b_X3_conditional 27 = .ok (.if_icmp .ne 22, 3) := by decide +kernel
theorem d_X3_conditional_30 : decode b_X3_conditional 30 = .ok (.aload_n 0, 1) := by decide +kernel
theorem d_X3_conditional_31 : decode b_X3_conditional 31 = .ok (.bipush 24, 2) := by decide +kernel
theorem d_X3_conditional_33 : decode b_X3_conditional 33 = .ok (.iload_n 2, 1) := by decide +kernel
theorem d_X3_conditional_34 : decode b_X3_conditional 34 = .ok (.iconst 0, 1) := by decide +kernel
theorem d_X3_conditional_35 : decode b_X3_conditional 35 = .ok (.iconst 0, 1) := by decide +kernel
theorem d_X3_conditional_36 : decode b_X3_conditional 36 = .ok (.invokevirtual 75, 3) := by decide +kernel
theorem d_X3_conditional_39 : decode b_X3_conditional 39 = .ok (.pop, 1) := by decide +kernel
theorem d_X3_conditional_40 : decode b_X3_conditional 40 = .ok (.aload_n 0, 1) := by decide +kernel
theorem d_X3_conditional_41 : decode b_X3_conditional 41 = .ok (.invokevirtual 47, 3) := by decide +kernel
theorem d_X3_conditional_44 : decode b_X3_conditional 44 = .ok (.aload_n 0, 1) := by decide +kernel
theorem d_X3_conditional_45 : decode b_X3_conditional 45 = .ok (.iload_n 1, 1) := by decide +kernel
theorem d_X3_conditional_46 : decode b_X3_conditional 46 = .ok (.invokevirtual 140, 3) := by decide +kernel
theorem d_X3_conditional_49 : decode b_X3_conditional 49 = .ok (.aload_n 0, 1) := by decide +kernel
theorem d_X3_conditional_50 : decode b_X3_conditional 50 = .ok (.bipush 25, 2) := by decide +kernel
theorem d_X3_conditional_52 : decode b_X3_conditional 52 = .ok (.iload_n 2, 1) := by decide +kernel
theorem d_X3_conditional_53 : decode b_X3_conditional 53 = .ok (.iconst 0, 1) := by decide +kernel
theorem d_X3_conditional_54 : decode b_X3_conditional 54 = .ok (.iconst 0, 1) := by decide +kernel
theorem d_X3_conditional_55 : decode b_X3_conditional 55 = .ok (.invokevirtual 75, 3) := by decide +kernel
theorem d_X3_conditional_58 : decode b_X3_conditional 58 = .ok (.pop, 1) := by decide +kernel
theorem d_X3_conditional_59 : decode b_X3_conditional 59 = .ok (.return_, 1) := by decide +kernel
theorem d_X3_condition_0 : decode b_X3_condition 0 = .ok (.aload_n 0, 1) := by decide +kernel
theorem d_X3_condition_1 : decode b_X3_condition 1 = .ok (.bipush 20, 2) := by decide +kernel
theorem d_X3_condition_3 : decode b_X3_condition 3 = .ok (.invokevirtual 56, 3) := by decide +kernel
theorem d_X3_condition_6 : decode b_X3_condition 6 = .ok (.aload_n 0, 1) := by decide +kernel
theorem d_X3_condition_7 : decode b_X3_condition 7 = .ok (.iconst 1, 1) := by decide +kernel
theorem d_X3_condition_8 : decode b_X3_condition 8 = .ok (.invokevirtual 119, 3) := by decide +kernel
theorem d_X3_condition_11 : decode b_X3_condition 11 = .ok (.aload_n 0, 1) := by decide +kernel
theorem d_X3_condition_12 : decode b_X3_condition 12 = .ok (.bipush 21, 2) := by decide +kernel
theorem d_X3_condition_14 : decode b_X3_condition 14 = .ok (.invokevirtual 56, 3) := by decide +kernel
theorem d_X3_condition_17 : decode b_X3_condition 17 = .ok (.aload_n 0, 1) := by decide +kernel
theorem d_X3_condition_18 : decode b_X3_condition 18 = .ok (.iload_n 1, 1) := by decide +kernel
theorem d_X3_condition_19 : decode b_X3_condition 19 = .ok (.iload_n 2, 1) := by decide +kernel
theorem d_X3_condition_20 : decode b_X3_condition 20 = .ok (.iconst 0, 1) := by decide +kernel
theorem d_X3_condition_21 : decode b_X3_condition 21 = .ok (.iconst 0, 1) := by decide +kernel
theorem d_X3_condition_22 : decode b_X3_condition 22 = .ok (.invokevirtual 75, 3) := by decide +kernel
theorem d_X3_condition_25 : decode b_X3_condition 25 = .ok (.pop, 1) := by decide +kernel
theorem d_X3_condition_26 : decode b_X3_condition 26 = .ok (.return_, 1) := by decide +kernel
theorem d_X3_body_0 : decode b_X3_body 0 = .ok (.aload_n 0, 1) := by decide +kernel
theorem d_X3_body_1 : decode b_X3_body 1 = .ok (.bipush 20, 2) := by decide +kernel
theorem d_X3_body_3 : decode b_X3_body 3 = .ok (.aload_n 0, 1) := by decide +kernel
theorem d_X3_body_4 : decode b_X3_body 4 = .ok (.getfield 44, 3) := by decide +kernel
theorem d_X3_body_7 : decode b_X3_body 7 = .ok (.iconst 0, 1) := by decide +kernel
theorem d_X3_body_8 : decode b_X3_body 8 = .ok (.iconst 0, 1) := by decide +kernel
theorem d_X3_body_9 : decode b_X3_body 9 = .ok (.invokevirtual 75, 3) := by decide +kernel
theorem d_X3_body_12 : decode b_X3_body 12 = .ok (.pop, 1) := by decide +kernel
theorem d_X3_body_13 : decode b_X3_body 13 = .ok (.aload_n 0, 1) := by decide +kernel
theorem d_X3_body_14 : decode b_X3_body 14 = .ok (.iload_n 1, 1) := by decide +kernel
theorem d_X3_body_15 : decode b_X3_body 15 = .ok (.iconst 1, 1) := by decide +kernel
theorem d_X3_body_16 : decode b_X3_body 16 = .ok (.iadd, 1) := by decide +kernel
theorem d_X3_body_17 : decode b_X3_body 17 = .ok (.invokevirtual 125, 3) := by decide +kernel
theorem d_X3_body_20 : decode b_X3_body 20 = .ok (.aload_n 0, 1) := by decide +kernel
theorem d_X3_body_21 : decode b_X3_body 21 = .ok (.bipush 21, 2) := by decide +kernel
theorem d_X3_body_23 : decode b_X3_body 23 = .ok (.aload_n 0, 1) := by decide +kernel
theorem d_X3_body_24 : decode b_X3_body 24 = .ok (.getfield 44, 3) := by decide +kernel
theorem d_X3_body_27 : decode b_X3_body 27 = .ok (.iconst 0, 1) := by decide +kernel
theorem d_X3_body_28 : decode b_X3_body 28 = .ok (.iconst 0, 1) := by decide +kernel
theorem d_X3_body_29 : decode b_X3_body 29 = .ok (.invokevirtual 75, 3) := by decide +kernel
theorem d_X3_body_32 : decode b_X3_body 32 = .ok (.pop, 1) := by decide +kernel
theorem d_X3_body_33 : decode b_X3_body 33 = .ok (.return_, 1) := by decide +kernel
theorem d_X3_loop_0 : decode b_X3_loop 0 = .ok (.aload_n 0, 1) := by decide +kernel
theorem d_X3_loop_1 : decode b_X3_loop 1 = .ok (.getfield 44, 3) := by decide +kernel
theorem d_X3_loop_4 : decode b_X3_loop 4 = .ok (.istore_n 2, 1) := by decide +kernel
theorem d_X3_loop_5 : decode b_X3_loop 5 = .ok (.aload_n 0, 1) := by decide +kernel
