theorem d_X12_at_0 : decode b_X12_at 0 = .ok (.iload_n 1, 1) := by decide +kernel
theorem d_X12_at_1 : decode b_X12_at 1 = .ok (.ifCond .lt 15, 3) := by decide +kernel
theorem d_X12_at_4 : decode b_X12_at 4 = .ok (.iload_n 1, 1) := by decide +kernel
theorem d_X12_at_5 : decode b_X12_at 5 = .ok (.aload_n 0, 1) := by decide +kernel
theorem d_X12_at_6 : decode b_X12_at 6 = .ok (.arraylength, 1) := by decide +kernel
theorem d_X12_at_7 : decode b_X12_at 7 = .ok (.if_icmp .ge 9, 3) := by decide +kernel
theorem d_X12_at_10 : decode b_X12_at 10 = .ok (.aload_n 0, 1) := by decide +kernel
theorem d_X12_at_11 : decode b_X12_at 11 = .ok (.iload_n 1, 1) := by decide +kernel
theorem d_X12_at_12 : decode b_X12_at 12 = .ok (.iaload, 1) := by decide +kernel
theorem d_X12_at_13 : decode b_X12_at 13 = .ok (.goto 4, 3) := by decide +kernel
theorem d_X12_at_16 : decode b_X12_at 16 = .ok (.iconst 0, 1) := by decide +kernel
theorem d_X12_at_17 : decode b_X12_at 17 = .ok (.ireturn, 1) := by decide +kernel
theorem d_X12_set_0 : decode b_X12_set 0 = .ok (.iload_n 1, 1) := by decide +kernel
theorem d_X12_set_1 : decode b_X12_set 1 = .ok (.ifCond .lt 13, 3) := by decide +kernel
theorem d_X12_set_4 : decode b_X12_set 4 = .ok (.iload_n 1, 1) := by decide +kernel
theorem d_X12_set_5 : decode b_X12_set 5 = .ok (.aload_n 0, 1) := by decide +kernel
theorem d_X12_set_6 : decode b_X12_set 6 = .ok (.arraylength, 1) := by decide +kernel
theorem d_X12_set_7 : decode b_X12_set 7 = .ok (.if_icmp .ge 7, 3) := by decide +kernel
theorem d_X12_set_10 : decode b_X12_set 10 = .ok (.aload_n 0, 1) := by decide +kernel
theorem d_X12_set_11 : decode b_X12_set 11 = .ok (.iload_n 1, 1) := by decide +kernel
theorem d_X12_set_12 : decode b_X12_set 12 = .ok (.iload_n 2, 1) := by decide +kernel
theorem d_X12_set_13 : decode b_X12_set 13 = .ok (.iastore, 1) := by decide +kernel
theorem d_X12_set_14 : decode b_X12_set 14 = .ok (.return_, 1) := by decide +kernel
theorem d_X10_scan_24 : decode b_X10_scan 24 = .ok (.iload_n 3, 1) := by decide +kernel
theorem d_X10_scan_25 : decode b_X10_scan 25 = .ok (.aload_n 0, 1) := by decide +kernel
theorem d_X10_scan_26 : decode b_X10_scan 26 = .ok (.getfield 31, 3) := by decide +kernel
theorem d_X10_scan_29 : decode b_X10_scan 29 = .ok (.if_icmp .gt 33, 3) := by decide +kernel
theorem d_X10_scan_32 : decode b_X10_scan 32 = .ok (.iload_n 2, 1) := by decide +kernel
theorem d_X10_scan_33 : decode b_X10_scan 33 = .ok (.ifCond .eq 29, 3) := by decide +kernel
theorem d_X10_scan_36 : decode b_X10_scan 36 = .ok (.aload_n 0, 1) := by decide +kernel
theorem d_X10_scan_37 : decode b_X10_scan 37 = .ok (.invokevirtual 44, 3) := by decide +kernel
theorem d_X10_scan_40 : decode b_X10_scan 40 = .ok (.ifCond .eq 14, 3) := by decide +kernel
theorem d_X10_scan_43 : decode b_X10_scan 43 = .ok (.aload_n 0, 1) := by decide +kernel
theorem d_X10_scan_44 : decode b_X10_scan 44 = .ok (.invokevirtual 48, 3) := by decide +kernel
theorem d_X10_scan_54 : decode b_X10_scan 54 = .ok (.iconst 0, 1) := by decide +kernel
theorem d_X10_scan_55 : decode b_X10_scan 55 = .ok (.istore_n 2, 1) := by decide +kernel
theorem d_X10_scan_56 : decode b_X10_scan 56 = .ok (.iinc 3 1, 3) := by decide +kernel
theorem d_X10_scan_59 : decode b_X10_scan 59 = .ok (.goto (-35), 3) := by decide +kernel
theorem d_X10_scan_62 : decode b_X10_scan 62 = .ok (.return_, 1) := by decide +kernel
theorem d_X10_skipBlanks_0 : decode b_X10_skipBlanks 0 = .ok (.iconst 0, 1) := by decide +kernel
theorem d_X10_skipBlanks_1 : decode b_X10_skipBlanks 1 = .ok (.istore_n 1, 1) := by decide +kernel
theorem d_X10_skipBlanks_2 : decode b_X10_skipBlanks 2 = .ok (.iload_n 1, 1) := by decide +kernel
theorem d_X10_skipBlanks_3 : decode b_X10_skipBlanks 3 = .ok (.aload_n 0, 1) := by decide +kernel
theorem d_X10_skipBlanks_4 : decode b_X10_skipBlanks 4 = .ok (.getfield 31, 3) := by decide +kernel
theorem d_X10_skipBlanks_7 : decode b_X10_skipBlanks 7 = .ok (.if_icmp .gt 135, 3) := by decide +kernel
theorem d_X10_skipBlanks_10 : decode b_X10_skipBlanks 10 = .ok (.aload_n 0, 1) := by decide +kernel
theorem d_X10_skipBlanks_11 : decode b_X10_skipBlanks 11 = .ok (.aload_n 0, 1) := by decide +kernel
theorem d_X10_skipBlanks_12 : decode b_X10_skipBlanks 12 = .ok (.getfield 35, 3) := by decide +kernel
theorem d_X10_skipBlanks_15 : decode b_X10_skipBlanks 15 = .ok (.invokevirtual 51, 3) := by decide +kernel
theorem d_X10_skipBlanks_18 : decode b_X10_skipBlanks 18 = .ok (.istore_n 2, 1) := by decide +kernel
theorem d_X10_skipBlanks_19 : decode b_X10_skipBlanks 19 = .ok (.iload_n 2, 1) := by decide +kernel
theorem d_X10_skipBlanks_20 : decode b_X10_skipBlanks 20 = .ok (.bipush 47, 2) := by decide +kernel
theorem d_X10_skipBlanks_22 : decode b_X10_skipBlanks 22 = .ok (.if_icmp .ne 16, 3) := by decide +kernel
theorem d_X10_skipBlanks_25 : decode b_X10_skipBlanks 25 = .ok (.aload_n 0, 1) := by decide +kernel
theorem d_X10_skipBlanks_26 : decode b_X10_skipBlanks 26 = .ok (.aload_n 0, 1) := by decide +kernel
theorem d_X10_skipBlanks_27 : decode b_X10_skipBlanks 27 = .ok (.getfield 35, 3) := by decide +kernel
theorem d_X10_skipBlanks_30 : decode b_X10_skipBlanks 30 = .ok (.iconst 1, 1) := by decide +kernel
theorem d_X10_skipBlanks_31 : decode b_X10_skipBlanks 31 = .ok (.iadd, 1) := by decide +kernel
theorem d_X10_skipBlanks_32 : decode b_X10_skipBlanks 32 = .ok (.invokevirtual 51, 3) := by decide +kernel
theorem d_X10_skipBlanks_35 : decode b_X10_skipBlanks 35 = .ok (.goto 4, 3) := by decide +kernel
theorem d_X10_skipBlanks_38 : decode b_X10_skipBlanks 38 = .ok (.iconst (-1), 1) := by decide +kernel
theorem d_X10_skipBlanks_39 : decode b_X10_skipBlanks 39 = .ok (.istore_n 3, 1) := by decide +kernel
theorem d_X10_skipBlanks_40 : decode b_X10_skipBlanks 40 = .ok (.iload_n 3, 1) := by decide +kernel
theorem d_X10_skipBlanks_41 : decode b_X10_skipBlanks 41 = .ok (.bipush 47, 2) := by decide +kernel
theorem d_X10_skipBlanks_43 : decode b_X10_skipBlanks 43 = .ok (.if_icmp .eq 9, 3) := by decide +kernel
theorem d_X10_skipBlanks_46 : decode b_X10_skipBlanks 46 = .ok (.iload_n 3, 1) := by decide +kernel
theorem d_X10_skipBlanks_47 : decode b_X10_skipBlanks 47 = .ok (.bipush 42, 2) := by decide +kernel
theorem d_X10_skipBlanks_49 : decode b_X10_skipBlanks 49 = .ok (.if_icmp .ne 28, 3) := by decide +kernel
theorem d_X10_skipBlanks_52 : decode b_X10_skipBlanks 52 = .ok (.iload_n 3, 1) := by decide +kernel
theorem d_X10_skipBlanks_53 : decode b_X10_skipBlanks 53 = .ok (.bipush 47, 2) := by decide +kernel
theorem d_X10_skipBlanks_55 : decode b_X10_skipBlanks 55 = .ok (.if_icmp .ne 13, 3) := by decide +kernel
theorem d_X10_skipBlanks_58 : decode b_X10_skipBlanks 58 = .ok (.aload_n 0, 1) := by decide +kernel
theorem d_X10_skipBlanks_59 : decode b_X10_skipBlanks 59 = .ok (.invokevirtual 55, 3) := by decide +kernel
theorem d_X10_skipBlanks_62 : decode b_X10_skipBlanks 62 = .ok (.ifCond .eq 13, 3) := by decide +kernel
theorem d_X10_skipBlanks_65 : decode b_X10_skipBlanks 65 = .ok (.goto 71, 3) := by decide +kernel
theorem d_X10_skipBlanks_68 : decode b_X10_skipBlanks 68 = .ok (.aload_n 0, 1) := by decide +kernel
theorem d_X10_skipBlanks_69 : decode b_X10_skipBlanks 69 = .ok (.invokevirtual 58, 3) := by decide +kernel
theorem d_X10_skipBlanks_72 : decode b_X10_skipBlanks 72 = .ok (.ifCond .ne 64, 3) := by decide +kernel
theorem d_X10_skipBlanks_75 : decode b_X10_skipBlanks 75 = .ok (.iconst 0, 1) := by decide +kernel
theorem d_X10_skipBlanks_76 : decode b_X10_skipBlanks 76 = .ok (.ireturn, 1) := by decide +kernel
theorem d_X10_skipBlanks_77 : decode b_X10_skipBlanks 77 = .ok (.iload_n 2, 1) := by decide +kernel
theorem d_X10_skipBlanks_78 : decode b_X10_skipBlanks 78 = .ok (.bipush 9, 2) := by decide +kernel
theorem d_X10_skipBlanks_80 : decode b_X10_skipBlanks 80 = .ok (.if_icmp .eq 21, 3) := by decide +kernel
theorem d_X10_skipBlanks_83 : decode b_X10_skipBlanks 83 = .ok (.iload_n 2, 1) := by decide +kernel
theorem d_X10_skipBlanks_84 : decode b_X10_skipBlanks 84 = .ok (.bipush 10, 2) := by decide +kernel
theorem d_X10_skipBlanks_86 : decode b_X10_skipBlanks 86 = .ok (.if_icmp .eq 15, 3) := by decide +kernel
theorem d_X10_skipBlanks_89 : decode b_X10_skipBlanks 89 = .ok (.iload_n 2, 1) := by decide +kernel
theorem d_X10_skipBlanks_90 : decode b_X10_skipBlanks 90 = .ok (.bipush 13, 2) := by decide +kernel
theorem d_X10_skipBlanks_92 : decode b_X10_skipBlanks 92 = .ok (.if_icmp .eq 9, 3) := by decide +kernel
theorem d_X10_skipBlanks_95 : decode b_X10_skipBlanks 95 = .ok (.iload_n 2, 1) := by decide +kernel
theorem d_X10_skipBlanks_96 : decode b_X10_skipBlanks 96 = .ok (.bipush 32, 2) := by decide +kernel
theorem d_X10_skipBlanks_98 : decode b_X10_skipBlanks 98 = .ok (.if_icmp .ne 36, 3) := by decide +kernel
theorem d_X10_skipBlanks_101 : decode b_X10_skipBlanks 101 = .ok (.aload_n 0, 1) := by decide +kernel
theorem d_X10_skipBlanks_102 : decode b_X10_skipBlanks 102 = .ok (.dup, 1) := by decide +kernel
theorem d_X10_skipBlanks_103 : decode b_X10_skipBlanks 103 = .ok (.getfield 38, 3) := by decide +kernel
theorem d_X10_skipBlanks_106 : decode b_X10_skipBlanks 106 = .ok (.iload_n 2, 1) := by decide +kernel
theorem d_X10_skipBlanks_107 : decode b_X10_skipBlanks 107 = .ok (.bipush 10, 2) := by decide +kernel
theorem d_X10_skipBlanks_109 : decode b_X10_skipBlanks 109 = .ok (.if_icmp .ne 7, 3) := by decide +kernel
theorem d_X10_skipBlanks_112 : decode b_X10_skipBlanks 112 = .ok (.iconst 1, 1) := by decide +kernel
theorem d_X10_skipBlanks_113 : decode b_X10_skipBlanks 113 = .ok (.goto 4, 3) := by decide +kernel
theorem d_X10_skipBlanks_116 : decode b_X10_skipBlanks 116 = .ok (.iconst 0, 1) := by decide +kernel
theorem d_X10_skipBlanks_117 : decode b_X10_skipBlanks 117 = .ok (.iadd, 1) := by decide +kernel
theorem d_X10_skipBlanks_118 : decode b_X10_skipBlanks 118 = .ok (.putfield 38, 3) := by decide +kernel
theorem d_X10_skipBlanks_121 : decode b_X10_skipBlanks 121 = .ok (.aload_n 0, 1) := by decide +kernel
theorem d_X10_skipBlanks_122 : decode b_X10_skipBlanks 122 = .ok (.dup, 1) := by decide +kernel
theorem d_X10_skipBlanks_123 : decode b_X10_skipBlanks 123 = .ok (.getfield 35, 3) := by decide +kernel
theorem d_X10_skipBlanks_126 : decode b_X10_skipBlanks 126 = .ok (.iconst 1, 1) := by decide +kernel
theorem d_X10_skipBlanks_127 : decode b_X10_skipBlanks 127 = .ok (.iadd, 1) := by decide +kernel
theorem d_X10_skipBlanks_128 : decode b_X10_skipBlanks 128 = .ok (.putfield 35, 3) := by decide +kernel
theorem d_X10_skipBlanks_131 : decode b_X10_skipBlanks 131 = .ok (.goto 5, 3) := by decide +kernel
theorem d_X10_skipBlanks_134 : decode b_X10_skipBlanks 134 = .ok (.iconst 1, 1) := by decide +kernel
theorem d_X10_skipBlanks_135 : decode b_X10_skipBlanks 135 = .ok (.ireturn, 1) := by decide +kernel
theorem d_X10_skipBlanks_136 : decode b_X10_skipBlanks 136 = .ok (.iinc 1 1, 3) := by decide +kernel
theorem d_X10_skipBlanks_139 : decode b_X10_skipBlanks 139 = .ok (.goto (-137), 3) := by decide +kernel
theorem d_X10_skipBlanks_142 : decode b_X10_skipBlanks 142 = .ok (.iconst 1, 1) := by decide +kernel
theorem d_X10_skipBlanks_143 : decode b_X10_skipBlanks 143 = .ok (.ireturn, 1) := by decide +kernel
theorem d_X10_byteAt_0 : decode b_X10_byteAt 0 = .ok (.iload_n 1, 1) := by decide +kernel
theorem d_X10_byteAt_1 : decode b_X10_byteAt 1 = .ok (.ifCond .lt 33, 3) := by decide +kernel
theorem d_X10_byteAt_4 : decode b_X10_byteAt 4 = .ok (.iload_n 1, 1) := by decide +kernel
theorem d_X10_byteAt_5 : decode b_X10_byteAt 5 = .ok (.aload_n 0, 1) := by decide +kernel
theorem d_X10_byteAt_6 : decode b_X10_byteAt 6 = .ok (.getfield 31, 3) := by decide +kernel
theorem d_X10_byteAt_9 : decode b_X10_byteAt 9 = .ok (.if_icmp .ge 25, 3) := by decide +kernel
theorem d_X10_byteAt_12 : decode b_X10_byteAt 12 = .ok (.iload_n 1, 1) := by decide +kernel
theorem d_X10_byteAt_13 : decode b_X10_byteAt 13 = .ok (.aload_n 0, 1) := by decide +kernel
theorem d_X10_byteAt_14 : decode b_X10_byteAt 14 = .ok (.getfield 27, 3) := by decide +kernel
theorem d_X10_byteAt_17 : decode b_X10_byteAt 17 = .ok (.arraylength, 1) := by decide +kernel
theorem d_X10_byteAt_18 : decode b_X10_byteAt 18 = .ok (.if_icmp .ge 16, 3) := by decide +kernel
theorem d_X10_byteAt_21 : decode b_X10_byteAt 21 = .ok (.aload_n 0, 1) := by decide +kernel
theorem d_X10_byteAt_22 : decode b_X10_byteAt 22 = .ok (.getfield 27, 3) := by decide +kernel
theorem d_X10_byteAt_25 : decode b_X10_byteAt 25 = .ok (.iload_n 1, 1) := by decide +kernel
theorem d_X10_byteAt_26 : decode b_X10_byteAt 26 = .ok (.baload, 1) := by decide +kernel
theorem d_X10_byteAt_27 : decode b_X10_byteAt 27 = .ok (.sipush 255, 3) := by decide +kernel
theorem d_X10_byteAt_30 : decode b_X10_byteAt 30 = .ok (.iand, 1) := by decide +kernel
theorem d_X10_byteAt_31 : decode b_X10_byteAt 31 = .ok (.goto 4, 3) := by decide +kernel
theorem d_X10_byteAt_34 : decode b_X10_byteAt 34 = .ok (.iconst (-1), 1) := by decide +kernel
theorem d_X10_byteAt_35 : decode b_X10_byteAt 35 = .ok (.ireturn, 1) := by decide +kernel
theorem d_X10_skipLine_0 : decode b_X10_skipLine 0 = .ok (.aload_n 0, 1) := by decide +kernel
theorem d_X10_skipLine_1 : decode b_X10_skipLine 1 = .ok (.getfield 35, 3) := by decide +kernel
theorem d_X10_skipLine_4 : decode b_X10_skipLine 4 = .ok (.aload_n 0, 1) := by decide +kernel
theorem d_X10_skipLine_5 : decode b_X10_skipLine 5 = .ok (.getfield 31, 3) := by decide +kernel
theorem d_X10_skipLine_8 : decode b_X10_skipLine 8 = .ok (.if_icmp .ge 52, 3) := by decide +kernel
theorem d_X10_skipLine_11 : decode b_X10_skipLine 11 = .ok (.aload_n 0, 1) := by decide +kernel
theorem d_X10_skipLine_12 : decode b_X10_skipLine 12 = .ok (.aload_n 0, 1) := by decide +kernel
theorem d_X10_skipLine_13 : decode b_X10_skipLine 13 = .ok (.getfield 35, 3) := by decide +kernel
theorem d_X10_skipLine_16 : decode b_X10_skipLine 16 = .ok (.invokevirtual 51, 3) := by decide +kernel
theorem d_X10_skipLine_19 : decode b_X10_skipLine 19 = .ok (.bipush 10, 2) := by decide +kernel
theorem d_X10_skipLine_21 : decode b_X10_skipLine 21 = .ok (.if_icmp .eq 39, 3) := by decide +kernel
theorem d_X10_skipLine_24 : decode b_X10_skipLine 24 = .ok (.aload_n 0, 1) := by decide +kernel
theorem d_X10_skipLine_25 : decode b_X10_skipLine 25 = .ok (.aload_n 0, 1) := by decide +kernel
theorem d_X10_skipLine_26 : decode b_X10_skipLine 26 = .ok (.getfield 35, 3) := by decide +kernel
theorem d_X10_skipLine_29 : decode b_X10_skipLine 29 = .ok (.invokevirtual 51, 3) := by decide +kernel
theorem d_X10_skipLine_32 : decode b_X10_skipLine 32 = .ok (.invokestatic 61, 3) := by decide +kernel
theorem d_X10_skipLine_35 : decode b_X10_skipLine 35 = .ok (.ifCond .ne 12, 3) := by decide +kernel
theorem d_X10_skipLine_38 : decode b_X10_skipLine 38 = .ok (.aload_n 0, 1) := by decide +kernel
theorem d_X10_skipLine_39 : decode b_X10_skipLine 39 = .ok (.aload_n 0, 1) := by decide +kernel
theorem d_X10_skipLine_40 : decode b_X10_skipLine 40 = .ok (.getfield 35, 3) := by decide +kernel
theorem d_X10_skipLine_43 : decode b_X10_skipLine 43 = .ok (.invokevirtual 65, 3) := by decide +kernel
theorem d_X10_skipLine_46 : decode b_X10_skipLine 46 = .ok (.ireturn, 1) := by decide +kernel
theorem d_X10_skipLine_47 : decode b_X10_skipLine 47 = .ok (.aload_n 0, 1) := by decide +kernel
theorem d_X10_skipLine_48 : decode b_X10_skipLine 48 = .ok (.dup, 1) := by decide +kernel
theorem d_X10_skipLine_49 : decode b_X10_skipLine 49 = .ok (.getfield 35, 3) := by decide +kernel
theorem d_X10_skipLine_52 : decode b_X10_skipLine 52 = .ok (.iconst 1, 1) := by decide +kernel
theorem d_X10_skipLine_53 : decode b_X10_skipLine 53 = .ok (.iadd, 1) := by decide +kernel
theorem d_X10_skipLine_54 : decode b_X10_skipLine 54 = .ok (.putfield 35, 3) := by decide +kernel
theorem d_X10_skipLine_57 : decode b_X10_skipLine 57 = .ok (.goto (-57), 3) := by decide +kernel
theorem d_X10_skipLine_60 : decode b_X10_skipLine 60 = .ok (.iconst 1, 1) := by decide +kernel
theorem d_X10_skipLine_61 : decode b_X10_skipLine 61 = .ok (.ireturn, 1) := by decide +kernel
theorem d_X10_mayOccur_0 : decode b_X10_mayOccur 0 = .ok (.iload_n 0, 1) := by decide +kernel
theorem d_X10_mayOccur_1 : decode b_X10_mayOccur 1 = .ok (.bipush 32, 2) := by decide +kernel
theorem d_X10_mayOccur_3 : decode b_X10_mayOccur 3 = .ok (.if_icmp .lt 9, 3) := by decide +kernel
theorem d_X10_mayOccur_6 : decode b_X10_mayOccur 6 = .ok (.iload_n 0, 1) := by decide +kernel
theorem d_X10_mayOccur_7 : decode b_X10_mayOccur 7 = .ok (.bipush 126, 2) := by decide +kernel
theorem d_X10_mayOccur_9 : decode b_X10_mayOccur 9 = .ok (.if_icmp .le 21, 3) := by decide +kernel
theorem d_X10_mayOccur_12 : decode b_X10_mayOccur 12 = .ok (.iload_n 0, 1) := by decide +kernel
theorem d_X10_mayOccur_13 : decode b_X10_mayOccur 13 = .ok (.bipush 9, 2) := by decide +kernel
theorem d_X10_mayOccur_15 : decode b_X10_mayOccur 15 = .ok (.if_icmp .eq 15, 3) := by decide +kernel
theorem d_X10_mayOccur_18 : decode b_X10_mayOccur 18 = .ok (.iload_n 0, 1) := by decide +kernel
theorem d_X10_mayOccur_19 : decode b_X10_mayOccur 19 = .ok (.bipush 10, 2) := by decide +kernel
theorem d_X10_mayOccur_21 : decode b_X10_mayOccur 21 = .ok (.if_icmp .eq 9, 3) := by decide +kernel
theorem d_X10_mayOccur_24 : decode b_X10_mayOccur 24 = .ok (.iload_n 0, 1) := by decide +kernel
theorem d_X10_mayOccur_25 : decode b_X10_mayOccur 25 = .ok (.bipush 13, 2) := by decide +kernel
theorem d_X10_mayOccur_27 : decode b_X10_mayOccur 27 = .ok (.if_icmp .ne 7, 3) := by decide +kernel
theorem d_X10_mayOccur_30 : decode b_X10_mayOccur 30 = .ok (.iconst 1, 1) := by decide +kernel
theorem d_X10_mayOccur_31 : decode b_X10_mayOccur 31 = .ok (.goto 4, 3) := by decide +kernel
theorem d_X10_mayOccur_34 : decode b_X10_mayOccur 34 = .ok (.iconst 0, 1) := by decide +kernel
theorem d_X10_mayOccur_35 : decode b_X10_mayOccur 35 = .ok (.ireturn, 1) := by decide +kernel
theorem d_X10_bad_0 : decode b_X10_bad 0 = .ok (.aload_n 0, 1) := by decide +kernel
theorem d_X10_bad_1 : decode b_X10_bad 1 = .ok (.iload_n 1, 1) := by decide +kernel
theorem d_X10_bad_2 : decode b_X10_bad 2 = .ok (.putfield 35, 3) := by decide +kernel
theorem d_X10_bad_5 : decode b_X10_bad 5 = .ok (.aload_n 0, 1) := by decide +kernel
theorem d_X10_bad_6 : decode b_X10_bad 6 = .ok (.iconst 1, 1) := by decide +kernel
theorem d_X10_bad_7 : decode b_X10_bad 7 = .ok (.iconst 0, 1) := by decide +kernel
theorem d_X10_bad_8 : decode b_X10_bad 8 = .ok (.iconst 0, 1) := by decide +kernel
theorem d_X10_bad_9 : decode b_X10_bad 9 = .ok (.invokevirtual 68, 3) := by decide +kernel
theorem d_X10_bad_12 : decode b_X10_bad 12 = .ok (.pop, 1) := by decide +kernel
theorem d_X10_bad_13 : decode b_X10_bad 13 = .ok (.iconst 0, 1) := by decide +kernel
theorem d_X10_bad_14 : decode b_X10_bad 14 = .ok (.ireturn, 1) := by decide +kernel
theorem d_X10_add_0 : decode b_X10_add 0 = .ok (.aload_n 0, 1) := by decide +kernel
theorem d_X10_add_1 : decode b_X10_add 1 = .ok (.getfield 41, 3) := by decide +kernel
theorem d_X10_add_4 : decode b_X10_add 4 = .ok (.ifCond .lt 107, 3) := by decide +kernel
theorem d_X10_add_7 : decode b_X10_add 7 = .ok (.aload_n 0, 1) := by decide +kernel
theorem d_X10_add_8 : decode b_X10_add 8 = .ok (.getfield 41, 3) := by decide +kernel
theorem d_X10_add_11 : decode b_X10_add 11 = .ok (.aload_n 0, 1) := by decide +kernel
theorem d_X10_add_12 : decode b_X10_add 12 = .ok (.getfield 9, 3) := by decide +kernel
theorem d_X10_add_15 : decode b_X10_add 15 = .ok (.arraylength, 1) := by decide +kernel
theorem d_X10_add_16 : decode b_X10_add 16 = .ok (.if_icmp .ge 95, 3) := by decide +kernel
theorem d_X10_add_19 : decode b_X10_add 19 = .ok (.aload_n 0, 1) := by decide +kernel
theorem d_X10_add_20 : decode b_X10_add 20 = .ok (.getfield 41, 3) := by decide +kernel
theorem d_X10_add_23 : decode b_X10_add 23 = .ok (.aload_n 0, 1) := by decide +kernel
theorem d_X10_add_24 : decode b_X10_add 24 = .ok (.getfield 15, 3) := by decide +kernel
theorem d_X10_add_27 : decode b_X10_add 27 = .ok (.arraylength, 1) := by decide +kernel
theorem d_X10_add_28 : decode b_X10_add 28 = .ok (.if_icmp .ge 83, 3) := by decide +kernel
theorem d_X10_add_31 : decode b_X10_add 31 = .ok (.aload_n 0, 1) := by decide +kernel
theorem d_X10_add_32 : decode b_X10_add 32 = .ok (.getfield 41, 3) := by decide +kernel
theorem d_X10_add_35 : decode b_X10_add 35 = .ok (.aload_n 0, 1) := by decide +kernel
theorem d_X10_add_36 : decode b_X10_add 36 = .ok (.getfield 18, 3) := by decide +kernel
theorem d_X10_add_39 : decode b_X10_add 39 = .ok (.arraylength, 1) := by decide +kernel
theorem d_X10_add_40 : decode b_X10_add 40 = .ok (.if_icmp .ge 71, 3) := by decide +kernel
theorem d_X10_add_43 : decode b_X10_add 43 = .ok (.aload_n 0, 1) := by decide +kernel
theorem d_X10_add_44 : decode b_X10_add 44 = .ok (.getfield 41, 3) := by decide +kernel
theorem d_X10_add_47 : decode b_X10_add 47 = .ok (.aload_n 0, 1) := by decide +kernel
theorem d_X10_add_48 : decode b_X10_add 48 = .ok (.getfield 21, 3) := by decide +kernel
theorem d_X10_add_51 : decode b_X10_add 51 = .ok (.arraylength, 1) := by decide +kernel
theorem d_X10_add_52 : decode b_X10_add 52 = .ok (.if_icmp .ge 59, 3) := by decide +kernel
theorem d_X10_add_55 : decode b_X10_add 55 = .ok (.aload_n 0, 1) := by decide +kernel
theorem d_X10_add_56 : decode b_X10_add 56 = .ok (.getfield 9, 3) := by decide +kernel
theorem d_X10_add_59 : decode b_X10_add 59 = .ok (.aload_n 0, 1) := by decide +kernel
theorem d_X10_add_60 : decode b_X10_add 60 = .ok (.getfield 41, 3) := by decide +kernel
theorem d_X10_add_63 : decode b_X10_add 63 = .ok (.iload_n 1, 1) := by decide +kernel
theorem d_X10_add_64 : decode b_X10_add 64 = .ok (.iastore, 1) := by decide +kernel
theorem d_X10_add_65 : decode b_X10_add 65 = .ok (.aload_n 0, 1) := by decide +kernel
theorem d_X10_add_66 : decode b_X10_add 66 = .ok (.getfield 15, 3) := by decide +kernel
theorem d_X10_add_69 : decode b_X10_add 69 = .ok (.aload_n 0, 1) := by decide +kernel
theorem d_X10_add_70 : decode b_X10_add 70 = .ok (.getfield 41, 3) := by decide +kernel
theorem d_X10_add_73 : decode b_X10_add 73 = .ok (.iload_n 2, 1) := by decide +kernel
theorem d_X10_add_74 : decode b_X10_add 74 = .ok (.iastore, 1) := by decide +kernel
theorem d_X10_add_75 : decode b_X10_add 75 = .ok (.aload_n 0, 1) := by decide +kernel
theorem d_X10_add_76 : decode b_X10_add 76 = .ok (.getfield 18, 3) := by decide +kernel
theorem d_X10_add_79 : decode b_X10_add 79 = .ok (.aload_n 0, 1) := by decide +kernel
theorem d_X10_add_80 : decode b_X10_add 80 = .ok (.getfield 41, 3) := by decide +kernel
theorem d_X10_add_83 : decode b_X10_add 83 = .ok (.aload_n 0, 1) := by decide +kernel
theorem d_X10_add_84 : decode b_X10_add 84 = .ok (.getfield 35, 3) := by decide +kernel
theorem d_X10_add_87 : decode b_X10_add 87 = .ok (.iastore, 1) := by decide +kernel
theorem d_X10_add_88 : decode b_X10_add 88 = .ok (.aload_n 0, 1) := by decide +kernel
theorem d_X10_add_89 : decode b_X10_add 89 = .ok (.getfield 21, 3) := by decide +kernel
theorem d_X10_add_92 : decode b_X10_add 92 = .ok (.aload_n 0, 1) := by decide +kernel
theorem d_X10_add_93 : decode b_X10_add 93 = .ok (.getfield 41, 3) := by decide +kernel
theorem d_X10_add_96 : decode b_X10_add 96 = .ok (.aload_n 0, 1) := by decide +kernel
theorem d_X10_add_97 : decode b_X10_add 97 = .ok (.getfield 38, 3) := by decide +kernel
theorem d_X10_add_100 : decode b_X10_add 100 = .ok (.iastore, 1) := by decide +kernel
theorem d_X10_add_101 : decode b_X10_add 101 = .ok (.aload_n 0, 1) := by decide +kernel
theorem d_X10_add_102 : decode b_X10_add 102 = .ok (.dup, 1) := by decide +kernel
theorem d_X10_add_103 : decode b_X10_add 103 = .ok (.getfield 41, 3) := by decide +kernel
theorem d_X10_add_106 : decode b_X10_add 106 = .ok (.iconst 1, 1) := by decide +kernel
theorem d_X10_add_107 : decode b_X10_add 107 = .ok (.iadd, 1) := by decide +kernel
theorem d_X10_add_108 : decode b_X10_add 108 = .ok (.putfield 41, 3) := by decide +kernel
theorem d_X10_add_111 : decode b_X10_add 111 = .ok (.aload_n 0, 1) := by decide +kernel
theorem d_X10_add_112 : decode b_X10_add 112 = .ok (.dup, 1) := by decide +kernel
theorem d_X10_add_113 : decode b_X10_add 113 = .ok (.getfield 35, 3) := by decide +kernel
theorem d_X10_add_116 : decode b_X10_add 116 = .ok (.iload_n 3, 1) := by decide +kernel
theorem d_X10_add_117 : decode b_X10_add 117 = .ok (.iadd, 1) := by decide +kernel
theorem d_X10_add_118 : decode b_X10_add 118 = .ok (.putfield 35, 3) := by decide +kernel
theorem d_X10_add_121 : decode b_X10_add 121 = .ok (.iconst 1, 1) := by decide +kernel
theorem d_X10_add_122 : decode b_X10_add 122 = .ok (.ireturn, 1) := by decide +kernel
theorem d_X10_skipComment_0 : decode b_X10_skipComment 0 = .ok (.aload_n 0, 1) := by decide +kernel
theorem d_X10_skipComment_1 : decode b_X10_skipComment 1 = .ok (.getfield 35, 3) := by decide +kernel
theorem d_X10_skipComment_4 : decode b_X10_skipComment 4 = .ok (.iconst 2, 1) := by decide +kernel
theorem d_X10_skipComment_5 : decode b_X10_skipComment 5 = .ok (.iadd, 1) := by decide +kernel
theorem d_X10_skipComment_6 : decode b_X10_skipComment 6 = .ok (.istore_n 1, 1) := by decide +kernel
theorem d_X10_skipComment_7 : decode b_X10_skipComment 7 = .ok (.iload_n 1, 1) := by decide +kernel
theorem d_X10_skipComment_8 : decode b_X10_skipComment 8 = .ok (.aload_n 0, 1) := by decide +kernel
theorem d_X10_skipComment_9 : decode b_X10_skipComment 9 = .ok (.getfield 31, 3) := by decide +kernel
theorem d_X10_skipComment_12 : decode b_X10_skipComment 12 = .ok (.if_icmp .ge 75, 3) := by decide +kernel
theorem d_X10_skipComment_15 : decode b_X10_skipComment 15 = .ok (.aload_n 0, 1) := by decide +kernel
theorem d_X10_skipComment_16 : decode b_X10_skipComment 16 = .ok (.iload_n 1, 1) := by decide +kernel
theorem d_X10_skipComment_17 : decode b_X10_skipComment 17 = .ok (.invokevirtual 51, 3) := by decide +kernel
theorem d_X10_skipComment_20 : decode b_X10_skipComment 20 = .ok (.istore_n 2, 1) := by decide +kernel
theorem d_X10_skipComment_21 : decode b_X10_skipComment 21 = .ok (.iload_n 2, 1) := by decide +kernel
theorem d_X10_skipComment_22 : decode b_X10_skipComment 22 = .ok (.invokestatic 61, 3) := by decide +kernel
theorem d_X10_skipComment_25 : decode b_X10_skipComment 25 = .ok (.ifCond .ne 9, 3) := by decide +kernel
theorem d_X10_skipComment_28 : decode b_X10_skipComment 28 = .ok (.aload_n 0, 1) := by decide +kernel
theorem d_X10_skipComment_29 : decode b_X10_skipComment 29 = .ok (.iload_n 1, 1) := by decide +kernel
theorem d_X10_skipComment_30 : decode b_X10_skipComment 30 = .ok (.invokevirtual 65, 3) := by decide +kernel
theorem d_X10_skipComment_33 : decode b_X10_skipComment 33 = .ok (.ireturn, 1) := by decide +kernel
theorem d_X10_skipComment_34 : decode b_X10_skipComment 34 = .ok (.aload_n 0, 1) := by decide +kernel
theorem d_X10_skipComment_35 : decode b_X10_skipComment 35 = .ok (.dup, 1) := by decide +kernel
theorem d_X10_skipComment_36 : decode b_X10_skipComment 36 = .ok (.getfield 38, 3) := by decide +kernel
theorem d_X10_skipComment_39 : decode b_X10_skipComment 39 = .ok (.iload_n 2, 1) := by decide +kernel
theorem d_X10_skipComment_40 : decode b_X10_skipComment 40 = .ok (.bipush 10, 2) := by decide +kernel
theorem d_X10_skipComment_42 : decode b_X10_skipComment 42 = .ok (.if_icmp .ne 7, 3) := by decide +kernel
theorem d_X10_skipComment_45 : decode b_X10_skipComment 45 = .ok (.iconst 1, 1) := by decide +kernel
theorem d_X10_skipComment_46 : decode b_X10_skipComment 46 = .ok (.goto 4, 3) := by decide +kernel
theorem d_X10_skipComment_49 : decode b_X10_skipComment 49 = .ok (.iconst 0, 1) := by decide +kernel
theorem d_X10_skipComment_50 : decode b_X10_skipComment 50 = .ok (.iadd, 1) := by decide +kernel
theorem d_X10_skipComment_51 : decode b_X10_skipComment 51 = .ok (.putfield 38, 3) := by decide +kernel
theorem d_X10_skipComment_54 : decode b_X10_skipComment 54 = .ok (.iload_n 2, 1) := by decide +kernel
theorem d_X10_skipComment_55 : decode b_X10_skipComment 55 = .ok (.bipush 42, 2) := by decide +kernel
theorem d_X10_skipComment_57 : decode b_X10_skipComment 57 = .ok (.if_icmp .ne 24, 3) := by decide +kernel
theorem d_X10_skipComment_60 : decode b_X10_skipComment 60 = .ok (.aload_n 0, 1) := by decide +kernel
theorem d_X10_skipComment_61 : decode b_X10_skipComment 61 = .ok (.iload_n 1, 1) := by decide +kernel
theorem d_X10_skipComment_62 : decode b_X10_skipComment 62 = .ok (.iconst 1, 1) := by decide +kernel
theorem d_X10_skipComment_63 : decode b_X10_skipComment 63 = .ok (.iadd, 1) := by decide +kernel
theorem d_X10_skipComment_64 : decode b_X10_skipComment 64 = .ok (.invokevirtual 51, 3) := by decide +kernel
theorem d_X10_skipComment_67 : decode b_X10_skipComment 67 = .ok (.bipush 47, 2) := by decide +kernel
theorem d_X10_skipComment_69 : decode b_X10_skipComment 69 = .ok (.if_icmp .ne 12, 3) := by decide +kernel
theorem d_X10_skipComment_72 : decode b_X10_skipComment 72 = .ok (.aload_n 0, 1) := by decide +kernel
theorem d_X10_skipComment_73 : decode b_X10_skipComment 73 = .ok (.iload_n 1, 1) := by decide +kernel
theorem d_X10_skipComment_74 : decode b_X10_skipComment 74 = .ok (.iconst 2, 1) := by decide +kernel
theorem d_X10_skipComment_75 : decode b_X10_skipComment 75 = .ok (.iadd, 1) := by decide +kernel
theorem d_X10_skipComment_76 : decode b_X10_skipComment 76 = .ok (.putfield 35, 3) := by decide +kernel
theorem d_X10_skipComment_79 : decode b_X10_skipComment 79 = .ok (.iconst 1, 1) := by decide +kernel
theorem d_X10_skipComment_80 : decode b_X10_skipComment 80 = .ok (.ireturn, 1) := by decide +kernel
theorem d_X10_skipComment_81 : decode b_X10_skipComment 81 = .ok (.iinc 1 1, 3) := by decide +kernel
theorem d_X10_skipComment_84 : decode b_X10_skipComment 84 = .ok (.goto (-77), 3) := by decide +kernel
theorem d_X10_skipComment_87 : decode b_X10_skipComment 87 = .ok (.aload_n 0, 1) := by decide +kernel
theorem d_X10_skipComment_88 : decode b_X10_skipComment 88 = .ok (.aload_n 0, 1) := by decide +kernel
theorem d_X10_skipComment_89 : decode b_X10_skipComment 89 = .ok (.getfield 35, 3) := by decide +kernel
theorem d_X10_skipComment_92 : decode b_X10_skipComment 92 = .ok (.invokevirtual 65, 3) := by decide +kernel
theorem d_X10_skipComment_95 : decode b_X10_skipComment 95 = .ok (.ireturn, 1) := by decide +kernel
theorem d_X10_token_0 : decode b_X10_token 0 = .ok (.aload_n 0, 1) := by decide +kernel
theorem d_X10_token_1 : decode b_X10_token 1 = .ok (.aload_n 0, 1) := by decide +kernel
theorem d_X10_token_2 : decode b_X10_token 2 = .ok (.getfield 35, 3) := by decide +kernel
theorem d_X10_token_5 : decode b_X10_token 5 = .ok (.invokevirtual 51, 3) := by decide +kernel
theorem d_X10_token_8 : decode b_X10_token 8 = .ok (.istore_n 1, 1) := by decide +kernel
theorem d_X10_token_9 : decode b_X10_token 9 = .ok (.iload_n 1, 1) := by decide +kernel
theorem d_X10_token_10 : decode b_X10_token 10 = .ok (.ifCond .ge 13, 3) := by decide +kernel
theorem d_X10_token_23 : decode b_X10_token 23 = .ok (.iload_n 1, 1) := by decide +kernel
theorem d_X10_token_24 : decode b_X10_token 24 = .ok (.invokestatic 72, 3) := by decide +kernel
theorem d_X10_token_27 : decode b_X10_token 27 = .ok (.ifCond .eq 8, 3) := by decide +kernel
theorem d_X10_token_35 : decode b_X10_token 35 = .ok (.iload_n 1, 1) := by decide +kernel
theorem d_X10_token_36 : decode b_X10_token 36 = .ok (.invokestatic 78, 3) := by decide +kernel
theorem d_X10_token_39 : decode b_X10_token 39 = .ok (.ifCond .eq 52, 3) := by decide +kernel
theorem d_X10_token_91 : decode b_X10_token 91 = .ok (.iload_n 1, 1) := by decide +kernel
theorem d_X10_token_92 : decode b_X10_token 92 = .ok (.bipush 39, 2) := by decide +kernel
theorem d_X10_token_94 : decode b_X10_token 94 = .ok (.if_icmp .ne 8, 3) := by decide +kernel
theorem d_X10_token_102 : decode b_X10_token 102 = .ok (.iload_n 1, 1) := by decide +kernel
theorem d_X10_token_103 : decode b_X10_token 103 = .ok (.bipush 34, 2) := by decide +kernel
theorem d_X10_token_105 : decode b_X10_token 105 = .ok (.if_icmp .ne 10, 3) := by decide +kernel
theorem d_X10_token_115 : decode b_X10_token 115 = .ok (.aload_n 0, 1) := by decide +kernel
theorem d_X10_token_116 : decode b_X10_token 116 = .ok (.invokevirtual 96, 3) := by decide +kernel
theorem d_X10_isLetter_0 : decode b_X10_isLetter 0 = .ok (.iload_n 0, 1) := by decide +kernel
theorem d_X10_isLetter_1 : decode b_X10_isLetter 1 = .ok (.bipush 97, 2) := by decide +kernel
theorem d_X10_isLetter_3 : decode b_X10_isLetter 3 = .ok (.if_icmp .lt 9, 3) := by decide +kernel
theorem d_X10_isLetter_6 : decode b_X10_isLetter 6 = .ok (.iload_n 0, 1) := by decide +kernel
theorem d_X10_isLetter_7 : decode b_X10_isLetter 7 = .ok (.bipush 122, 2) := by decide +kernel
theorem d_X10_isLetter_9 : decode b_X10_isLetter 9 = .ok (.if_icmp .le 21, 3) := by decide +kernel
theorem d_X10_isLetter_12 : decode b_X10_isLetter 12 = .ok (.iload_n 0, 1) := by decide +kernel
theorem d_X10_isLetter_13 : decode b_X10_isLetter 13 = .ok (.bipush 65, 2) := by decide +kernel
theorem d_X10_isLetter_15 : decode b_X10_isLetter 15 = .ok (.if_icmp .lt 9, 3) := by decide +kernel
theorem d_X10_isLetter_18 : decode b_X10_isLetter 18 = .ok (.iload_n 0, 1) := by decide +kernel
theorem d_X10_isLetter_19 : decode b_X10_isLetter 19 = .ok (.bipush 90, 2) := by decide +kernel
theorem d_X10_isLetter_21 : decode b_X10_isLetter 21 = .ok (.if_icmp .le 9, 3) := by decide +kernel
theorem d_X10_isLetter_24 : decode b_X10_isLetter 24 = .ok (.iload_n 0, 1) := by decide +kernel
theorem d_X10_isLetter_25 : decode b_X10_isLetter 25 = .ok (.bipush 95, 2) := by decide +kernel
theorem d_X10_isLetter_27 : decode b_X10_isLetter 27 = .ok (.if_icmp .ne 7, 3) := by decide +kernel
theorem d_X10_isLetter_30 : decode b_X10_isLetter 30 = .ok (.iconst 1, 1) := by decide +kernel
theorem d_X10_isLetter_31 : decode b_X10_isLetter 31 = .ok (.goto 4, 3) := by decide +kernel
theorem d_X10_isLetter_34 : decode b_X10_isLetter 34 = .ok (.iconst 0, 1) := by decide +kernel
theorem d_X10_isLetter_35 : decode b_X10_isLetter 35 = .ok (.ireturn, 1) := by decide +kernel
theorem d_X10_word_13 : decode b_X10_word 13 = .ok (.iload_n 1, 1) := by decide +kernel
theorem d_X10_word_14 : decode b_X10_word 14 = .ok (.aload_n 0, 1) := by decide +kernel
theorem d_X10_word_15 : decode b_X10_word 15 = .ok (.getfield 31, 3) := by decide +kernel
theorem d_X10_word_18 : decode b_X10_word 18 = .ok (.if_icmp .gt 36, 3) := by decide +kernel
theorem d_X10_word_54 : decode b_X10_word 54 = .ok (.iload_n 1, 1) := by decide +kernel
theorem d_X10_word_55 : decode b_X10_word 55 = .ok (.bipush 24, 2) := by decide +kernel
theorem d_X10_word_57 : decode b_X10_word 57 = .ok (.if_icmp .le 12, 3) := by decide +kernel
theorem d_X10_word_69 : decode b_X10_word 69 = .ok (.aload_n 0, 1) := by decide +kernel
theorem d_X10_word_70 : decode b_X10_word 70 = .ok (.ldc 99, 2) := by decide +kernel
theorem d_X10_isDigit_0 : decode b_X10_isDigit 0 = .ok (.iload_n 0, 1) := by decide +kernel
theorem d_X10_isDigit_1 : decode b_X10_isDigit 1 = .ok (.bipush 48, 2) := by decide +kernel
theorem d_X10_isDigit_3 : decode b_X10_isDigit 3 = .ok (.if_icmp .lt 13, 3) := by decide +kernel
theorem d_X10_isDigit_6 : decode b_X10_isDigit 6 = .ok (.iload_n 0, 1) := by decide +kernel
theorem d_X10_isDigit_7 : decode b_X10_isDigit 7 = .ok (.bipush 57, 2) := by decide +kernel
theorem d_X10_isDigit_9 : decode b_X10_isDigit 9 = .ok (.if_icmp .gt 7, 3) := by decide +kernel
theorem d_X10_isDigit_12 : decode b_X10_isDigit 12 = .ok (.iconst 1, 1) := by decide +kernel
theorem d_X10_isDigit_13 : decode b_X10_isDigit 13 = .ok (.goto 4, 3) := by decide +kernel
theorem d_X10_isDigit_16 : decode b_X10_isDigit 16 = .ok (.iconst 0, 1) := by decide +kernel
theorem d_X10_isDigit_17 : decode b_X10_isDigit 17 = .ok (.ireturn, 1) := by decide +kernel
theorem d_X10_sixteenth_0 : decode b_X10_sixteenth 0 = .ok (.iload_n 0, 1) := by decide +kernel
theorem d_X10_sixteenth_1 : decode b_X10_sixteenth 1 = .ok (.invokestatic 78, 3) := by decide +kernel
theorem d_X10_sixteenth_4 : decode b_X10_sixteenth 4 = .ok (.ifCond .eq 8, 3) := by decide +kernel
theorem d_X10_sixteenth_7 : decode b_X10_sixteenth 7 = .ok (.iload_n 0, 1) := by decide +kernel
theorem d_X10_sixteenth_8 : decode b_X10_sixteenth 8 = .ok (.bipush 48, 2) := by decide +kernel
theorem d_X10_sixteenth_10 : decode b_X10_sixteenth 10 = .ok (.isub, 1) := by decide +kernel
theorem d_X10_sixteenth_11 : decode b_X10_sixteenth 11 = .ok (.ireturn, 1) := by decide +kernel
theorem d_X10_sixteenth_12 : decode b_X10_sixteenth 12 = .ok (.iload_n 0, 1) := by decide +kernel
theorem d_X10_sixteenth_13 : decode b_X10_sixteenth 13 = .ok (.bipush 97, 2) := by decide +kernel
theorem d_X10_sixteenth_15 : decode b_X10_sixteenth 15 = .ok (.if_icmp .lt 17, 3) := by decide +kernel
theorem d_X10_sixteenth_18 : decode b_X10_sixteenth 18 = .ok (.iload_n 0, 1) := by decide +kernel
theorem d_X10_sixteenth_19 : decode b_X10_sixteenth 19 = .ok (.bipush 102, 2) := by decide +kernel
theorem d_X10_sixteenth_21 : decode b_X10_sixteenth 21 = .ok (.if_icmp .gt 11, 3) := by decide +kernel
theorem d_X10_sixteenth_24 : decode b_X10_sixteenth 24 = .ok (.iload_n 0, 1) := by decide +kernel
theorem d_X10_sixteenth_25 : decode b_X10_sixteenth 25 = .ok (.bipush 97, 2) := by decide +kernel
theorem d_X10_sixteenth_27 : decode b_X10_sixteenth 27 = .ok (.isub, 1) := by decide +kernel
theorem d_X10_sixteenth_28 : decode b_X10_sixteenth 28 = .ok (.bipush 10, 2) := by decide +kernel
theorem d_X10_sixteenth_30 : decode b_X10_sixteenth 30 = .ok (.iadd, 1) := by decide +kernel
theorem d_X10_sixteenth_31 : decode b_X10_sixteenth 31 = .ok (.ireturn, 1) := by decide +kernel
theorem d_X10_sixteenth_32 : decode b_X10_sixteenth 32 = .ok (.iload_n 0, 1) := by decide +kernel
theorem d_X10_sixteenth_33 : decode b_X10_sixteenth 33 = .ok (.bipush 65, 2) := by decide +kernel
theorem d_X10_sixteenth_35 : decode b_X10_sixteenth 35 = .ok (.if_icmp .lt 19, 3) := by decide +kernel
theorem d_X10_sixteenth_38 : decode b_X10_sixteenth 38 = .ok (.iload_n 0, 1) := by decide +kernel
theorem d_X10_sixteenth_39 : decode b_X10_sixteenth 39 = .ok (.bipush 70, 2) := by decide +kernel
theorem d_X10_sixteenth_41 : decode b_X10_sixteenth 41 = .ok (.if_icmp .gt 13, 3) := by decide +kernel
theorem d_X10_sixteenth_44 : decode b_X10_sixteenth 44 = .ok (.iload_n 0, 1) := by decide +kernel
theorem d_X10_sixteenth_45 : decode b_X10_sixteenth 45 = .ok (.bipush 65, 2) := by decide +kernel
theorem d_X10_sixteenth_47 : decode b_X10_sixteenth 47 = .ok (.isub, 1) := by decide +kernel
theorem d_X10_sixteenth_48 : decode b_X10_sixteenth 48 = .ok (.bipush 10, 2) := by decide +kernel
theorem d_X10_sixteenth_50 : decode b_X10_sixteenth 50 = .ok (.iadd, 1) := by decide +kernel
theorem d_X10_sixteenth_51 : decode b_X10_sixteenth 51 = .ok (.goto 4, 3) := by decide +kernel
theorem d_X10_sixteenth_54 : decode b_X10_sixteenth 54 = .ok (.iconst (-1), 1) := by decide +kernel
theorem d_X10_sixteenth_55 : decode b_X10_sixteenth 55 = .ok (.ireturn, 1) := by decide +kernel
theorem d_X10_sixteens_0 : decode b_X10_sixteens 0 = .ok (.iconst 0, 1) := by decide +kernel
theorem d_X10_sixteens_1 : decode b_X10_sixteens 1 = .ok (.istore_n 1, 1) := by decide +kernel
theorem d_X10_sixteens_2 : decode b_X10_sixteens 2 = .ok (.iconst 2, 1) := by decide +kernel
theorem d_X10_sixteens_3 : decode b_X10_sixteens 3 = .ok (.istore_n 2, 1) := by decide +kernel
theorem d_X10_sixteens_4 : decode b_X10_sixteens 4 = .ok (.aload_n 0, 1) := by decide +kernel
theorem d_X10_sixteens_5 : decode b_X10_sixteens 5 = .ok (.aload_n 0, 1) := by decide +kernel
theorem d_X10_sixteens_6 : decode b_X10_sixteens 6 = .ok (.getfield 35, 3) := by decide +kernel
theorem d_X10_sixteens_9 : decode b_X10_sixteens 9 = .ok (.iconst 2, 1) := by decide +kernel
theorem d_X10_sixteens_10 : decode b_X10_sixteens 10 = .ok (.iadd, 1) := by decide +kernel
theorem d_X10_sixteens_11 : decode b_X10_sixteens 11 = .ok (.invokevirtual 51, 3) := by decide +kernel
theorem d_X10_sixteens_14 : decode b_X10_sixteens 14 = .ok (.invokestatic 81, 3) := by decide +kernel
theorem d_X10_sixteens_17 : decode b_X10_sixteens 17 = .ok (.istore_n 3, 1) := by decide +kernel
theorem d_X10_sixteens_18 : decode b_X10_sixteens 18 = .ok (.iload_n 2, 1) := by decide +kernel
theorem d_X10_sixteens_19 : decode b_X10_sixteens 19 = .ok (.aload_n 0, 1) := by decide +kernel
theorem d_X10_sixteens_20 : decode b_X10_sixteens 20 = .ok (.getfield 31, 3) := by decide +kernel
theorem d_X10_sixteens_23 : decode b_X10_sixteens 23 = .ok (.if_icmp .gt 36, 3) := by decide +kernel
theorem d_X10_sixteens_26 : decode b_X10_sixteens 26 = .ok (.iload_n 3, 1) := by decide +kernel
theorem d_X10_sixteens_27 : decode b_X10_sixteens 27 = .ok (.ifCond .lt 32, 3) := by decide +kernel
theorem d_X10_sixteens_30 : decode b_X10_sixteens 30 = .ok (.iload_n 1, 1) := by decide +kernel
theorem d_X10_sixteens_31 : decode b_X10_sixteens 31 = .ok (.bipush 16, 2) := by decide +kernel
theorem d_X10_sixteens_33 : decode b_X10_sixteens 33 = .ok (.imul, 1) := by decide +kernel
theorem d_X10_sixteens_34 : decode b_X10_sixteens 34 = .ok (.iload_n 3, 1) := by decide +kernel
theorem d_X10_sixteens_35 : decode b_X10_sixteens 35 = .ok (.iadd, 1) := by decide +kernel
theorem d_X10_sixteens_36 : decode b_X10_sixteens 36 = .ok (.istore_n 1, 1) := by decide +kernel
theorem d_X10_sixteens_37 : decode b_X10_sixteens 37 = .ok (.aload_n 0, 1) := by decide +kernel
theorem d_X10_sixteens_38 : decode b_X10_sixteens 38 = .ok (.aload_n 0, 1) := by decide +kernel
theorem d_X10_sixteens_39 : decode b_X10_sixteens 39 = .ok (.getfield 35, 3) := by decide +kernel
theorem d_X10_sixteens_42 : decode b_X10_sixteens 42 = .ok (.iload_n 2, 1) := by decide +kernel
theorem d_X10_sixteens_43 : decode b_X10_sixteens 43 = .ok (.iadd, 1) := by decide +kernel
theorem d_X10_sixteens_44 : decode b_X10_sixteens 44 = .ok (.iconst 1, 1) := by decide +kernel
theorem d_X10_sixteens_45 : decode b_X10_sixteens 45 = .ok (.iadd, 1) := by decide +kernel
theorem d_X10_sixteens_46 : decode b_X10_sixteens 46 = .ok (.invokevirtual 51, 3) := by decide +kernel
theorem d_X10_sixteens_49 : decode b_X10_sixteens 49 = .ok (.invokestatic 81, 3) := by decide +kernel
theorem d_X10_sixteens_52 : decode b_X10_sixteens 52 = .ok (.istore_n 3, 1) := by decide +kernel
theorem d_X10_sixteens_53 : decode b_X10_sixteens 53 = .ok (.iinc 2 1, 3) := by decide +kernel
theorem d_X10_sixteens_56 : decode b_X10_sixteens 56 = .ok (.goto (-38), 3) := by decide +kernel
theorem d_X10_sixteens_59 : decode b_X10_sixteens 59 = .ok (.iload_n 2, 1) := by decide +kernel
theorem d_X10_sixteens_60 : decode b_X10_sixteens 60 = .ok (.bipush 10, 2) := by decide +kernel
theorem d_X10_sixteens_62 : decode b_X10_sixteens 62 = .ok (.if_icmp .le 14, 3) := by decide +kernel
theorem d_X10_sixteens_65 : decode b_X10_sixteens 65 = .ok (.aload_n 0, 1) := by decide +kernel
theorem d_X10_sixteens_66 : decode b_X10_sixteens 66 = .ok (.aload_n 0, 1) := by decide +kernel
theorem d_X10_sixteens_67 : decode b_X10_sixteens 67 = .ok (.getfield 35, 3) := by decide +kernel
theorem d_X10_sixteens_70 : decode b_X10_sixteens 70 = .ok (.invokevirtual 65, 3) := by decide +kernel
theorem d_X10_sixteens_73 : decode b_X10_sixteens 73 = .ok (.goto 10, 3) := by decide +kernel
theorem d_X10_sixteens_76 : decode b_X10_sixteens 76 = .ok (.aload_n 0, 1) := by decide +kernel
theorem d_X10_sixteens_77 : decode b_X10_sixteens 77 = .ok (.iconst 3, 1) := by decide +kernel
theorem d_X10_sixteens_78 : decode b_X10_sixteens 78 = .ok (.iload_n 1, 1) := by decide +kernel
theorem d_X10_sixteens_79 : decode b_X10_sixteens 79 = .ok (.iload_n 2, 1) := by decide +kernel
theorem d_X10_sixteens_80 : decode b_X10_sixteens 80 = .ok (.invokevirtual 68, 3) := by decide +kernel
theorem d_X10_sixteens_83 : decode b_X10_sixteens 83 = .ok (.ireturn, 1) := by decide +kernel
theorem d_X10_character_0 : decode b_X10_character 0 = .ok (.aload_n 0, 1) := by decide +kernel
theorem d_X10_character_1 : decode b_X10_character 1 = .ok (.aload_n 0, 1) := by decide +kernel
theorem d_X10_character_2 : decode b_X10_character 2 = .ok (.getfield 35, 3) := by decide +kernel
theorem d_X10_character_5 : decode b_X10_character 5 = .ok (.iconst 1, 1) := by decide +kernel
theorem d_X10_character_6 : decode b_X10_character 6 = .ok (.iadd, 1) := by decide +kernel
theorem d_X10_character_7 : decode b_X10_character 7 = .ok (.bipush 39, 2) := by decide +kernel
theorem d_X10_character_9 : decode b_X10_character 9 = .ok (.invokevirtual 133, 3) := by decide +kernel
theorem d_X10_character_12 : decode b_X10_character 12 = .ok (.istore_n 1, 1) := by decide +kernel
theorem d_X10_character_13 : decode b_X10_character 13 = .ok (.iconst 1, 1) := by decide +kernel
theorem d_X10_character_14 : decode b_X10_character 14 = .ok (.aload_n 0, 1) := by decide +kernel
theorem d_X10_character_15 : decode b_X10_character 15 = .ok (.aload_n 0, 1) := by decide +kernel
theorem d_X10_character_16 : decode b_X10_character 16 = .ok (.getfield 35, 3) := by decide +kernel
theorem d_X10_character_19 : decode b_X10_character 19 = .ok (.iconst 1, 1) := by decide +kernel
theorem d_X10_character_20 : decode b_X10_character 20 = .ok (.iadd, 1) := by decide +kernel
theorem d_X10_character_21 : decode b_X10_character 21 = .ok (.invokevirtual 137, 3) := by decide +kernel
theorem d_X10_character_24 : decode b_X10_character 24 = .ok (.iadd, 1) := by decide +kernel
theorem d_X10_character_25 : decode b_X10_character 25 = .ok (.istore_n 2, 1) := by decide +kernel
theorem d_X10_character_26 : decode b_X10_character 26 = .ok (.iload_n 1, 1) := by decide +kernel
theorem d_X10_character_27 : decode b_X10_character 27 = .ok (.ifCond .lt 18, 3) := by decide +kernel
theorem d_X10_character_30 : decode b_X10_character 30 = .ok (.aload_n 0, 1) := by decide +kernel
theorem d_X10_character_31 : decode b_X10_character 31 = .ok (.aload_n 0, 1) := by decide +kernel
theorem d_X10_character_32 : decode b_X10_character 32 = .ok (.getfield 35, 3) := by decide +kernel
theorem d_X10_character_35 : decode b_X10_character 35 = .ok (.iload_n 2, 1) := by decide +kernel
theorem d_X10_character_36 : decode b_X10_character 36 = .ok (.iadd, 1) := by decide +kernel
theorem d_X10_character_37 : decode b_X10_character 37 = .ok (.invokevirtual 51, 3) := by decide +kernel
theorem d_X10_character_40 : decode b_X10_character 40 = .ok (.bipush 39, 2) := by decide +kernel
theorem d_X10_character_42 : decode b_X10_character 42 = .ok (.if_icmp .eq 14, 3) := by decide +kernel
theorem d_X10_character_45 : decode b_X10_character 45 = .ok (.aload_n 0, 1) := by decide +kernel
theorem d_X10_character_46 : decode b_X10_character 46 = .ok (.aload_n 0, 1) := by decide +kernel
theorem d_X10_character_47 : decode b_X10_character 47 = .ok (.getfield 35, 3) := by decide +kernel
theorem d_X10_character_50 : decode b_X10_character 50 = .ok (.invokevirtual 65, 3) := by decide +kernel
theorem d_X10_character_53 : decode b_X10_character 53 = .ok (.goto 12, 3) := by decide +kernel
theorem d_X10_character_56 : decode b_X10_character 56 = .ok (.aload_n 0, 1) := by decide +kernel
theorem d_X10_character_57 : decode b_X10_character 57 = .ok (.iconst 3, 1) := by decide +kernel
theorem d_X10_character_58 : decode b_X10_character 58 = .ok (.iload_n 1, 1) := by decide +kernel
theorem d_X10_character_59 : decode b_X10_character 59 = .ok (.iload_n 2, 1) := by decide +kernel
theorem d_X10_character_60 : decode b_X10_character 60 = .ok (.iconst 1, 1) := by decide +kernel
theorem d_X10_character_61 : decode b_X10_character 61 = .ok (.iadd, 1) := by decide +kernel
theorem d_X10_character_62 : decode b_X10_character 62 = .ok (.invokevirtual 68, 3) := by decide +kernel
theorem d_X10_character_65 : decode b_X10_character 65 = .ok (.ireturn, 1) := by decide +kernel
theorem d_X10_codeAt_0 : decode b_X10_codeAt 0 = .ok (.aload_n 0, 1) := by decide +kernel
theorem d_X10_codeAt_1 : decode b_X10_codeAt 1 = .ok (.iload_n 1, 1) := by decide +kernel
theorem d_X10_codeAt_2 : decode b_X10_codeAt 2 = .ok (.invokevirtual 51, 3) := by decide +kernel
theorem d_X10_codeAt_5 : decode b_X10_codeAt 5 = .ok (.istore_n 3, 1) := by decide +kernel
theorem d_X10_codeAt_6 : decode b_X10_codeAt 6 = .ok (.iload_n 3, 1) := by decide +kernel
theorem d_X10_codeAt_7 : decode b_X10_codeAt 7 = .ok (.bipush 92, 2) := by decide +kernel
theorem d_X10_codeAt_9 : decode b_X10_codeAt 9 = .ok (.if_icmp .eq 26, 3) := by decide +kernel
theorem d_X10_codeAt_12 : decode b_X10_codeAt 12 = .ok (.iload_n 3, 1) := by decide +kernel
theorem d_X10_codeAt_13 : decode b_X10_codeAt 13 = .ok (.bipush 32, 2) := by decide +kernel
theorem d_X10_codeAt_15 : decode b_X10_codeAt 15 = .ok (.if_icmp .lt 14, 3) := by decide +kernel
theorem d_X10_codeAt_18 : decode b_X10_codeAt 18 = .ok (.iload_n 3, 1) := by decide +kernel
theorem d_X10_codeAt_19 : decode b_X10_codeAt 19 = .ok (.bipush 126, 2) := by decide +kernel
theorem d_X10_codeAt_21 : decode b_X10_codeAt 21 = .ok (.if_icmp .gt 8, 3) := by decide +kernel
theorem d_X10_codeAt_24 : decode b_X10_codeAt 24 = .ok (.iload_n 3, 1) := by decide +kernel
theorem d_X10_codeAt_25 : decode b_X10_codeAt 25 = .ok (.iload_n 2, 1) := by decide +kernel
theorem d_X10_codeAt_26 : decode b_X10_codeAt 26 = .ok (.if_icmp .ne 7, 3) := by decide +kernel
theorem d_X10_codeAt_29 : decode b_X10_codeAt 29 = .ok (.iconst (-1), 1) := by decide +kernel
theorem d_X10_codeAt_30 : decode b_X10_codeAt 30 = .ok (.goto 4, 3) := by decide +kernel
theorem d_X10_codeAt_33 : decode b_X10_codeAt 33 = .ok (.iload_n 3, 1) := by decide +kernel
theorem d_X10_codeAt_34 : decode b_X10_codeAt 34 = .ok (.ireturn, 1) := by decide +kernel
theorem d_X10_codeAt_35 : decode b_X10_codeAt 35 = .ok (.aload_n 0, 1) := by decide +kernel
theorem d_X10_codeAt_36 : decode b_X10_codeAt 36 = .ok (.iload_n 1, 1) := by decide +kernel
theorem d_X10_codeAt_37 : decode b_X10_codeAt 37 = .ok (.iconst 1, 1) := by decide +kernel
theorem d_X10_codeAt_38 : decode b_X10_codeAt 38 = .ok (.iadd, 1) := by decide +kernel
theorem d_X10_codeAt_39 : decode b_X10_codeAt 39 = .ok (.invokevirtual 51, 3) := by decide +kernel
theorem d_X10_codeAt_42 : decode b_X10_codeAt 42 = .ok (.istore 4, 2) := by decide +kernel
theorem d_X10_codeAt_44 : decode b_X10_codeAt 44 = .ok (.iload 4, 2) := by decide +kernel
theorem d_X10_codeAt_46 : decode b_X10_codeAt 46 = .ok (.lookupswitch 58 #[(34, 55), (39, 55), (48, 53), (92, 55), (110, 50)], 50) := by decide +kernel
theorem d_X10_codeAt_96 : decode b_X10_codeAt 96 = .ok (.bipush 10, 2) := by decide +kernel
theorem d_X10_codeAt_98 : decode b_X10_codeAt 98 = .ok (.ireturn, 1) := by decide +kernel
theorem d_X10_codeAt_99 : decode b_X10_codeAt 99 = .ok (.iconst 0, 1) := by decide +kernel
theorem d_X10_codeAt_100 : decode b_X10_codeAt 100 = .ok (.ireturn, 1) := by decide +kernel
theorem d_X10_codeAt_101 : decode b_X10_codeAt 101 = .ok (.iload 4, 2) := by decide +kernel
theorem d_X10_codeAt_103 : decode b_X10_codeAt 103 = .ok (.ireturn, 1) := by decide +kernel
theorem d_X10_codeAt_104 : decode b_X10_codeAt 104 = .ok (.iconst (-1), 1) := by decide +kernel
theorem d_X10_codeAt_105 : decode b_X10_codeAt 105 = .ok (.ireturn, 1) := by decide +kernel
theorem d_X10_widthAt_0 : decode b_X10_widthAt 0 = .ok (.aload_n 0, 1) := by decide +kernel
theorem d_X10_widthAt_1 : decode b_X10_widthAt 1 = .ok (.iload_n 1, 1) := by decide +kernel
theorem d_X10_widthAt_2 : decode b_X10_widthAt 2 = .ok (.invokevirtual 51, 3) := by decide +kernel
theorem d_X10_widthAt_5 : decode b_X10_widthAt 5 = .ok (.bipush 92, 2) := by decide +kernel
theorem d_X10_widthAt_7 : decode b_X10_widthAt 7 = .ok (.if_icmp .ne 7, 3) := by decide +kernel
theorem d_X10_widthAt_10 : decode b_X10_widthAt 10 = .ok (.iconst 2, 1) := by decide +kernel
theorem d_X10_widthAt_11 : decode b_X10_widthAt 11 = .ok (.goto 4, 3) := by decide +kernel
theorem d_X10_widthAt_14 : decode b_X10_widthAt 14 = .ok (.iconst 1, 1) := by decide +kernel
theorem d_X10_widthAt_15 : decode b_X10_widthAt 15 = .ok (.ireturn, 1) := by decide +kernel
theorem d_X10_string_0 : decode b_X10_string 0 = .ok (.iconst 1, 1) := by decide +kernel
theorem d_X10_string_1 : decode b_X10_string 1 = .ok (.istore_n 1, 1) := by decide +kernel
theorem d_X10_string_2 : decode b_X10_string 2 = .ok (.iconst 0, 1) := by decide +kernel
theorem d_X10_string_3 : decode b_X10_string 3 = .ok (.istore_n 2, 1) := by decide +kernel
theorem d_X10_string_4 : decode b_X10_string 4 = .ok (.iload_n 2, 1) := by decide +kernel
theorem d_X10_string_5 : decode b_X10_string 5 = .ok (.sipush 200, 3) := by decide +kernel
theorem d_X10_string_8 : decode b_X10_string 8 = .ok (.if_icmp .gt 61, 3) := by decide +kernel
theorem d_X10_string_11 : decode b_X10_string 11 = .ok (.aload_n 0, 1) := by decide +kernel
theorem d_X10_string_12 : decode b_X10_string 12 = .ok (.aload_n 0, 1) := by decide +kernel
theorem d_X10_string_13 : decode b_X10_string 13 = .ok (.getfield 35, 3) := by decide +kernel
theorem d_X10_string_16 : decode b_X10_string 16 = .ok (.iload_n 1, 1) := by decide +kernel
theorem d_X10_string_17 : decode b_X10_string 17 = .ok (.iadd, 1) := by decide +kernel
theorem d_X10_string_18 : decode b_X10_string 18 = .ok (.invokevirtual 51, 3) := by decide +kernel
theorem d_X10_string_21 : decode b_X10_string 21 = .ok (.bipush 34, 2) := by decide +kernel
theorem d_X10_string_23 : decode b_X10_string 23 = .ok (.if_icmp .eq 46, 3) := by decide +kernel
theorem d_X10_string_26 : decode b_X10_string 26 = .ok (.aload_n 0, 1) := by decide +kernel
theorem d_X10_string_27 : decode b_X10_string 27 = .ok (.aload_n 0, 1) := by decide +kernel
theorem d_X10_string_28 : decode b_X10_string 28 = .ok (.getfield 35, 3) := by decide +kernel
theorem d_X10_string_31 : decode b_X10_string 31 = .ok (.iload_n 1, 1) := by decide +kernel
theorem d_X10_string_32 : decode b_X10_string 32 = .ok (.iadd, 1) := by decide +kernel
theorem d_X10_string_33 : decode b_X10_string 33 = .ok (.bipush 34, 2) := by decide +kernel
theorem d_X10_string_35 : decode b_X10_string 35 = .ok (.invokevirtual 133, 3) := by decide +kernel
theorem d_X10_string_38 : decode b_X10_string 38 = .ok (.ifCond .ge 12, 3) := by decide +kernel
theorem d_X10_string_41 : decode b_X10_string 41 = .ok (.aload_n 0, 1) := by decide +kernel
theorem d_X10_string_42 : decode b_X10_string 42 = .ok (.aload_n 0, 1) := by decide +kernel
theorem d_X10_string_43 : decode b_X10_string 43 = .ok (.getfield 35, 3) := by decide +kernel
theorem d_X10_string_46 : decode b_X10_string 46 = .ok (.invokevirtual 65, 3) := by decide +kernel
theorem d_X10_string_49 : decode b_X10_string 49 = .ok (.ireturn, 1) := by decide +kernel
theorem d_X10_string_50 : decode b_X10_string 50 = .ok (.iload_n 1, 1) := by decide +kernel
theorem d_X10_string_51 : decode b_X10_string 51 = .ok (.aload_n 0, 1) := by decide +kernel
theorem d_X10_string_52 : decode b_X10_string 52 = .ok (.aload_n 0, 1) := by decide +kernel
theorem d_X10_string_53 : decode b_X10_string 53 = .ok (.getfield 35, 3) := by decide +kernel
theorem d_X10_string_56 : decode b_X10_string 56 = .ok (.iload_n 1, 1) := by decide +kernel
theorem d_X10_string_57 : decode b_X10_string 57 = .ok (.iadd, 1) := by decide +kernel
theorem d_X10_string_58 : decode b_X10_string 58 = .ok (.invokevirtual 137, 3) := by decide +kernel
theorem d_X10_string_61 : decode b_X10_string 61 = .ok (.iadd, 1) := by decide +kernel
theorem d_X10_string_62 : decode b_X10_string 62 = .ok (.istore_n 1, 1) := by decide +kernel
theorem d_X10_string_63 : decode b_X10_string 63 = .ok (.iinc 2 1, 3) := by decide +kernel
theorem d_X10_string_66 : decode b_X10_string 66 = .ok (.goto (-62), 3) := by decide +kernel
theorem d_X10_string_69 : decode b_X10_string 69 = .ok (.iload_n 2, 1) := by decide +kernel
theorem d_X10_string_70 : decode b_X10_string 70 = .ok (.sipush 200, 3) := by decide +kernel
theorem d_X10_string_73 : decode b_X10_string 73 = .ok (.if_icmp .le 14, 3) := by decide +kernel
theorem d_X10_string_76 : decode b_X10_string 76 = .ok (.aload_n 0, 1) := by decide +kernel
theorem d_X10_string_77 : decode b_X10_string 77 = .ok (.aload_n 0, 1) := by decide +kernel
theorem d_X10_string_78 : decode b_X10_string 78 = .ok (.getfield 35, 3) := by decide +kernel
theorem d_X10_string_81 : decode b_X10_string 81 = .ok (.invokevirtual 65, 3) := by decide +kernel
theorem d_X10_string_84 : decode b_X10_string 84 = .ok (.goto 12, 3) := by decide +kernel
theorem d_X10_string_87 : decode b_X10_string 87 = .ok (.aload_n 0, 1) := by decide +kernel
theorem d_X10_string_88 : decode b_X10_string 88 = .ok (.iconst 4, 1) := by decide +kernel
theorem d_X10_string_89 : decode b_X10_string 89 = .ok (.iload_n 2, 1) := by decide +kernel
theorem d_X10_string_90 : decode b_X10_string 90 = .ok (.iload_n 1, 1) := by decide +kernel
theorem d_X10_string_91 : decode b_X10_string 91 = .ok (.iconst 1, 1) := by decide +kernel
theorem d_X10_string_92 : decode b_X10_string 92 = .ok (.iadd, 1) := by decide +kernel
theorem d_X10_string_93 : decode b_X10_string 93 = .ok (.invokevirtual 68, 3) := by decide +kernel
theorem d_X10_string_96 : decode b_X10_string 96 = .ok (.ireturn, 1) := by decide +kernel
theorem d_X10_sign_24 : decode b_X10_sign 24 = .ok (.iload_n 2, 1) := by decide +kernel
theorem d_X10_sign_25 : decode b_X10_sign 25 = .ok (.ifCond .le 32, 3) := by decide +kernel
theorem d_X10_sign_28 : decode b_X10_sign 28 = .ok (.aload_n 0, 1) := by decide +kernel
theorem d_X10_sign_29 : decode b_X10_sign 29 = .ok (.ldc 143, 2) := by decide +kernel
theorem d_X10_sign_57 : decode b_X10_sign 57 = .ok (.aload_n 0, 1) := by decide +kernel
theorem d_X10_sign_58 : decode b_X10_sign 58 = .ok (.aload_n 0, 1) := by decide +kernel
theorem d_X10_sign_59 : decode b_X10_sign 59 = .ok (.getfield 35, 3) := by decide +kernel
theorem d_X10_sign_62 : decode b_X10_sign 62 = .ok (.invokevirtual 65, 3) := by decide +kernel
theorem d_X10_sign_65 : decode b_X10_sign 65 = .ok (.ireturn, 1) := by decide +kernel
theorem d_X10_mayGoOn_0 : decode b_X10_mayGoOn 0 = .ok (.iload_n 0, 1) := by decide +kernel
theorem d_X10_mayGoOn_1 : decode b_X10_mayGoOn 1 = .ok (.bipush 61, 2) := by decide +kernel
theorem d_X10_mayGoOn_3 : decode b_X10_mayGoOn 3 = .ok (.if_icmp .eq 39, 3) := by decide +kernel
theorem d_X10_mayGoOn_6 : decode b_X10_mayGoOn 6 = .ok (.iload_n 0, 1) := by decide +kernel
theorem d_X10_mayGoOn_7 : decode b_X10_mayGoOn 7 = .ok (.bipush 60, 2) := by decide +kernel
theorem d_X10_mayGoOn_9 : decode b_X10_mayGoOn 9 = .ok (.if_icmp .eq 33, 3) := by decide +kernel
theorem d_X10_mayGoOn_12 : decode b_X10_mayGoOn 12 = .ok (.iload_n 0, 1) := by decide +kernel
theorem d_X10_mayGoOn_13 : decode b_X10_mayGoOn 13 = .ok (.bipush 62, 2) := by decide +kernel
theorem d_X10_mayGoOn_15 : decode b_X10_mayGoOn 15 = .ok (.if_icmp .eq 27, 3) := by decide +kernel
theorem d_X10_mayGoOn_18 : decode b_X10_mayGoOn 18 = .ok (.iload_n 0, 1) := by decide +kernel
theorem d_X10_mayGoOn_19 : decode b_X10_mayGoOn 19 = .ok (.bipush 43, 2) := by decide +kernel
theorem d_X10_mayGoOn_21 : decode b_X10_mayGoOn 21 = .ok (.if_icmp .eq 21, 3) := by decide +kernel
theorem d_X10_mayGoOn_24 : decode b_X10_mayGoOn 24 = .ok (.iload_n 0, 1) := by decide +kernel
theorem d_X10_mayGoOn_25 : decode b_X10_mayGoOn 25 = .ok (.bipush 45, 2) := by decide +kernel
theorem d_X10_mayGoOn_27 : decode b_X10_mayGoOn 27 = .ok (.if_icmp .eq 15, 3) := by decide +kernel
theorem d_X10_mayGoOn_30 : decode b_X10_mayGoOn 30 = .ok (.iload_n 0, 1) := by decide +kernel
theorem d_X10_mayGoOn_31 : decode b_X10_mayGoOn 31 = .ok (.bipush 38, 2) := by decide +kernel
theorem d_X10_mayGoOn_33 : decode b_X10_mayGoOn 33 = .ok (.if_icmp .eq 9, 3) := by decide +kernel
theorem d_X10_mayGoOn_36 : decode b_X10_mayGoOn 36 = .ok (.iload_n 0, 1) := by decide +kernel
theorem d_X10_mayGoOn_37 : decode b_X10_mayGoOn 37 = .ok (.bipush 124, 2) := by decide +kernel
theorem d_X10_mayGoOn_39 : decode b_X10_mayGoOn 39 = .ok (.if_icmp .ne 7, 3) := by decide +kernel
theorem d_X10_mayGoOn_42 : decode b_X10_mayGoOn 42 = .ok (.iconst 1, 1) := by decide +kernel
theorem d_X10_mayGoOn_43 : decode b_X10_mayGoOn 43 = .ok (.goto 4, 3) := by decide +kernel
theorem d_X10_mayGoOn_46 : decode b_X10_mayGoOn 46 = .ok (.iconst 0, 1) := by decide +kernel
theorem d_X10_mayGoOn_47 : decode b_X10_mayGoOn 47 = .ok (.ireturn, 1) := by decide +kernel
theorem d_X3_read_32 : decode b_X3_read 32 = .ok (.iload_n 1, 1) := by decide +kernel
theorem d_X3_read_33 : decode b_X3_read 33 = .ok (.ifCond .le 166, 3) := by decide +kernel
theorem d_X3_read_36 : decode b_X3_read 36 = .ok (.aload_n 0, 1) := by decide +kernel
theorem d_X3_read_37 : decode b_X3_read 37 = .ok (.getfield 41, 3) := by decide +kernel
theorem d_X3_read_40 : decode b_X3_read 40 = .ok (.ifCond .ge 159, 3) := by decide +kernel
theorem d_X3_read_43 : decode b_X3_read 43 = .ok (.aload_n 0, 1) := by decide +kernel
theorem d_X3_read_44 : decode b_X3_read 44 = .ok (.getfield 53, 3) := by decide +kernel
theorem d_X3_read_47 : decode b_X3_read 47 = .ok (.ifCond .eq 152, 3) := by decide +kernel
theorem d_X3_read_50 : decode b_X3_read 50 = .ok (.aload_n 0, 1) := by decide +kernel
theorem d_X3_read_51 : decode b_X3_read 51 = .ok (.getfield 53, 3) := by decide +kernel
theorem d_X3_read_54 : decode b_X3_read 54 = .ok (.bipush 7, 2) := by decide +kernel
theorem d_X3_read_56 : decode b_X3_read 56 = .ok (.if_icmp .ne 7, 3) := by decide +kernel
theorem d_X3_read_63 : decode b_X3_read 63 = .ok (.aload_n 0, 1) := by decide +kernel
theorem d_X3_read_64 : decode b_X3_read 64 = .ok (.getfield 53, 3) := by decide +kernel
theorem d_X3_read_67 : decode b_X3_read 67 = .ok (.bipush 8, 2) := by decide +kernel
theorem d_X3_read_69 : decode b_X3_read 69 = .ok (.if_icmp .ne 7, 3) := by decide +kernel
theorem d_X3_read_76 : decode b_X3_read 76 = .ok (.iconst 0, 1) := by decide +kernel
theorem d_X3_read_77 : decode b_X3_read 77 = .ok (.istore_n 2, 1) := by decide +kernel
theorem d_X3_read_78 : decode b_X3_read 78 = .ok (.iload_n 2, 1) := by decide +kernel
theorem d_X3_read_79 : decode b_X3_read 79 = .ok (.ifCond .eq 7, 3) := by decide +kernel
theorem d_X3_read_86 : decode b_X3_read 86 = .ok (.aload_n 0, 1) := by decide +kernel
theorem d_X3_read_87 : decode b_X3_read 87 = .ok (.getfield 53, 3) := by decide +kernel
theorem d_X3_read_90 : decode b_X3_read 90 = .ok (.bipush 6, 2) := by decide +kernel
theorem d_X3_read_92 : decode b_X3_read 92 = .ok (.if_icmp .ne 7, 3) := by decide +kernel
theorem d_X3_read_99 : decode b_X3_read 99 = .ok (.iconst 0, 1) := by decide +kernel
theorem d_X3_read_100 : decode b_X3_read 100 = .ok (.istore_n 3, 1) := by decide +kernel
theorem d_X3_read_101 : decode b_X3_read 101 = .ok (.aload_n 0, 1) := by decide +kernel
theorem d_X3_read_102 : decode b_X3_read 102 = .ok (.iload_n 3, 1) := by decide +kernel
theorem d_X3_read_103 : decode b_X3_read 103 = .ok (.ifCond .eq 8, 3) := by decide +kernel
theorem d_X3_read_111 : decode b_X3_read 111 = .ok (.iconst 5, 1) := by decide +kernel
theorem d_X3_read_112 : decode b_X3_read 112 = .ok (.invokevirtual 56, 3) := by decide +kernel
theorem d_X3_read_115 : decode b_X3_read 115 = .ok (.iload_n 3, 1) := by decide +kernel
theorem d_X3_read_116 : decode b_X3_read 116 = .ok (.ifCond .eq 7, 3) := by decide +kernel
theorem d_X3_read_123 : decode b_X3_read 123 = .ok (.aload_n 0, 1) := by decide +kernel
theorem d_X3_read_124 : decode b_X3_read 124 = .ok (.invokevirtual 60, 3) := by decide +kernel
theorem d_X3_read_127 : decode b_X3_read 127 = .ok (.istore 4, 2) := by decide +kernel
theorem d_X3_read_129 : decode b_X3_read 129 = .ok (.aload_n 0, 1) := by decide +kernel
theorem d_X3_read_130 : decode b_X3_read 130 = .ok (.getfield 44, 3) := by decide +kernel
theorem d_X3_read_133 : decode b_X3_read 133 = .ok (.istore 5, 2) := by decide +kernel
theorem d_X3_read_135 : decode b_X3_read 135 = .ok (.aload_n 0, 1) := by decide +kernel
theorem d_X3_read_136 : decode b_X3_read 136 = .ok (.iconst 2, 1) := by decide +kernel
theorem d_X3_read_137 : decode b_X3_read 137 = .ok (.invokevirtual 56, 3) := by decide +kernel
theorem d_X3_read_140 : decode b_X3_read 140 = .ok (.iload_n 3, 1) := by decide +kernel
theorem d_X3_read_141 : decode b_X3_read 141 = .ok (.ifCond .ne 24, 3) := by decide +kernel
theorem d_X3_read_144 : decode b_X3_read 144 = .ok (.aload_n 0, 1) := by decide +kernel
theorem d_X3_read_145 : decode b_X3_read 145 = .ok (.getfield 53, 3) := by decide +kernel
theorem d_X3_read_148 : decode b_X3_read 148 = .ok (.bipush 20, 2) := by decide +kernel
theorem d_X3_read_150 : decode b_X3_read 150 = .ok (.if_icmp .eq 15, 3) := by decide +kernel
theorem d_X3_read_165 : decode b_X3_read 165 = .ok (.aload_n 0, 1) := by decide +kernel
theorem d_X3_read_166 : decode b_X3_read 166 = .ok (.iload 5, 2) := by decide +kernel
theorem d_X3_read_168 : decode b_X3_read 168 = .ok (.iload 4, 2) := by decide +kernel
theorem d_X3_read_170 : decode b_X3_read 170 = .ok (.iload_n 2, 1) := by decide +kernel
theorem d_X3_read_171 : decode b_X3_read 171 = .ok (.invokevirtual 68, 3) := by decide +kernel
theorem d_X3_read_174 : decode b_X3_read 174 = .ok (.ifCond .eq 19, 3) := by decide +kernel
theorem d_X3_read_177 : decode b_X3_read 177 = .ok (.aload_n 0, 1) := by decide +kernel
theorem d_X3_read_178 : decode b_X3_read 178 = .ok (.iconst 1, 1) := by decide +kernel
theorem d_X3_read_179 : decode b_X3_read 179 = .ok (.invokevirtual 72, 3) := by decide +kernel
theorem d_X3_read_193 : decode b_X3_read 193 = .ok (.iinc 1 (-1), 3) := by decide +kernel
theorem d_X3_read_196 : decode b_X3_read 196 = .ok (.goto (-164), 3) := by decide +kernel
theorem d_X3_read_199 : decode b_X3_read 199 = .ok (.aload_n 0, 1) := by decide +kernel
theorem d_X3_read_200 : decode b_X3_read 200 = .ok (.getfield 41, 3) := by decide +kernel
theorem d_X3_read_203 : decode b_X3_read 203 = .ok (.ifCond .ge 7, 3) := by decide +kernel
theorem d_X3_read_206 : decode b_X3_read 206 = .ok (.iconst 1, 1) := by decide +kernel
theorem d_X3_read_207 : decode b_X3_read 207 = .ok (.goto 4, 3) := by decide +kernel
theorem d_X3_read_210 : decode b_X3_read 210 = .ok (.iconst 0, 1) := by decide +kernel
theorem d_X3_read_211 : decode b_X3_read 211 = .ok (.ireturn, 1) := by decide +kernel
theorem d_X3_advance_0 : decode b_X3_advance 0 = .ok (.aload_n 0, 1) := by decide +kernel
theorem d_X3_advance_1 : decode b_X3_advance 1 = .ok (.dup, 1) := by decide +kernel
theorem d_X3_advance_2 : decode b_X3_advance 2 = .ok (.getfield 44, 3) := by decide +kernel
theorem d_X3_advance_5 : decode b_X3_advance 5 = .ok (.iconst 1, 1) := by decide +kernel
theorem d_X3_advance_6 : decode b_X3_advance 6 = .ok (.iadd, 1) := by decide +kernel
theorem d_X3_advance_7 : decode b_X3_advance 7 = .ok (.putfield 44, 3) := by decide +kernel
theorem d_X3_advance_10 : decode b_X3_advance 10 = .ok (.aload_n 0, 1) := by decide +kernel
theorem d_X3_advance_11 : decode b_X3_advance 11 = .ok (.getfield 44, 3) := by decide +kernel
theorem d_X3_advance_14 : decode b_X3_advance 14 = .ok (.ifCond .lt 36, 3) := by decide +kernel
theorem d_X3_advance_17 : decode b_X3_advance 17 = .ok (.aload_n 0, 1) := by decide +kernel
theorem d_X3_advance_18 : decode b_X3_advance 18 = .ok (.getfield 44, 3) := by decide +kernel
theorem d_X3_advance_21 : decode b_X3_advance 21 = .ok (.aload_n 0, 1) := by decide +kernel
theorem d_X3_advance_22 : decode b_X3_advance 22 = .ok (.getfield 30, 3) := by decide +kernel
theorem d_X3_advance_25 : decode b_X3_advance 25 = .ok (.getfield 50, 3) := by decide +kernel
theorem d_X3_advance_28 : decode b_X3_advance 28 = .ok (.if_icmp .ge 22, 3) := by decide +kernel
theorem d_X3_advance_31 : decode b_X3_advance 31 = .ok (.aload_n 0, 1) := by decide +kernel
theorem d_X3_advance_32 : decode b_X3_advance 32 = .ok (.getfield 44, 3) := by decide +kernel
theorem d_X3_advance_35 : decode b_X3_advance 35 = .ok (.aload_n 0, 1) := by decide +kernel
theorem d_X3_advance_36 : decode b_X3_advance 36 = .ok (.getfield 30, 3) := by decide +kernel
theorem d_X3_advance_39 : decode b_X3_advance 39 = .ok (.getfield 79, 3) := by decide +kernel
theorem d_X3_advance_42 : decode b_X3_advance 42 = .ok (.arraylength, 1) := by decide +kernel
theorem d_X3_advance_43 : decode b_X3_advance 43 = .ok (.if_icmp .ge 7, 3) := by decide +kernel
theorem d_X3_advance_46 : decode b_X3_advance 46 = .ok (.iconst 1, 1) := by decide +kernel
theorem d_X3_advance_47 : decode b_X3_advance 47 = .ok (.goto 4, 3) := by decide +kernel
theorem d_X3_advance_50 : decode b_X3_advance 50 = .ok (.iconst 0, 1) := by decide +kernel
theorem d_X3_advance_51 : decode b_X3_advance 51 = .ok (.istore_n 1, 1) := by decide +kernel
theorem d_X3_advance_52 : decode b_X3_advance 52 = .ok (.aload_n 0, 1) := by decide +kernel
theorem d_X3_advance_53 : decode b_X3_advance 53 = .ok (.iload_n 1, 1) := by decide +kernel
theorem d_X3_advance_54 : decode b_X3_advance 54 = .ok (.ifCond .eq 18, 3) := by decide +kernel
theorem d_X3_advance_57 : decode b_X3_advance 57 = .ok (.aload_n 0, 1) := by decide +kernel
theorem d_X3_advance_58 : decode b_X3_advance 58 = .ok (.getfield 30, 3) := by decide +kernel
theorem d_X3_advance_61 : decode b_X3_advance 61 = .ok (.getfield 79, 3) := by decide +kernel
theorem d_X3_advance_64 : decode b_X3_advance 64 = .ok (.aload_n 0, 1) := by decide +kernel
theorem d_X3_advance_65 : decode b_X3_advance 65 = .ok (.getfield 44, 3) := by decide +kernel
theorem d_X3_advance_68 : decode b_X3_advance 68 = .ok (.iaload, 1) := by decide +kernel
theorem d_X3_advance_69 : decode b_X3_advance 69 = .ok (.goto 4, 3) := by decide +kernel
theorem d_X3_advance_72 : decode b_X3_advance 72 = .ok (.iconst 0, 1) := by decide +kernel
theorem d_X3_advance_73 : decode b_X3_advance 73 = .ok (.putfield 53, 3) := by decide +kernel
theorem d_X3_advance_76 : decode b_X3_advance 76 = .ok (.return_, 1) := by decide +kernel
theorem d_X3_expect_0 : decode b_X3_expect 0 = .ok (.aload_n 0, 1) := by decide +kernel
theorem d_X3_expect_1 : decode b_X3_expect 1 = .ok (.getfield 53, 3) := by decide +kernel
theorem d_X3_expect_4 : decode b_X3_expect 4 = .ok (.iload_n 1, 1) := by decide +kernel
theorem d_X3_expect_5 : decode b_X3_expect 5 = .ok (.if_icmp .ne 10, 3) := by decide +kernel
theorem d_X3_expect_8 : decode b_X3_expect 8 = .ok (.aload_n 0, 1) := by decide +kernel
theorem d_X3_expect_9 : decode b_X3_expect 9 = .ok (.invokevirtual 47, 3) := by decide +kernel
theorem d_X3_expect_12 : decode b_X3_expect 12 = .ok (.goto 7, 3) := by decide +kernel
theorem d_X3_expect_15 : decode b_X3_expect 15 = .ok (.aload_n 0, 1) := by decide +kernel
theorem d_X3_expect_16 : decode b_X3_expect 16 = .ok (.invokevirtual 82, 3) := by decide +kernel
theorem d_X3_expect_19 : decode b_X3_expect 19 = .ok (.return_, 1) := by decide +kernel
theorem d_X3_fail_0 : decode b_X3_fail 0 = .ok (.aload_n 0, 1) := by decide +kernel
theorem d_X3_fail_1 : decode b_X3_fail 1 = .ok (.getfield 41, 3) := by decide +kernel
theorem d_X3_fail_4 : decode b_X3_fail 4 = .ok (.ifCond .ge 11, 3) := by decide +kernel
theorem d_X3_fail_7 : decode b_X3_fail 7 = .ok (.aload_n 0, 1) := by decide +kernel
theorem d_X3_fail_8 : decode b_X3_fail 8 = .ok (.aload_n 0, 1) := by decide +kernel
theorem d_X3_fail_9 : decode b_X3_fail 9 = .ok (.getfield 44, 3) := by decide +kernel
theorem d_X3_fail_12 : decode b_X3_fail 12 = .ok (.putfield 41, 3) := by decide +kernel
theorem d_X3_fail_15 : decode b_X3_fail 15 = .ok (.aload_n 0, 1) := by decide +kernel
theorem d_X3_fail_16 : decode b_X3_fail 16 = .ok (.iconst (-1), 1) := by decide +kernel
theorem d_X3_fail_17 : decode b_X3_fail 17 = .ok (.putfield 53, 3) := by decide +kernel
theorem d_X3_fail_20 : decode b_X3_fail 20 = .ok (.return_, 1) := by decide +kernel
theorem d_X3_stars_0 : decode b_X3_stars 0 = .ok (.iconst 0, 1) := by decide +kernel
theorem d_X3_stars_1 : decode b_X3_stars 1 = .ok (.istore_n 1, 1) := by decide +kernel
theorem d_X3_stars_2 : decode b_X3_stars 2 = .ok (.iload_n 1, 1) := by decide +kernel
theorem d_X3_stars_3 : decode b_X3_stars 3 = .ok (.iconst 5, 1) := by decide +kernel
theorem d_X3_stars_4 : decode b_X3_stars 4 = .ok (.if_icmp .ge 22, 3) := by decide +kernel
theorem d_X3_stars_7 : decode b_X3_stars 7 = .ok (.aload_n 0, 1) := by decide +kernel
theorem d_X3_stars_8 : decode b_X3_stars 8 = .ok (.getfield 53, 3) := by decide +kernel
theorem d_X3_stars_11 : decode b_X3_stars 11 = .ok (.bipush 45, 2) := by decide +kernel
theorem d_X3_stars_13 : decode b_X3_stars 13 = .ok (.if_icmp .ne 13, 3) := by decide +kernel
theorem d_X3_stars_16 : decode b_X3_stars 16 = .ok (.aload_n 0, 1) := by decide +kernel
theorem d_X3_stars_17 : decode b_X3_stars 17 = .ok (.invokevirtual 47, 3) := by decide +kernel
theorem d_X3_stars_20 : decode b_X3_stars 20 = .ok (.iinc 1 1, 3) := by decide +kernel
theorem d_X3_stars_23 : decode b_X3_stars 23 = .ok (.goto (-21), 3) := by decide +kernel
theorem d_X3_stars_26 : decode b_X3_stars 26 = .ok (.aload_n 0, 1) := by decide +kernel
theorem d_X3_stars_27 : decode b_X3_stars 27 = .ok (.getfield 53, 3) := by decide +kernel
theorem d_X3_stars_30 : decode b_X3_stars 30 = .ok (.bipush 45, 2) := by decide +kernel
theorem d_X3_stars_32 : decode b_X3_stars 32 = .ok (.if_icmp .ne 7, 3) := by decide +kernel
theorem d_X3_stars_35 : decode b_X3_stars 35 = .ok (.aload_n 0, 1) := by decide +kernel
theorem d_X3_stars_36 : decode b_X3_stars 36 = .ok (.invokevirtual 82, 3) := by decide +kernel
theorem d_X3_stars_39 : decode b_X3_stars 39 = .ok (.iload_n 1, 1) := by decide +kernel
theorem d_X3_stars_40 : decode b_X3_stars 40 = .ok (.ireturn, 1) := by decide +kernel
theorem d_X3_variables_18 : decode b_X3_variables 18 = .ok (.iload 7, 2) := by decide +kernel
theorem d_X3_variables_20 : decode b_X3_variables 20 = .ok (.ifCond .le 115, 3) := by decide +kernel
theorem d_X3_variables_23 : decode b_X3_variables 23 = .ok (.iload 6, 2) := by decide +kernel
theorem d_X3_variables_25 : decode b_X3_variables 25 = .ok (.ifCond .eq 110, 3) := by decide +kernel
theorem d_X3_variables_28 : decode b_X3_variables 28 = .ok (.aload_n 0, 1) := by decide +kernel
theorem d_X3_variables_29 : decode b_X3_variables 29 = .ok (.getfield 53, 3) := by decide +kernel
theorem d_X3_variables_32 : decode b_X3_variables 32 = .ok (.bipush 24, 2) := by decide +kernel
theorem d_X3_variables_34 : decode b_X3_variables 34 = .ok (.if_icmp .ne 10, 3) := by decide +kernel
theorem d_X3_variables_44 : decode b_X3_variables 44 = .ok (.iconst (-1), 1) := by decide +kernel
theorem d_X3_variables_45 : decode b_X3_variables 45 = .ok (.istore 8, 2) := by decide +kernel
theorem d_X3_variables_47 : decode b_X3_variables 47 = .ok (.aload_n 0, 1) := by decide +kernel
theorem d_X3_variables_48 : decode b_X3_variables 48 = .ok (.getfield 53, 3) := by decide +kernel
theorem d_X3_variables_51 : decode b_X3_variables 51 = .ok (.bipush 30, 2) := by decide +kernel
theorem d_X3_variables_53 : decode b_X3_variables 53 = .ok (.if_icmp .ne 7, 3) := by decide +kernel
theorem d_X3_variables_56 : decode b_X3_variables 56 = .ok (.iconst 1, 1) := by decide +kernel
theorem d_X3_variables_57 : decode b_X3_variables 57 = .ok (.goto 4, 3) := by decide +kernel
theorem d_X3_variables_60 : decode b_X3_variables 60 = .ok (.iconst 0, 1) := by decide +kernel
theorem d_X3_variables_61 : decode b_X3_variables 61 = .ok (.istore 9, 2) := by decide +kernel
theorem d_X3_variables_63 : decode b_X3_variables 63 = .ok (.aload_n 0, 1) := by decide +kernel
theorem d_X3_variables_64 : decode b_X3_variables 64 = .ok (.bipush 43, 2) := by decide +kernel
theorem d_X3_variables_66 : decode b_X3_variables 66 = .ok (.iload 4, 2) := by decide +kernel
theorem d_X3_variables_68 : decode b_X3_variables 68 = .ok (.iload 5, 2) := by decide +kernel
theorem d_X3_variables_70 : decode b_X3_variables 70 = .ok (.iload 9, 2) := by decide +kernel
theorem d_X3_variables_72 : decode b_X3_variables 72 = .ok (.ifCond .eq 9, 3) := by decide +kernel
theorem d_X3_variables_75 : decode b_X3_variables 75 = .ok (.iload_n 3, 1) := by decide +kernel
theorem d_X3_variables_76 : decode b_X3_variables 76 = .ok (.iconst 4, 1) := by decide +kernel
theorem d_X3_variables_77 : decode b_X3_variables 77 = .ok (.iadd, 1) := by decide +kernel
theorem d_X3_variables_78 : decode b_X3_variables 78 = .ok (.goto 4, 3) := by decide +kernel
theorem d_X3_variables_81 : decode b_X3_variables 81 = .ok (.iload_n 3, 1) := by decide +kernel
theorem d_X3_variables_82 : decode b_X3_variables 82 = .ok (.invokevirtual 75, 3) := by decide +kernel
theorem d_X3_variables_85 : decode b_X3_variables 85 = .ok (.pop, 1) := by decide +kernel
theorem d_X3_variables_86 : decode b_X3_variables 86 = .ok (.iload 9, 2) := by decide +kernel
theorem d_X3_variables_88 : decode b_X3_variables 88 = .ok (.ifCond .eq 11, 3) := by decide +kernel
theorem d_X3_variables_91 : decode b_X3_variables 91 = .ok (.aload_n 0, 1) := by decide +kernel
theorem d_X3_variables_92 : decode b_X3_variables 92 = .ok (.iload 8, 2) := by decide +kernel
theorem d_X3_variables_94 : decode b_X3_variables 94 = .ok (.iload 5, 2) := by decide +kernel
theorem d_X3_variables_96 : decode b_X3_variables 96 = .ok (.invokevirtual 115, 3) := by decide +kernel
theorem d_X3_variables_99 : decode b_X3_variables 99 = .ok (.aload_n 0, 1) := by decide +kernel
theorem d_X3_variables_100 : decode b_X3_variables 100 = .ok (.bipush 26, 2) := by decide +kernel
theorem d_X3_variables_102 : decode b_X3_variables 102 = .ok (.invokevirtual 101, 3) := by decide +kernel
theorem d_X3_variables_105 : decode b_X3_variables 105 = .ok (.istore 6, 2) := by decide +kernel
theorem d_X3_variables_107 : decode b_X3_variables 107 = .ok (.iload 6, 2) := by decide +kernel
theorem d_X3_variables_109 : decode b_X3_variables 109 = .ok (.ifCond .eq 20, 3) := by decide +kernel
theorem d_X3_variables_112 : decode b_X3_variables 112 = .ok (.aload_n 0, 1) := by decide +kernel
theorem d_X3_variables_113 : decode b_X3_variables 113 = .ok (.invokevirtual 60, 3) := by decide +kernel
theorem d_X3_variables_116 : decode b_X3_variables 116 = .ok (.istore 5, 2) := by decide +kernel
theorem d_X3_variables_118 : decode b_X3_variables 118 = .ok (.aload_n 0, 1) := by decide +kernel
theorem d_X3_variables_119 : decode b_X3_variables 119 = .ok (.getfield 44, 3) := by decide +kernel
theorem d_X3_variables_122 : decode b_X3_variables 122 = .ok (.istore 4, 2) := by decide +kernel
theorem d_X3_variables_124 : decode b_X3_variables 124 = .ok (.aload_n 0, 1) := by decide +kernel
theorem d_X3_variables_125 : decode b_X3_variables 125 = .ok (.iconst 2, 1) := by decide +kernel
theorem d_X3_variables_126 : decode b_X3_variables 126 = .ok (.invokevirtual 56, 3) := by decide +kernel
theorem d_X3_variables_129 : decode b_X3_variables 129 = .ok (.iinc 7 (-1), 3) := by decide +kernel
theorem d_X3_variables_132 : decode b_X3_variables 132 = .ok (.goto (-114), 3) := by decide +kernel
theorem d_X3_variables_135 : decode b_X3_variables 135 = .ok (.aload_n 0, 1) := by decide +kernel
theorem d_X3_variables_136 : decode b_X3_variables 136 = .ok (.bipush 27, 2) := by decide +kernel
theorem d_X3_variables_138 : decode b_X3_variables 138 = .ok (.invokevirtual 56, 3) := by decide +kernel
theorem d_X3_variables_141 : decode b_X3_variables 141 = .ok (.return_, 1) := by decide +kernel
theorem d_X3_bracket_0 : decode b_X3_bracket 0 = .ok (.aload_n 0, 1) := by decide +kernel
theorem d_X3_bracket_1 : decode b_X3_bracket 1 = .ok (.getfield 44, 3) := by decide +kernel
theorem d_X3_bracket_4 : decode b_X3_bracket 4 = .ok (.istore_n 1, 1) := by decide +kernel
theorem d_X3_bracket_5 : decode b_X3_bracket 5 = .ok (.aload_n 0, 1) := by decide +kernel
theorem d_X3_bracket_6 : decode b_X3_bracket 6 = .ok (.invokevirtual 47, 3) := by decide +kernel
theorem d_X3_bracket_9 : decode b_X3_bracket 9 = .ok (.aload_n 0, 1) := by decide +kernel
theorem d_X3_bracket_10 : decode b_X3_bracket 10 = .ok (.getfield 53, 3) := by decide +kernel
theorem d_X3_bracket_13 : decode b_X3_bracket 13 = .ok (.bipush 25, 2) := by decide +kernel
theorem d_X3_bracket_15 : decode b_X3_bracket 15 = .ok (.if_icmp .eq 7, 3) := by decide +kernel
theorem d_X3_bracket_18 : decode b_X3_bracket 18 = .ok (.iconst 1, 1) := by decide +kernel
theorem d_X3_bracket_19 : decode b_X3_bracket 19 = .ok (.goto 4, 3) := by decide +kernel
theorem d_X3_bracket_22 : decode b_X3_bracket 22 = .ok (.iconst 0, 1) := by decide +kernel
theorem d_X3_bracket_23 : decode b_X3_bracket 23 = .ok (.istore_n 2, 1) := by decide +kernel
theorem d_X3_bracket_24 : decode b_X3_bracket 24 = .ok (.iload_n 2, 1) := by decide +kernel
theorem d_X3_bracket_25 : decode b_X3_bracket 25 = .ok (.ifCond .eq 35, 3) := by decide +kernel
theorem d_X3_bracket_28 : decode b_X3_bracket 28 = .ok (.aload_n 0, 1) := by decide +kernel
theorem d_X3_bracket_29 : decode b_X3_bracket 29 = .ok (.bipush 40, 2) := by decide +kernel
theorem d_X3_bracket_31 : decode b_X3_bracket 31 = .ok (.iload_n 1, 1) := by decide +kernel
theorem d_X3_bracket_32 : decode b_X3_bracket 32 = .ok (.iconst 0, 1) := by decide +kernel
theorem d_X3_bracket_33 : decode b_X3_bracket 33 = .ok (.iconst 0, 1) := by decide +kernel
theorem d_X3_bracket_34 : decode b_X3_bracket 34 = .ok (.invokevirtual 75, 3) := by decide +kernel
theorem d_X3_bracket_37 : decode b_X3_bracket 37 = .ok (.istore_n 3, 1) := by decide +kernel
theorem d_X3_bracket_38 : decode b_X3_bracket 38 = .ok (.aload_n 0, 1) := by decide +kernel
theorem d_X3_bracket_39 : decode b_X3_bracket 39 = .ok (.iconst 1, 1) := by decide +kernel
theorem d_X3_bracket_40 : decode b_X3_bracket 40 = .ok (.invokevirtual 119, 3) := by decide +kernel
theorem d_X3_bracket_60 : decode b_X3_bracket 60 = .ok (.aload_n 0, 1) := by decide +kernel
theorem d_X3_bracket_61 : decode b_X3_bracket 61 = .ok (.bipush 25, 2) := by decide +kernel
theorem d_X3_bracket_63 : decode b_X3_bracket 63 = .ok (.invokevirtual 56, 3) := by decide +kernel
theorem d_X3_bracket_66 : decode b_X3_bracket 66 = .ok (.aload_n 0, 1) := by decide +kernel
theorem d_X3_bracket_67 : decode b_X3_bracket 67 = .ok (.bipush 42, 2) := by decide +kernel
theorem d_X3_bracket_69 : decode b_X3_bracket 69 = .ok (.iload_n 1, 1) := by decide +kernel
theorem d_X3_bracket_70 : decode b_X3_bracket 70 = .ok (.iload_n 2, 1) := by decide +kernel
theorem d_X3_bracket_71 : decode b_X3_bracket 71 = .ok (.ifCond .eq 7, 3) := by decide +kernel
theorem d_X3_bracket_78 : decode b_X3_bracket 78 = .ok (.iconst 0, 1) := by decide +kernel
theorem d_X3_bracket_79 : decode b_X3_bracket 79 = .ok (.iconst 0, 1) := by decide +kernel
theorem d_X3_bracket_80 : decode b_X3_bracket 80 = .ok (.invokevirtual 75, 3) := by decide +kernel
theorem d_X3_bracket_83 : decode b_X3_bracket 83 = .ok (.ireturn, 1) := by decide +kernel
theorem d_X3_add_0 : decode b_X3_add 0 = .ok (.aload_n 0, 1) := by decide +kernel
theorem d_X3_add_1 : decode b_X3_add 1 = .ok (.getfield 34, 3) := by decide +kernel
theorem d_X3_add_4 : decode b_X3_add 4 = .ok (.istore 5, 2) := by decide +kernel
theorem d_X3_add_6 : decode b_X3_add 6 = .ok (.iload 5, 2) := by decide +kernel
theorem d_X3_add_8 : decode b_X3_add 8 = .ok (.ifCond .lt 86, 3) := by decide +kernel
theorem d_X3_add_11 : decode b_X3_add 11 = .ok (.iload 5, 2) := by decide +kernel
theorem d_X3_add_13 : decode b_X3_add 13 = .ok (.aload_n 0, 1) := by decide +kernel
theorem d_X3_add_14 : decode b_X3_add 14 = .ok (.getfield 11, 3) := by decide +kernel
theorem d_X3_add_17 : decode b_X3_add 17 = .ok (.arraylength, 1) := by decide +kernel
theorem d_X3_add_18 : decode b_X3_add 18 = .ok (.if_icmp .ge 76, 3) := by decide +kernel
theorem d_X3_add_21 : decode b_X3_add 21 = .ok (.iload 5, 2) := by decide +kernel
theorem d_X3_add_23 : decode b_X3_add 23 = .ok (.aload_n 0, 1) := by decide +kernel
theorem d_X3_add_24 : decode b_X3_add 24 = .ok (.getfield 15, 3) := by decide +kernel
theorem d_X3_add_27 : decode b_X3_add 27 = .ok (.arraylength, 1) := by decide +kernel
theorem d_X3_add_28 : decode b_X3_add 28 = .ok (.if_icmp .ge 66, 3) := by decide +kernel
theorem d_X3_add_31 : decode b_X3_add 31 = .ok (.iload 5, 2) := by decide +kernel
theorem d_X3_add_33 : decode b_X3_add 33 = .ok (.aload_n 0, 1) := by decide +kernel
theorem d_X3_add_34 : decode b_X3_add 34 = .ok (.getfield 18, 3) := by decide +kernel
theorem d_X3_add_37 : decode b_X3_add 37 = .ok (.arraylength, 1) := by decide +kernel
theorem d_X3_add_38 : decode b_X3_add 38 = .ok (.if_icmp .ge 56, 3) := by decide +kernel
theorem d_X3_add_41 : decode b_X3_add 41 = .ok (.iload 5, 2) := by decide +kernel
theorem d_X3_add_43 : decode b_X3_add 43 = .ok (.aload_n 0, 1) := by decide +kernel
theorem d_X3_add_44 : decode b_X3_add 44 = .ok (.getfield 21, 3) := by decide +kernel
theorem d_X3_add_47 : decode b_X3_add 47 = .ok (.arraylength, 1) := by decide +kernel
theorem d_X3_add_48 : decode b_X3_add 48 = .ok (.if_icmp .ge 46, 3) := by decide +kernel
theorem d_X3_add_51 : decode b_X3_add 51 = .ok (.aload_n 0, 1) := by decide +kernel
theorem d_X3_add_52 : decode b_X3_add 52 = .ok (.getfield 11, 3) := by decide +kernel
theorem d_X3_add_55 : decode b_X3_add 55 = .ok (.iload 5, 2) := by decide +kernel
theorem d_X3_add_57 : decode b_X3_add 57 = .ok (.iload_n 1, 1) := by decide +kernel
theorem d_X3_add_58 : decode b_X3_add 58 = .ok (.iastore, 1) := by decide +kernel
theorem d_X3_add_59 : decode b_X3_add 59 = .ok (.aload_n 0, 1) := by decide +kernel
theorem d_X3_add_60 : decode b_X3_add 60 = .ok (.getfield 15, 3) := by decide +kernel
theorem d_X3_add_63 : decode b_X3_add 63 = .ok (.iload 5, 2) := by decide +kernel
theorem d_X3_add_65 : decode b_X3_add 65 = .ok (.iload_n 2, 1) := by decide +kernel
theorem d_X3_add_66 : decode b_X3_add 66 = .ok (.iastore, 1) := by decide +kernel
theorem d_X3_add_67 : decode b_X3_add 67 = .ok (.aload_n 0, 1) := by decide +kernel
theorem d_X3_add_68 : decode b_X3_add 68 = .ok (.getfield 18, 3) := by decide +kernel
theorem d_X3_add_71 : decode b_X3_add 71 = .ok (.iload 5, 2) := by decide +kernel
theorem d_X3_add_73 : decode b_X3_add 73 = .ok (.iload_n 3, 1) := by decide +kernel
theorem d_X3_add_74 : decode b_X3_add 74 = .ok (.iastore, 1) := by decide +kernel
theorem d_X3_add_75 : decode b_X3_add 75 = .ok (.aload_n 0, 1) := by decide +kernel
theorem d_X3_add_76 : decode b_X3_add 76 = .ok (.getfield 21, 3) := by decide +kernel
theorem d_X3_add_79 : decode b_X3_add 79 = .ok (.iload 5, 2) := by decide +kernel
theorem d_X3_add_81 : decode b_X3_add 81 = .ok (.iload 4, 2) := by decide +kernel
theorem d_X3_add_83 : decode b_X3_add 83 = .ok (.iastore, 1) := by decide +kernel
theorem d_X3_add_84 : decode b_X3_add 84 = .ok (.aload_n 0, 1) := by decide +kernel
theorem d_X3_add_85 : decode b_X3_add 85 = .ok (.dup, 1) := by decide +kernel
theorem d_X3_add_86 : decode b_X3_add 86 = .ok (.getfield 34, 3) := by decide +kernel
theorem d_X3_add_89 : decode b_X3_add 89 = .ok (.iconst 1, 1) := by decide +kernel
theorem d_X3_add_90 : decode b_X3_add 90 = .ok (.iadd, 1) := by decide +kernel
theorem d_X3_add_91 : decode b_X3_add 91 = .ok (.putfield 34, 3) := by decide +kernel
theorem d_X3_add_94 : decode b_X3_add 94 = .ok (.iload 5, 2) := by decide +kernel
theorem d_X3_add_96 : decode b_X3_add 96 = .ok (.ireturn, 1) := by decide +kernel
theorem d_X3_expression_0 : decode b_X3_expression 0 = .ok (.aload_n 0, 1) := by decide +kernel
theorem d_X3_expression_1 : decode b_X3_expression 1 = .ok (.iload_n 1, 1) := by decide +kernel
theorem d_X3_expression_2 : decode b_X3_expression 2 = .ok (.invokevirtual 146, 3) := by decide +kernel
theorem d_X3_choice_0 : decode b_X3_choice 0 = .ok (.aload_n 0, 1) := by decide +kernel
theorem d_X3_choice_1 : decode b_X3_choice 1 = .ok (.iload_n 1, 1) := by decide +kernel
theorem d_X3_choice_2 : decode b_X3_choice 2 = .ok (.invokevirtual 152, 3) := by decide +kernel
theorem d_X3_binary_18 : decode b_X3_binary 18 = .ok (.iload_n 3, 1) := by decide +kernel
theorem d_X3_binary_19 : decode b_X3_binary 19 = .ok (.ifCond .le 78, 3) := by decide +kernel
theorem d_X3_binary_22 : decode b_X3_binary 22 = .ok (.aload_n 0, 1) := by decide +kernel
theorem d_X3_binary_23 : decode b_X3_binary 23 = .ok (.getfield 53, 3) := by decide +kernel
theorem d_X3_binary_26 : decode b_X3_binary 26 = .ok (.invokestatic 161, 3) := by decide +kernel
theorem d_X3_binary_29 : decode b_X3_binary 29 = .ok (.ifCond .le 68, 3) := by decide +kernel
theorem d_X3_binary_32 : decode b_X3_binary 32 = .ok (.aload_n 0, 1) := by decide +kernel
theorem d_X3_binary_33 : decode b_X3_binary 33 = .ok (.iload_n 2, 1) := by decide +kernel
theorem d_X3_binary_34 : decode b_X3_binary 34 = .ok (.aload_n 0, 1) := by decide +kernel
theorem d_X3_binary_35 : decode b_X3_binary 35 = .ok (.getfield 53, 3) := by decide +kernel
theorem d_X3_binary_38 : decode b_X3_binary 38 = .ok (.invokestatic 161, 3) := by decide +kernel
theorem d_X3_binary_41 : decode b_X3_binary 41 = .ok (.invokevirtual 164, 3) := by decide +kernel
theorem d_X3_binary_44 : decode b_X3_binary 44 = .ok (.aload_n 0, 1) := by decide +kernel
theorem d_X3_binary_45 : decode b_X3_binary 45 = .ok (.getfield 24, 3) := by decide +kernel
theorem d_X3_binary_48 : decode b_X3_binary 48 = .ok (.aload_n 0, 1) := by decide +kernel
theorem d_X3_binary_49 : decode b_X3_binary 49 = .ok (.getfield 38, 3) := by decide +kernel
theorem d_X3_binary_52 : decode b_X3_binary 52 = .ok (.aload_n 0, 1) := by decide +kernel
theorem d_X3_binary_53 : decode b_X3_binary 53 = .ok (.getfield 44, 3) := by decide +kernel
theorem d_X3_binary_56 : decode b_X3_binary 56 = .ok (.invokestatic 105, 3) := by decide +kernel
theorem d_X3_binary_59 : decode b_X3_binary 59 = .ok (.aload_n 0, 1) := by decide +kernel
theorem d_X3_binary_60 : decode b_X3_binary 60 = .ok (.dup, 1) := by decide +kernel
theorem d_X3_binary_61 : decode b_X3_binary 61 = .ok (.getfield 38, 3) := by decide +kernel
theorem d_X3_binary_64 : decode b_X3_binary 64 = .ok (.iconst 1, 1) := by decide +kernel
theorem d_X3_binary_65 : decode b_X3_binary 65 = .ok (.iadd, 1) := by decide +kernel
theorem d_X3_binary_66 : decode b_X3_binary 66 = .ok (.putfield 38, 3) := by decide +kernel
theorem d_X3_binary_69 : decode b_X3_binary 69 = .ok (.aload_n 0, 1) := by decide +kernel
theorem d_X3_binary_70 : decode b_X3_binary 70 = .ok (.bipush 7, 2) := by decide +kernel
theorem d_X3_binary_72 : decode b_X3_binary 72 = .ok (.aload_n 0, 1) := by decide +kernel
theorem d_X3_binary_73 : decode b_X3_binary 73 = .ok (.getfield 44, 3) := by decide +kernel
theorem d_X3_binary_76 : decode b_X3_binary 76 = .ok (.iconst 0, 1) := by decide +kernel
theorem d_X3_binary_77 : decode b_X3_binary 77 = .ok (.iconst 0, 1) := by decide +kernel
theorem d_X3_binary_78 : decode b_X3_binary 78 = .ok (.invokevirtual 75, 3) := by decide +kernel
theorem d_X3_binary_81 : decode b_X3_binary 81 = .ok (.pop, 1) := by decide +kernel
theorem d_X3_binary_82 : decode b_X3_binary 82 = .ok (.aload_n 0, 1) := by decide +kernel
theorem d_X3_binary_83 : decode b_X3_binary 83 = .ok (.invokevirtual 47, 3) := by decide +kernel
theorem d_X3_binary_86 : decode b_X3_binary 86 = .ok (.aload_n 0, 1) := by decide +kernel
theorem d_X3_binary_87 : decode b_X3_binary 87 = .ok (.iload_n 1, 1) := by decide +kernel
theorem d_X3_binary_88 : decode b_X3_binary 88 = .ok (.invokevirtual 158, 3) := by decide +kernel
theorem d_X3_binary_97 : decode b_X3_binary 97 = .ok (.aload_n 0, 1) := by decide +kernel
theorem d_X3_binary_98 : decode b_X3_binary 98 = .ok (.iload_n 2, 1) := by decide +kernel
theorem d_X3_binary_99 : decode b_X3_binary 99 = .ok (.iconst 0, 1) := by decide +kernel
theorem d_X3_binary_100 : decode b_X3_binary 100 = .ok (.invokevirtual 164, 3) := by decide +kernel
theorem d_X3_binary_103 : decode b_X3_binary 103 = .ok (.return_, 1) := by decide +kernel
theorem d_X3_unary_0 : decode b_X3_unary 0 = .ok (.aload_n 0, 1) := by decide +kernel
theorem d_X3_unary_1 : decode b_X3_unary 1 = .ok (.getfield 44, 3) := by decide +kernel
theorem d_X3_unary_4 : decode b_X3_unary 4 = .ok (.istore_n 2, 1) := by decide +kernel
theorem d_X3_unary_5 : decode b_X3_unary 5 = .ok (.aload_n 0, 1) := by decide +kernel
theorem d_X3_unary_6 : decode b_X3_unary 6 = .ok (.getfield 53, 3) := by decide +kernel
theorem d_X3_unary_9 : decode b_X3_unary 9 = .ok (.tableswitch 119 44 62 #[91, 91, 119, 119, 91, 119, 119, 119, 119, 119, 119, 119, 119, 119, 119, 91, 91, 91, 91], 91) := by decide +kernel
theorem d_X3_unary_100 : decode b_X3_unary 100 = .ok (.aload_n 0, 1) := by decide +kernel
theorem d_X3_unary_101 : decode b_X3_unary 101 = .ok (.iload_n 1, 1) := by decide +kernel
theorem d_X3_unary_102 : decode b_X3_unary 102 = .ok (.invokevirtual 149, 3) := by decide +kernel
theorem d_X3_unary_105 : decode b_X3_unary 105 = .ok (.ifCond .eq 62, 3) := by decide +kernel
theorem d_X3_unary_108 : decode b_X3_unary 108 = .ok (.aload_n 0, 1) := by decide +kernel
theorem d_X3_unary_109 : decode b_X3_unary 109 = .ok (.iload_n 1, 1) := by decide +kernel
theorem d_X3_unary_110 : decode b_X3_unary 110 = .ok (.iconst 1, 1) := by decide +kernel
theorem d_X3_unary_111 : decode b_X3_unary 111 = .ok (.iadd, 1) := by decide +kernel
theorem d_X3_unary_112 : decode b_X3_unary 112 = .ok (.invokevirtual 158, 3) := by decide +kernel
theorem d_X3_unary_167 : decode b_X3_unary 167 = .ok (.return_, 1) := by decide +kernel
theorem d_X3_deeper_0 : decode b_X3_deeper 0 = .ok (.iload_n 1, 1) := by decide +kernel
theorem d_X3_deeper_1 : decode b_X3_deeper 1 = .ok (.bipush 25, 2) := by decide +kernel
theorem d_X3_deeper_3 : decode b_X3_deeper 3 = .ok (.if_icmp .ge 7, 3) := by decide +kernel
theorem d_X3_deeper_6 : decode b_X3_deeper 6 = .ok (.iconst 1, 1) := by decide +kernel
theorem d_X3_deeper_7 : decode b_X3_deeper 7 = .ok (.goto 4, 3) := by decide +kernel
theorem d_X3_deeper_10 : decode b_X3_deeper 10 = .ok (.iconst 0, 1) := by decide +kernel
theorem d_X3_deeper_11 : decode b_X3_deeper 11 = .ok (.istore_n 2, 1) := by decide +kernel
theorem d_X3_deeper_12 : decode b_X3_deeper 12 = .ok (.iload_n 2, 1) := by decide +kernel
theorem d_X3_deeper_13 : decode b_X3_deeper 13 = .ok (.ifCond .eq 10, 3) := by decide +kernel
theorem d_X3_deeper_16 : decode b_X3_deeper 16 = .ok (.aload_n 0, 1) := by decide +kernel
theorem d_X3_deeper_17 : decode b_X3_deeper 17 = .ok (.invokevirtual 47, 3) := by decide +kernel
theorem d_X3_deeper_20 : decode b_X3_deeper 20 = .ok (.goto 7, 3) := by decide +kernel
theorem d_X3_deeper_23 : decode b_X3_deeper 23 = .ok (.aload_n 0, 1) := by decide +kernel
theorem d_X3_deeper_24 : decode b_X3_deeper 24 = .ok (.invokevirtual 82, 3) := by decide +kernel
theorem d_X3_deeper_27 : decode b_X3_deeper 27 = .ok (.iload_n 2, 1) := by decide +kernel
theorem d_X3_deeper_28 : decode b_X3_deeper 28 = .ok (.ireturn, 1) := by decide +kernel
theorem d_X3_cast_0 : decode b_X3_cast 0 = .ok (.aload_n 0, 1) := by decide +kernel
theorem d_X3_cast_1 : decode b_X3_cast 1 = .ok (.getfield 44, 3) := by decide +kernel
theorem d_X3_cast_4 : decode b_X3_cast 4 = .ok (.istore_n 2, 1) := by decide +kernel
theorem d_X3_cast_5 : decode b_X3_cast 5 = .ok (.aload_n 0, 1) := by decide +kernel
theorem d_X3_cast_6 : decode b_X3_cast 6 = .ok (.iload_n 1, 1) := by decide +kernel
theorem d_X3_cast_7 : decode b_X3_cast 7 = .ok (.invokevirtual 149, 3) := by decide +kernel
theorem d_X3_cast_10 : decode b_X3_cast 10 = .ok (.ifCond .eq 36, 3) := by decide +kernel
theorem d_X3_cast_13 : decode b_X3_cast 13 = .ok (.aload_n 0, 1) := by decide +kernel
theorem d_X3_cast_14 : decode b_X3_cast 14 = .ok (.iconst 5, 1) := by decide +kernel
theorem d_X3_cast_15 : decode b_X3_cast 15 = .ok (.invokevirtual 56, 3) := by decide +kernel
theorem d_X3_cast_18 : decode b_X3_cast 18 = .ok (.aload_n 0, 1) := by decide +kernel
theorem d_X3_cast_19 : decode b_X3_cast 19 = .ok (.invokevirtual 60, 3) := by decide +kernel
theorem d_X3_cast_22 : decode b_X3_cast 22 = .ok (.istore_n 3, 1) := by decide +kernel
theorem d_X3_cast_23 : decode b_X3_cast 23 = .ok (.aload_n 0, 1) := by decide +kernel
theorem d_X3_cast_24 : decode b_X3_cast 24 = .ok (.bipush 21, 2) := by decide +kernel
theorem d_X3_cast_26 : decode b_X3_cast 26 = .ok (.invokevirtual 56, 3) := by decide +kernel
theorem d_X3_cast_29 : decode b_X3_cast 29 = .ok (.aload_n 0, 1) := by decide +kernel
theorem d_X3_cast_30 : decode b_X3_cast 30 = .ok (.iload_n 1, 1) := by decide +kernel
theorem d_X3_cast_31 : decode b_X3_cast 31 = .ok (.iconst 1, 1) := by decide +kernel
theorem d_X3_cast_32 : decode b_X3_cast 32 = .ok (.iadd, 1) := by decide +kernel
theorem d_X3_cast_33 : decode b_X3_cast 33 = .ok (.invokevirtual 158, 3) := by decide +kernel
theorem d_X3_cast_46 : decode b_X3_cast 46 = .ok (.return_, 1) := by decide +kernel
theorem d_X3_behind_15 : decode b_X3_behind 15 = .ok (.iload_n 3, 1) := by decide +kernel
theorem d_X3_behind_16 : decode b_X3_behind 16 = .ok (.ifCond .le 126, 3) := by decide +kernel
theorem d_X3_behind_19 : decode b_X3_behind 19 = .ok (.iload_n 2, 1) := by decide +kernel
theorem d_X3_behind_20 : decode b_X3_behind 20 = .ok (.ifCond .eq 122, 3) := by decide +kernel
theorem d_X3_behind_23 : decode b_X3_behind 23 = .ok (.aload_n 0, 1) := by decide +kernel
theorem d_X3_behind_24 : decode b_X3_behind 24 = .ok (.getfield 44, 3) := by decide +kernel
theorem d_X3_behind_27 : decode b_X3_behind 27 = .ok (.istore 4, 2) := by decide +kernel
theorem d_X3_behind_29 : decode b_X3_behind 29 = .ok (.aload_n 0, 1) := by decide +kernel
theorem d_X3_behind_30 : decode b_X3_behind 30 = .ok (.getfield 53, 3) := by decide +kernel
theorem d_X3_behind_33 : decode b_X3_behind 33 = .ok (.bipush 24, 2) := by decide +kernel
theorem d_X3_behind_35 : decode b_X3_behind 35 = .ok (.if_icmp .eq 21, 3) := by decide +kernel
theorem d_X3_behind_56 : decode b_X3_behind 56 = .ok (.iconst 1, 1) := by decide +kernel
theorem d_X3_behind_57 : decode b_X3_behind 57 = .ok (.goto 4, 3) := by decide +kernel
theorem d_X3_behind_61 : decode b_X3_behind 61 = .ok (.istore_n 2, 1) := by decide +kernel
theorem d_X3_behind_62 : decode b_X3_behind 62 = .ok (.aload_n 0, 1) := by decide +kernel
theorem d_X3_behind_63 : decode b_X3_behind 63 = .ok (.getfield 53, 3) := by decide +kernel
theorem d_X3_behind_66 : decode b_X3_behind 66 = .ok (.bipush 24, 2) := by decide +kernel
theorem d_X3_behind_68 : decode b_X3_behind 68 = .ok (.if_icmp .ne 49, 3) := by decide +kernel
theorem d_X3_behind_71 : decode b_X3_behind 71 = .ok (.aload_n 0, 1) := by decide +kernel
theorem d_X3_behind_72 : decode b_X3_behind 72 = .ok (.iload_n 1, 1) := by decide +kernel
theorem d_X3_behind_73 : decode b_X3_behind 73 = .ok (.invokevirtual 149, 3) := by decide +kernel
theorem d_X3_behind_76 : decode b_X3_behind 76 = .ok (.ifCond .eq 60, 3) := by decide +kernel
theorem d_X3_behind_79 : decode b_X3_behind 79 = .ok (.aload_n 0, 1) := by decide +kernel
theorem d_X3_behind_80 : decode b_X3_behind 80 = .ok (.bipush 7, 2) := by decide +kernel
theorem d_X3_behind_82 : decode b_X3_behind 82 = .ok (.iload 4, 2) := by decide +kernel
theorem d_X3_behind_84 : decode b_X3_behind 84 = .ok (.iconst 0, 1) := by decide +kernel
theorem d_X3_behind_85 : decode b_X3_behind 85 = .ok (.iconst 0, 1) := by decide +kernel
theorem d_X3_behind_86 : decode b_X3_behind 86 = .ok (.invokevirtual 75, 3) := by decide +kernel
theorem d_X3_behind_89 : decode b_X3_behind 89 = .ok (.pop, 1) := by decide +kernel
theorem d_X3_behind_90 : decode b_X3_behind 90 = .ok (.aload_n 0, 1) := by decide +kernel
theorem d_X3_behind_91 : decode b_X3_behind 91 = .ok (.iload_n 1, 1) := by decide +kernel
theorem d_X3_behind_92 : decode b_X3_behind 92 = .ok (.iconst 1, 1) := by decide +kernel
theorem d_X3_behind_93 : decode b_X3_behind 93 = .ok (.iadd, 1) := by decide +kernel
theorem d_X3_behind_94 : decode b_X3_behind 94 = .ok (.invokevirtual 119, 3) := by decide +kernel
theorem d_X3_behind_117 : decode b_X3_behind 117 = .ok (.iload_n 2, 1) := by decide +kernel
theorem d_X3_behind_118 : decode b_X3_behind 118 = .ok (.ifCond .eq 18, 3) := by decide +kernel
theorem d_X3_behind_121 : decode b_X3_behind 121 = .ok (.aload_n 0, 1) := by decide +kernel
theorem d_X3_behind_122 : decode b_X3_behind 122 = .ok (.invokevirtual 47, 3) := by decide +kernel
theorem d_X3_behind_125 : decode b_X3_behind 125 = .ok (.aload_n 0, 1) := by decide +kernel
theorem d_X3_behind_126 : decode b_X3_behind 126 = .ok (.bipush 13, 2) := by decide +kernel
theorem d_X3_behind_128 : decode b_X3_behind 128 = .ok (.iload 4, 2) := by decide +kernel
theorem d_X3_behind_130 : decode b_X3_behind 130 = .ok (.iconst 0, 1) := by decide +kernel
theorem d_X3_behind_131 : decode b_X3_behind 131 = .ok (.iconst 0, 1) := by decide +kernel
theorem d_X3_behind_132 : decode b_X3_behind 132 = .ok (.invokevirtual 75, 3) := by decide +kernel
theorem d_X3_behind_135 : decode b_X3_behind 135 = .ok (.pop, 1) := by decide +kernel
theorem d_X3_behind_136 : decode b_X3_behind 136 = .ok (.iinc 3 (-1), 3) := by decide +kernel
theorem d_X3_behind_139 : decode b_X3_behind 139 = .ok (.goto (-124), 3) := by decide +kernel
theorem d_X3_behind_142 : decode b_X3_behind 142 = .ok (.return_, 1) := by decide +kernel
theorem d_X3_primary_0 : decode b_X3_primary 0 = .ok (.aload_n 0, 1) := by decide +kernel
theorem d_X3_primary_1 : decode b_X3_primary 1 = .ok (.getfield 44, 3) := by decide +kernel
theorem d_X3_primary_4 : decode b_X3_primary 4 = .ok (.istore_n 2, 1) := by decide +kernel
theorem d_X3_primary_5 : decode b_X3_primary 5 = .ok (.aload_n 0, 1) := by decide +kernel
theorem d_X3_primary_6 : decode b_X3_primary 6 = .ok (.getfield 53, 3) := by decide +kernel
theorem d_X3_primary_9 : decode b_X3_primary 9 = .ok (.lookupswitch 129 #[(2, 71), (3, 43), (4, 43), (20, 105)], 43) := by decide +kernel
theorem d_X3_primary_80 : decode b_X3_primary 80 = .ok (.aload_n 0, 1) := by decide +kernel
theorem d_X3_primary_81 : decode b_X3_primary 81 = .ok (.invokevirtual 47, 3) := by decide +kernel
theorem d_X3_primary_84 : decode b_X3_primary 84 = .ok (.aload_n 0, 1) := by decide +kernel
theorem d_X3_primary_85 : decode b_X3_primary 85 = .ok (.getfield 53, 3) := by decide +kernel
theorem d_X3_primary_88 : decode b_X3_primary 88 = .ok (.bipush 20, 2) := by decide +kernel
theorem d_X3_primary_90 : decode b_X3_primary 90 = .ok (.if_icmp .ne 12, 3) := by decide +kernel
theorem d_X3_primary_93 : decode b_X3_primary 93 = .ok (.aload_n 0, 1) := by decide +kernel
theorem d_X3_primary_94 : decode b_X3_primary 94 = .ok (.iload_n 2, 1) := by decide +kernel
theorem d_X3_primary_95 : decode b_X3_primary 95 = .ok (.iload_n 1, 1) := by decide +kernel
theorem d_X3_primary_96 : decode b_X3_primary 96 = .ok (.invokevirtual 176, 3) := by decide +kernel
theorem d_X3_primary_102 : decode b_X3_primary 102 = .ok (.aload_n 0, 1) := by decide +kernel
theorem d_X3_primary_103 : decode b_X3_primary 103 = .ok (.iconst 3, 1) := by decide +kernel
theorem d_X3_primary_104 : decode b_X3_primary 104 = .ok (.iload_n 2, 1) := by decide +kernel
theorem d_X3_primary_105 : decode b_X3_primary 105 = .ok (.iconst 0, 1) := by decide +kernel
theorem d_X3_primary_106 : decode b_X3_primary 106 = .ok (.iconst 0, 1) := by decide +kernel
theorem d_X3_primary_107 : decode b_X3_primary 107 = .ok (.invokevirtual 75, 3) := by decide +kernel
theorem d_X3_primary_110 : decode b_X3_primary 110 = .ok (.pop, 1) := by decide +kernel
theorem d_X3_primary_111 : decode b_X3_primary 111 = .ok (.goto 31, 3) := by decide +kernel
theorem d_X3_primary_142 : decode b_X3_primary 142 = .ok (.return_, 1) := by decide +kernel
theorem d_X3_call_42 : decode b_X3_call 42 = .ok (.iload 4, 2) := by decide +kernel
theorem d_X3_call_44 : decode b_X3_call 44 = .ok (.ifCond .le 36, 3) := by decide +kernel
theorem d_X3_call_47 : decode b_X3_call 47 = .ok (.iload_n 3, 1) := by decide +kernel
theorem d_X3_call_48 : decode b_X3_call 48 = .ok (.ifCond .eq 32, 3) := by decide +kernel
theorem d_X3_call_51 : decode b_X3_call 51 = .ok (.aload_n 0, 1) := by decide +kernel
theorem d_X3_call_52 : decode b_X3_call 52 = .ok (.iload_n 2, 1) := by decide +kernel
theorem d_X3_call_53 : decode b_X3_call 53 = .ok (.iconst 1, 1) := by decide +kernel
theorem d_X3_call_54 : decode b_X3_call 54 = .ok (.iadd, 1) := by decide +kernel
theorem d_X3_call_55 : decode b_X3_call 55 = .ok (.invokevirtual 119, 3) := by decide +kernel
theorem d_X3_call_80 : decode b_X3_call 80 = .ok (.aload_n 0, 1) := by decide +kernel
theorem d_X3_call_81 : decode b_X3_call 81 = .ok (.bipush 21, 2) := by decide +kernel
theorem d_X3_call_83 : decode b_X3_call 83 = .ok (.invokevirtual 56, 3) := by decide +kernel
theorem d_X3_call_86 : decode b_X3_call 86 = .ok (.aload_n 0, 1) := by decide +kernel
theorem d_X3_call_87 : decode b_X3_call 87 = .ok (.bipush 6, 2) := by decide +kernel
theorem d_X3_call_89 : decode b_X3_call 89 = .ok (.iload_n 1, 1) := by decide +kernel
theorem d_X3_call_90 : decode b_X3_call 90 = .ok (.iconst 0, 1) := by decide +kernel
theorem d_X3_call_91 : decode b_X3_call 91 = .ok (.iconst 0, 1) := by decide +kernel
theorem d_X3_call_92 : decode b_X3_call 92 = .ok (.invokevirtual 75, 3) := by decide +kernel
theorem d_X3_call_95 : decode b_X3_call 95 = .ok (.pop, 1) := by decide +kernel
theorem d_X3_call_96 : decode b_X3_call 96 = .ok (.return_, 1) := by decide +kernel
theorem d_X3_accept_0 : decode b_X3_accept 0 = .ok (.aload_n 0, 1) := by decide +kernel
theorem d_X3_accept_1 : decode b_X3_accept 1 = .ok (.getfield 53, 3) := by decide +kernel
theorem d_X3_accept_4 : decode b_X3_accept 4 = .ok (.iload_n 1, 1) := by decide +kernel
theorem d_X3_accept_5 : decode b_X3_accept 5 = .ok (.if_icmp .ne 7, 3) := by decide +kernel
theorem d_X3_accept_8 : decode b_X3_accept 8 = .ok (.iconst 1, 1) := by decide +kernel
theorem d_X3_accept_9 : decode b_X3_accept 9 = .ok (.goto 4, 3) := by decide +kernel
theorem d_X3_accept_12 : decode b_X3_accept 12 = .ok (.iconst 0, 1) := by decide +kernel
theorem d_X3_accept_13 : decode b_X3_accept 13 = .ok (.istore_n 2, 1) := by decide +kernel
theorem d_X3_accept_14 : decode b_X3_accept 14 = .ok (.iload_n 2, 1) := by decide +kernel
theorem d_X3_accept_15 : decode b_X3_accept 15 = .ok (.ifCond .eq 7, 3) := by decide +kernel
theorem d_X3_accept_18 : decode b_X3_accept 18 = .ok (.aload_n 0, 1) := by decide +kernel
theorem d_X3_accept_19 : decode b_X3_accept 19 = .ok (.invokevirtual 47, 3) := by decide +kernel
theorem d_X3_accept_22 : decode b_X3_accept 22 = .ok (.iload_n 2, 1) := by decide +kernel
theorem d_X3_accept_23 : decode b_X3_accept 23 = .ok (.ireturn, 1) := by decide +kernel
theorem d_X3_levelOf_0 : decode b_X3_levelOf 0 = .ok (.iload_n 0, 1) := by decide +kernel
theorem d_X3_levelOf_1 : decode b_X3_levelOf 1 = .ok (.bipush 41, 2) := by decide +kernel
theorem d_X3_levelOf_3 : decode b_X3_levelOf 3 = .ok (.isub, 1) := by decide +kernel
theorem d_X3_levelOf_4 : decode b_X3_levelOf 4 = .ok (.istore_n 1, 1) := by decide +kernel
theorem d_X3_levelOf_5 : decode b_X3_levelOf 5 = .ok (.iload_n 1, 1) := by decide +kernel
theorem d_X3_levelOf_6 : decode b_X3_levelOf 6 = .ok (.ifCond .lt 19, 3) := by decide +kernel
theorem d_X3_levelOf_9 : decode b_X3_levelOf 9 = .ok (.iload_n 1, 1) := by decide +kernel
theorem d_X3_levelOf_10 : decode b_X3_levelOf 10 = .ok (.getstatic 155, 3) := by decide +kernel
theorem d_X3_levelOf_13 : decode b_X3_levelOf 13 = .ok (.arraylength, 1) := by decide +kernel
theorem d_X3_levelOf_14 : decode b_X3_levelOf 14 = .ok (.if_icmp .ge 11, 3) := by decide +kernel
theorem d_X3_levelOf_17 : decode b_X3_levelOf 17 = .ok (.getstatic 155, 3) := by decide +kernel
theorem d_X3_levelOf_20 : decode b_X3_levelOf 20 = .ok (.iload_n 1, 1) := by decide +kernel
theorem d_X3_levelOf_21 : decode b_X3_levelOf 21 = .ok (.iaload, 1) := by decide +kernel
theorem d_X3_levelOf_22 : decode b_X3_levelOf 22 = .ok (.goto 4, 3) := by decide +kernel
theorem d_X3_levelOf_25 : decode b_X3_levelOf 25 = .ok (.iconst 0, 1) := by decide +kernel
theorem d_X3_levelOf_26 : decode b_X3_levelOf 26 = .ok (.ireturn, 1) := by decide +kernel
theorem d_X3_settle_0 : decode b_X3_settle 0 = .ok (.aload_n 0, 1) := by decide +kernel
theorem d_X3_settle_1 : decode b_X3_settle 1 = .ok (.getfield 38, 3) := by decide +kernel
theorem d_X3_settle_4 : decode b_X3_settle 4 = .ok (.iload_n 1, 1) := by decide +kernel
theorem d_X3_settle_5 : decode b_X3_settle 5 = .ok (.if_icmp .le 59, 3) := by decide +kernel
theorem d_X3_settle_8 : decode b_X3_settle 8 = .ok (.aload_n 0, 1) := by decide +kernel
theorem d_X3_settle_9 : decode b_X3_settle 9 = .ok (.getfield 24, 3) := by decide +kernel
theorem d_X3_settle_12 : decode b_X3_settle 12 = .ok (.aload_n 0, 1) := by decide +kernel
theorem d_X3_settle_13 : decode b_X3_settle 13 = .ok (.getfield 38, 3) := by decide +kernel
theorem d_X3_settle_16 : decode b_X3_settle 16 = .ok (.iconst 1, 1) := by decide +kernel
theorem d_X3_settle_17 : decode b_X3_settle 17 = .ok (.isub, 1) := by decide +kernel
theorem d_X3_settle_18 : decode b_X3_settle 18 = .ok (.invokestatic 93, 3) := by decide +kernel
theorem d_X3_settle_21 : decode b_X3_settle 21 = .ok (.istore_n 3, 1) := by decide +kernel
theorem d_X3_settle_22 : decode b_X3_settle 22 = .ok (.aload_n 0, 1) := by decide +kernel
theorem d_X3_settle_23 : decode b_X3_settle 23 = .ok (.getfield 30, 3) := by decide +kernel
theorem d_X3_settle_26 : decode b_X3_settle 26 = .ok (.getfield 79, 3) := by decide +kernel
theorem d_X3_settle_29 : decode b_X3_settle 29 = .ok (.iload_n 3, 1) := by decide +kernel
theorem d_X3_settle_30 : decode b_X3_settle 30 = .ok (.invokestatic 93, 3) := by decide +kernel
theorem d_X3_settle_33 : decode b_X3_settle 33 = .ok (.invokestatic 161, 3) := by decide +kernel
theorem d_X3_settle_36 : decode b_X3_settle 36 = .ok (.iload_n 2, 1) := by decide +kernel
theorem d_X3_settle_37 : decode b_X3_settle 37 = .ok (.if_icmp .ge 4, 3) := by decide +kernel
theorem d_X3_settle_40 : decode b_X3_settle 40 = .ok (.return_, 1) := by decide +kernel
theorem d_X3_settle_41 : decode b_X3_settle 41 = .ok (.aload_n 0, 1) := by decide +kernel
theorem d_X3_settle_42 : decode b_X3_settle 42 = .ok (.bipush 8, 2) := by decide +kernel
theorem d_X3_settle_44 : decode b_X3_settle 44 = .ok (.iload_n 3, 1) := by decide +kernel
theorem d_X3_settle_45 : decode b_X3_settle 45 = .ok (.iconst 0, 1) := by decide +kernel
theorem d_X3_settle_46 : decode b_X3_settle 46 = .ok (.iconst 0, 1) := by decide +kernel
theorem d_X3_settle_47 : decode b_X3_settle 47 = .ok (.invokevirtual 75, 3) := by decide +kernel
theorem d_X3_settle_50 : decode b_X3_settle 50 = .ok (.pop, 1) := by decide +kernel
theorem d_X3_settle_51 : decode b_X3_settle 51 = .ok (.aload_n 0, 1) := by decide +kernel
theorem d_X3_settle_52 : decode b_X3_settle 52 = .ok (.dup, 1) := by decide +kernel
theorem d_X3_settle_53 : decode b_X3_settle 53 = .ok (.getfield 38, 3) := by decide +kernel
theorem d_X3_settle_56 : decode b_X3_settle 56 = .ok (.iconst 1, 1) := by decide +kernel
theorem d_X3_settle_57 : decode b_X3_settle 57 = .ok (.isub, 1) := by decide +kernel
theorem d_X3_settle_58 : decode b_X3_settle 58 = .ok (.putfield 38, 3) := by decide +kernel
theorem d_X3_settle_61 : decode b_X3_settle 61 = .ok (.goto (-61), 3) := by decide +kernel
theorem d_X3_settle_64 : decode b_X3_settle 64 = .ok (.return_, 1) := by decide +kernel
theorem d_X3_initial_108 : decode b_X3_initial 108 = .ok (.iload 6, 2) := by decide +kernel
theorem d_X3_initial_110 : decode b_X3_initial 110 = .ok (.aload_n 0, 1) := by decide +kernel
theorem d_X3_initial_111 : decode b_X3_initial 111 = .ok (.getfield 30, 3) := by decide +kernel
theorem d_X3_initial_114 : decode b_X3_initial 114 = .ok (.getfield 50, 3) := by decide +kernel
theorem d_X3_initial_117 : decode b_X3_initial 117 = .ok (.if_icmp .ge 40, 3) := by decide +kernel
theorem d_X3_initial_120 : decode b_X3_initial 120 = .ok (.iload 7, 2) := by decide +kernel
theorem d_X3_initial_122 : decode b_X3_initial 122 = .ok (.ifCond .eq 35, 3) := by decide +kernel
theorem d_X3_initial_125 : decode b_X3_initial 125 = .ok (.aload_n 0, 1) := by decide +kernel
theorem d_X3_initial_126 : decode b_X3_initial 126 = .ok (.iconst 1, 1) := by decide +kernel
theorem d_X3_initial_127 : decode b_X3_initial 127 = .ok (.invokevirtual 119, 3) := by decide +kernel
theorem d_X3_initial_157 : decode b_X3_initial 157 = .ok (.aload_n 0, 1) := by decide +kernel
theorem d_X3_initial_158 : decode b_X3_initial 158 = .ok (.bipush 23, 2) := by decide +kernel
theorem d_X3_initial_160 : decode b_X3_initial 160 = .ok (.invokevirtual 56, 3) := by decide +kernel
theorem d_X3_initial_163 : decode b_X3_initial 163 = .ok (.aload_n 0, 1) := by decide +kernel
theorem d_X3_initial_164 : decode b_X3_initial 164 = .ok (.getfield 21, 3) := by decide +kernel
theorem d_X3_initial_167 : decode b_X3_initial 167 = .ok (.iload_n 1, 1) := by decide +kernel
theorem d_X3_initial_168 : decode b_X3_initial 168 = .ok (.iload 6, 2) := by decide +kernel
theorem d_X3_initial_170 : decode b_X3_initial 170 = .ok (.invokestatic 105, 3) := by decide +kernel
theorem d_X3_initial_173 : decode b_X3_initial 173 = .ok (.aload_n 0, 1) := by decide +kernel
theorem d_X3_initial_174 : decode b_X3_initial 174 = .ok (.bipush 46, 2) := by decide +kernel
theorem d_X3_initial_176 : decode b_X3_initial 176 = .ok (.iload_n 3, 1) := by decide +kernel
theorem d_X3_initial_177 : decode b_X3_initial 177 = .ok (.iconst 1, 1) := by decide +kernel
theorem d_X3_initial_178 : decode b_X3_initial 178 = .ok (.iconst 0, 1) := by decide +kernel
theorem d_X3_initial_179 : decode b_X3_initial 179 = .ok (.invokevirtual 75, 3) := by decide +kernel
theorem d_X3_initial_182 : decode b_X3_initial 182 = .ok (.pop, 1) := by decide +kernel
theorem d_X3_initial_183 : decode b_X3_initial 183 = .ok (.goto 57, 3) := by decide +kernel
theorem d_X3_initial_240 : decode b_X3_initial 240 = .ok (.return_, 1) := by decide +kernel
theorem d_X3_head_0 : decode b_X3_head 0 = .ok (.aload_n 0, 1) := by decide +kernel
theorem d_X3_head_1 : decode b_X3_head 1 = .ok (.bipush 20, 2) := by decide +kernel
theorem d_X3_head_3 : decode b_X3_head 3 = .ok (.invokevirtual 56, 3) := by decide +kernel
theorem d_X3_head_6 : decode b_X3_head 6 = .ok (.iconst 0, 1) := by decide +kernel
theorem d_X3_head_7 : decode b_X3_head 7 = .ok (.istore 4, 2) := by decide +kernel
theorem d_X3_head_9 : decode b_X3_head 9 = .ok (.aload_n 0, 1) := by decide +kernel
theorem d_X3_head_10 : decode b_X3_head 10 = .ok (.getfield 53, 3) := by decide +kernel
theorem d_X3_head_13 : decode b_X3_head 13 = .ok (.bipush 6, 2) := by decide +kernel
theorem d_X3_head_15 : decode b_X3_head 15 = .ok (.if_icmp .ne 10, 3) := by decide +kernel
theorem d_X3_head_18 : decode b_X3_head 18 = .ok (.aload_n 0, 1) := by decide +kernel
theorem d_X3_head_19 : decode b_X3_head 19 = .ok (.invokevirtual 47, 3) := by decide +kernel
theorem d_X3_head_22 : decode b_X3_head 22 = .ok (.goto 18, 3) := by decide +kernel
theorem d_X3_head_25 : decode b_X3_head 25 = .ok (.aload_n 0, 1) := by decide +kernel
theorem d_X3_head_26 : decode b_X3_head 26 = .ok (.getfield 53, 3) := by decide +kernel
theorem d_X3_head_29 : decode b_X3_head 29 = .ok (.bipush 21, 2) := by decide +kernel
theorem d_X3_head_31 : decode b_X3_head 31 = .ok (.if_icmp .eq 9, 3) := by decide +kernel
theorem d_X3_head_34 : decode b_X3_head 34 = .ok (.aload_n 0, 1) := by decide +kernel
theorem d_X3_head_35 : decode b_X3_head 35 = .ok (.invokevirtual 85, 3) := by decide +kernel
theorem d_X3_head_38 : decode b_X3_head 38 = .ok (.istore 4, 2) := by decide +kernel
theorem d_X3_head_40 : decode b_X3_head 40 = .ok (.aload_n 0, 1) := by decide +kernel
theorem d_X3_head_41 : decode b_X3_head 41 = .ok (.bipush 21, 2) := by decide +kernel
theorem d_X3_head_43 : decode b_X3_head 43 = .ok (.invokevirtual 56, 3) := by decide +kernel
theorem d_X3_head_46 : decode b_X3_head 46 = .ok (.aload_n 0, 1) := by decide +kernel
theorem d_X3_head_47 : decode b_X3_head 47 = .ok (.getfield 53, 3) := by decide +kernel
theorem d_X3_head_50 : decode b_X3_head 50 = .ok (.bipush 22, 2) := by decide +kernel
theorem d_X3_head_52 : decode b_X3_head 52 = .ok (.if_icmp .ne 7, 3) := by decide +kernel
theorem d_X3_head_55 : decode b_X3_head 55 = .ok (.iconst 1, 1) := by decide +kernel
theorem d_X3_head_56 : decode b_X3_head 56 = .ok (.goto 4, 3) := by decide +kernel
theorem d_X3_head_59 : decode b_X3_head 59 = .ok (.iconst 0, 1) := by decide +kernel
theorem d_X3_head_60 : decode b_X3_head 60 = .ok (.istore 5, 2) := by decide +kernel
theorem d_X3_head_62 : decode b_X3_head 62 = .ok (.aload_n 0, 1) := by decide +kernel
theorem d_X3_head_63 : decode b_X3_head 63 = .ok (.bipush 47, 2) := by decide +kernel
theorem d_X3_head_65 : decode b_X3_head 65 = .ok (.iload_n 1, 1) := by decide +kernel
theorem d_X3_head_66 : decode b_X3_head 66 = .ok (.iload 4, 2) := by decide +kernel
theorem d_X3_head_68 : decode b_X3_head 68 = .ok (.iload_n 2, 1) := by decide +kernel
theorem d_X3_head_69 : decode b_X3_head 69 = .ok (.iconst 1, 1) := by decide +kernel
theorem d_X3_head_70 : decode b_X3_head 70 = .ok (.iadd, 1) := by decide +kernel
theorem d_X3_head_71 : decode b_X3_head 71 = .ok (.bipush 8, 2) := by decide +kernel
theorem d_X3_head_73 : decode b_X3_head 73 = .ok (.imul, 1) := by decide +kernel
theorem d_X3_head_74 : decode b_X3_head 74 = .ok (.iload_n 3, 1) := by decide +kernel
theorem d_X3_head_75 : decode b_X3_head 75 = .ok (.iadd, 1) := by decide +kernel
theorem d_X3_head_76 : decode b_X3_head 76 = .ok (.iload 5, 2) := by decide +kernel
theorem d_X3_head_78 : decode b_X3_head 78 = .ok (.ifCond .eq 7, 3) := by decide +kernel
theorem d_X3_head_81 : decode b_X3_head 81 = .ok (.iconst 4, 1) := by decide +kernel
theorem d_X3_head_82 : decode b_X3_head 82 = .ok (.goto 4, 3) := by decide +kernel
theorem d_X3_head_85 : decode b_X3_head 85 = .ok (.iconst 0, 1) := by decide +kernel
theorem d_X3_head_86 : decode b_X3_head 86 = .ok (.iadd, 1) := by decide +kernel
theorem d_X3_head_87 : decode b_X3_head 87 = .ok (.invokevirtual 75, 3) := by decide +kernel
theorem d_X3_head_90 : decode b_X3_head 90 = .ok (.pop, 1) := by decide +kernel
theorem d_X3_head_91 : decode b_X3_head 91 = .ok (.iload 5, 2) := by decide +kernel
theorem d_X3_head_93 : decode b_X3_head 93 = .ok (.ifCond .ne 9, 3) := by decide +kernel
theorem d_X3_head_96 : decode b_X3_head 96 = .ok (.aload_n 0, 1) := by decide +kernel
theorem d_X3_head_97 : decode b_X3_head 97 = .ok (.bipush 27, 2) := by decide +kernel
theorem d_X3_head_99 : decode b_X3_head 99 = .ok (.invokevirtual 56, 3) := by decide +kernel
theorem d_X3_head_102 : decode b_X3_head 102 = .ok (.iconst 0, 1) := by decide +kernel
theorem d_X3_head_103 : decode b_X3_head 103 = .ok (.istore 6, 2) := by decide +kernel
theorem d_X3_head_105 : decode b_X3_head 105 = .ok (.iload 6, 2) := by decide +kernel
theorem d_X3_head_107 : decode b_X3_head 107 = .ok (.iload 4, 2) := by decide +kernel
theorem d_X3_head_109 : decode b_X3_head 109 = .ok (.invokestatic 88, 3) := by decide +kernel
theorem d_X3_head_112 : decode b_X3_head 112 = .ok (.if_icmp .ge 38, 3) := by decide +kernel
theorem d_X3_head_115 : decode b_X3_head 115 = .ok (.iload 5, 2) := by decide +kernel
theorem d_X3_head_117 : decode b_X3_head 117 = .ok (.ifCond .eq 33, 3) := by decide +kernel
theorem d_X3_head_120 : decode b_X3_head 120 = .ok (.aload_n 0, 1) := by decide +kernel
theorem d_X3_head_121 : decode b_X3_head 121 = .ok (.bipush 48, 2) := by decide +kernel
theorem d_X3_head_123 : decode b_X3_head 123 = .ok (.aload_n 0, 1) := by decide +kernel
theorem d_X3_head_124 : decode b_X3_head 124 = .ok (.getfield 27, 3) := by decide +kernel
theorem d_X3_head_127 : decode b_X3_head 127 = .ok (.iload 6, 2) := by decide +kernel
theorem d_X3_head_129 : decode b_X3_head 129 = .ok (.invokestatic 93, 3) := by decide +kernel
theorem d_X3_head_132 : decode b_X3_head 132 = .ok (.iload 4, 2) := by decide +kernel
theorem d_X3_head_134 : decode b_X3_head 134 = .ok (.iload 6, 2) := by decide +kernel
theorem d_X3_head_136 : decode b_X3_head 136 = .ok (.invokestatic 97, 3) := by decide +kernel
theorem d_X3_head_139 : decode b_X3_head 139 = .ok (.iconst 0, 1) := by decide +kernel
theorem d_X3_head_140 : decode b_X3_head 140 = .ok (.invokevirtual 75, 3) := by decide +kernel
theorem d_X3_head_143 : decode b_X3_head 143 = .ok (.pop, 1) := by decide +kernel
theorem d_X3_head_144 : decode b_X3_head 144 = .ok (.iinc 6 1, 3) := by decide +kernel
theorem d_X3_head_147 : decode b_X3_head 147 = .ok (.goto (-42), 3) := by decide +kernel
theorem d_X3_head_150 : decode b_X3_head 150 = .ok (.iload 5, 2) := by decide +kernel
theorem d_X3_head_152 : decode b_X3_head 152 = .ok (.ireturn, 1) := by decide +kernel
theorem d_X3_parameters_0 : decode b_X3_parameters 0 = .ok (.iconst 0, 1) := by decide +kernel
theorem d_X3_parameters_1 : decode b_X3_parameters 1 = .ok (.istore_n 1, 1) := by decide +kernel
theorem d_X3_parameters_2 : decode b_X3_parameters 2 = .ok (.iconst 0, 1) := by decide +kernel
theorem d_X3_parameters_3 : decode b_X3_parameters 3 = .ok (.istore_n 2, 1) := by decide +kernel
theorem d_X3_parameters_4 : decode b_X3_parameters 4 = .ok (.iconst 1, 1) := by decide +kernel
theorem d_X3_parameters_5 : decode b_X3_parameters 5 = .ok (.istore_n 3, 1) := by decide +kernel
theorem d_X3_parameters_6 : decode b_X3_parameters 6 = .ok (.iload_n 2, 1) := by decide +kernel
theorem d_X3_parameters_7 : decode b_X3_parameters 7 = .ok (.bipush 8, 2) := by decide +kernel
theorem d_X3_parameters_9 : decode b_X3_parameters 9 = .ok (.if_icmp .ge 91, 3) := by decide +kernel
theorem d_X3_parameters_12 : decode b_X3_parameters 12 = .ok (.iload_n 3, 1) := by decide +kernel
theorem d_X3_parameters_13 : decode b_X3_parameters 13 = .ok (.ifCond .eq 87, 3) := by decide +kernel
theorem d_X3_parameters_16 : decode b_X3_parameters 16 = .ok (.aload_n 0, 1) := by decide +kernel
theorem d_X3_parameters_17 : decode b_X3_parameters 17 = .ok (.iconst 5, 1) := by decide +kernel
theorem d_X3_parameters_18 : decode b_X3_parameters 18 = .ok (.invokevirtual 56, 3) := by decide +kernel
theorem d_X3_parameters_21 : decode b_X3_parameters 21 = .ok (.aload_n 0, 1) := by decide +kernel
theorem d_X3_parameters_22 : decode b_X3_parameters 22 = .ok (.invokevirtual 60, 3) := by decide +kernel
theorem d_X3_parameters_25 : decode b_X3_parameters 25 = .ok (.istore 4, 2) := by decide +kernel
theorem d_X3_parameters_27 : decode b_X3_parameters 27 = .ok (.aload_n 0, 1) := by decide +kernel
theorem d_X3_parameters_28 : decode b_X3_parameters 28 = .ok (.getfield 44, 3) := by decide +kernel
theorem d_X3_parameters_31 : decode b_X3_parameters 31 = .ok (.istore 5, 2) := by decide +kernel
theorem d_X3_parameters_33 : decode b_X3_parameters 33 = .ok (.aload_n 0, 1) := by decide +kernel
theorem d_X3_parameters_34 : decode b_X3_parameters 34 = .ok (.iconst 2, 1) := by decide +kernel
theorem d_X3_parameters_35 : decode b_X3_parameters 35 = .ok (.invokevirtual 101, 3) := by decide +kernel
theorem d_X3_parameters_38 : decode b_X3_parameters 38 = .ok (.istore 6, 2) := by decide +kernel
theorem d_X3_parameters_40 : decode b_X3_parameters 40 = .ok (.aload_n 0, 1) := by decide +kernel
theorem d_X3_parameters_41 : decode b_X3_parameters 41 = .ok (.bipush 24, 2) := by decide +kernel
theorem d_X3_parameters_43 : decode b_X3_parameters 43 = .ok (.invokevirtual 101, 3) := by decide +kernel
theorem d_X3_parameters_46 : decode b_X3_parameters 46 = .ok (.ifCond .eq 12, 3) := by decide +kernel
theorem d_X3_parameters_49 : decode b_X3_parameters 49 = .ok (.aload_n 0, 1) := by decide +kernel
theorem d_X3_parameters_50 : decode b_X3_parameters 50 = .ok (.bipush 25, 2) := by decide +kernel
theorem d_X3_parameters_52 : decode b_X3_parameters 52 = .ok (.invokevirtual 56, 3) := by decide +kernel
theorem d_X3_parameters_55 : decode b_X3_parameters 55 = .ok (.iinc 4 1, 3) := by decide +kernel
theorem d_X3_parameters_58 : decode b_X3_parameters 58 = .ok (.aload_n 0, 1) := by decide +kernel
theorem d_X3_parameters_59 : decode b_X3_parameters 59 = .ok (.getfield 27, 3) := by decide +kernel
theorem d_X3_parameters_62 : decode b_X3_parameters 62 = .ok (.iload_n 2, 1) := by decide +kernel
theorem d_X3_parameters_63 : decode b_X3_parameters 63 = .ok (.iload 6, 2) := by decide +kernel
theorem d_X3_parameters_65 : decode b_X3_parameters 65 = .ok (.ifCond .eq 8, 3) := by decide +kernel
theorem d_X3_parameters_68 : decode b_X3_parameters 68 = .ok (.iload 5, 2) := by decide +kernel
theorem d_X3_parameters_70 : decode b_X3_parameters 70 = .ok (.goto 7, 3) := by decide +kernel
theorem d_X3_parameters_73 : decode b_X3_parameters 73 = .ok (.aload_n 0, 1) := by decide +kernel
theorem d_X3_parameters_74 : decode b_X3_parameters 74 = .ok (.getfield 44, 3) := by decide +kernel
theorem d_X3_parameters_77 : decode b_X3_parameters 77 = .ok (.invokestatic 105, 3) := by decide +kernel
theorem d_X3_parameters_80 : decode b_X3_parameters 80 = .ok (.iload_n 1, 1) := by decide +kernel
theorem d_X3_parameters_81 : decode b_X3_parameters 81 = .ok (.iload 4, 2) := by decide +kernel
theorem d_X3_parameters_83 : decode b_X3_parameters 83 = .ok (.invokestatic 109, 3) := by decide +kernel
theorem d_X3_parameters_86 : decode b_X3_parameters 86 = .ok (.istore_n 1, 1) := by decide +kernel
theorem d_X3_parameters_87 : decode b_X3_parameters 87 = .ok (.aload_n 0, 1) := by decide +kernel
theorem d_X3_parameters_88 : decode b_X3_parameters 88 = .ok (.bipush 26, 2) := by decide +kernel
theorem d_X3_parameters_90 : decode b_X3_parameters 90 = .ok (.invokevirtual 101, 3) := by decide +kernel
theorem d_X3_parameters_93 : decode b_X3_parameters 93 = .ok (.istore_n 3, 1) := by decide +kernel
theorem d_X3_parameters_94 : decode b_X3_parameters 94 = .ok (.iinc 2 1, 3) := by decide +kernel
theorem d_X3_parameters_97 : decode b_X3_parameters 97 = .ok (.goto (-91), 3) := by decide +kernel
theorem d_X3_parameters_100 : decode b_X3_parameters 100 = .ok (.iload_n 3, 1) := by decide +kernel
theorem d_X3_parameters_101 : decode b_X3_parameters 101 = .ok (.ifCond .eq 7, 3) := by decide +kernel
theorem d_X3_parameters_104 : decode b_X3_parameters 104 = .ok (.aload_n 0, 1) := by decide +kernel
theorem d_X3_parameters_105 : decode b_X3_parameters 105 = .ok (.invokevirtual 82, 3) := by decide +kernel
theorem d_X3_parameters_108 : decode b_X3_parameters 108 = .ok (.iload_n 1, 1) := by decide +kernel
theorem d_X3_parameters_109 : decode b_X3_parameters 109 = .ok (.ireturn, 1) := by decide +kernel
theorem d_X8_withParameter_0 : decode b_X8_withParameter 0 = .ok (.iload_n 0, 1) := by decide +kernel
theorem d_X8_withParameter_1 : decode b_X8_withParameter 1 = .ok (.ldc 83, 2) := by decide +kernel
theorem d_X8_withParameter_3 : decode b_X8_withParameter 3 = .ok (.iadd, 1) := by decide +kernel
theorem d_X8_withParameter_4 : decode b_X8_withParameter 4 = .ok (.iload_n 1, 1) := by decide +kernel
theorem d_X8_withParameter_5 : decode b_X8_withParameter 5 = .ok (.iconst 3, 1) := by decide +kernel
theorem d_X8_withParameter_6 : decode b_X8_withParameter 6 = .ok (.iload_n 0, 1) := by decide +kernel
theorem d_X8_withParameter_7 : decode b_X8_withParameter 7 = .ok (.invokestatic 84, 3) := by decide +kernel
theorem d_X8_withParameter_10 : decode b_X8_withParameter 10 = .ok (.imul, 1) := by decide +kernel
theorem d_X8_withParameter_11 : decode b_X8_withParameter 11 = .ok (.ishl, 1) := by decide +kernel
theorem d_X8_withParameter_12 : decode b_X8_withParameter 12 = .ok (.ior, 1) := by decide +kernel
theorem d_X8_withParameter_13 : decode b_X8_withParameter 13 = .ok (.ireturn, 1) := by decide +kernel
theorem d_X8_parameters_0 : decode b_X8_parameters 0 = .ok (.iload_n 0, 1) := by decide +kernel
theorem d_X8_parameters_1 : decode b_X8_parameters 1 = .ok (.bipush 24, 2) := by decide +kernel
theorem d_X8_parameters_3 : decode b_X8_parameters 3 = .ok (.iushr, 1) := by decide +kernel
theorem d_X8_parameters_4 : decode b_X8_parameters 4 = .ok (.ireturn, 1) := by decide +kernel
theorem d_X8_parameter_0 : decode b_X8_parameter 0 = .ok (.iload_n 0, 1) := by decide +kernel
theorem d_X8_parameter_1 : decode b_X8_parameter 1 = .ok (.iconst 3, 1) := by decide +kernel
theorem d_X8_parameter_2 : decode b_X8_parameter 2 = .ok (.iload_n 1, 1) := by decide +kernel
theorem d_X8_parameter_3 : decode b_X8_parameter 3 = .ok (.imul, 1) := by decide +kernel
theorem d_X8_parameter_4 : decode b_X8_parameter 4 = .ok (.iushr, 1) := by decide +kernel
theorem d_X8_parameter_5 : decode b_X8_parameter 5 = .ok (.bipush 7, 2) := by decide +kernel
theorem d_X8_parameter_7 : decode b_X8_parameter 7 = .ok (.iand, 1) := by decide +kernel
theorem d_X8_parameter_8 : decode b_X8_parameter 8 = .ok (.ireturn, 1) := by decide +kernel
theorem d_X3_statements_14 : decode b_X3_statements 14 = .ok (.iload_n 2, 1) := by decide +kernel
theorem d_X3_statements_15 : decode b_X3_statements 15 = .ok (.ifCond .le 30, 3) := by decide +kernel
theorem d_X3_statements_18 : decode b_X3_statements 18 = .ok (.aload_n 0, 1) := by decide +kernel
theorem d_X3_statements_19 : decode b_X3_statements 19 = .ok (.getfield 41, 3) := by decide +kernel
theorem d_X3_statements_22 : decode b_X3_statements 22 = .ok (.ifCond .ge 23, 3) := by decide +kernel
theorem d_X3_statements_25 : decode b_X3_statements 25 = .ok (.aload_n 0, 1) := by decide +kernel
theorem d_X3_statements_26 : decode b_X3_statements 26 = .ok (.getfield 53, 3) := by decide +kernel
theorem d_X3_statements_29 : decode b_X3_statements 29 = .ok (.bipush 23, 2) := by decide +kernel
theorem d_X3_statements_31 : decode b_X3_statements 31 = .ok (.if_icmp .eq 14, 3) := by decide +kernel
theorem d_X3_statements_34 : decode b_X3_statements 34 = .ok (.aload_n 0, 1) := by decide +kernel
theorem d_X3_statements_35 : decode b_X3_statements 35 = .ok (.iload_n 1, 1) := by decide +kernel
theorem d_X3_statements_36 : decode b_X3_statements 36 = .ok (.invokevirtual 125, 3) := by decide +kernel
theorem d_X3_statements_45 : decode b_X3_statements 45 = .ok (.aload_n 0, 1) := by decide +kernel
theorem d_X3_statements_46 : decode b_X3_statements 46 = .ok (.bipush 23, 2) := by decide +kernel
theorem d_X3_statements_48 : decode b_X3_statements 48 = .ok (.invokevirtual 56, 3) := by decide +kernel
theorem d_X3_statements_51 : decode b_X3_statements 51 = .ok (.return_, 1) := by decide +kernel
theorem d_X3_statement_0 : decode b_X3_statement 0 = .ok (.iload_n 1, 1) := by decide +kernel
theorem d_X3_statement_1 : decode b_X3_statement 1 = .ok (.bipush 25, 2) := by decide +kernel
theorem d_X3_statement_3 : decode b_X3_statement 3 = .ok (.if_icmp .le 8, 3) := by decide +kernel
theorem d_X3_statement_11 : decode b_X3_statement 11 = .ok (.aload_n 0, 1) := by decide +kernel
theorem d_X3_statement_12 : decode b_X3_statement 12 = .ok (.getfield 44, 3) := by decide +kernel
theorem d_X3_statement_15 : decode b_X3_statement 15 = .ok (.istore_n 2, 1) := by decide +kernel
theorem d_X3_statement_16 : decode b_X3_statement 16 = .ok (.aload_n 0, 1) := by decide +kernel
theorem d_X3_statement_17 : decode b_X3_statement 17 = .ok (.getfield 53, 3) := by decide +kernel
theorem d_X3_statement_20 : decode b_X3_statement 20 = .ok (.tableswitch 192 5 27 #[145, 192, 192, 192, 176, 192, 184, 184, 184, 192, 192, 192, 192, 192, 192, 192, 192, 108, 192, 192, 192, 192, 138], 108) := by decide +kernel
theorem d_X3_statement_165 : decode b_X3_statement 165 = .ok (.aload_n 0, 1) := by decide +kernel
theorem d_X3_statement_166 : decode b_X3_statement 166 = .ok (.invokevirtual 47, 3) := by decide +kernel
theorem d_X3_statement_169 : decode b_X3_statement 169 = .ok (.aload_n 0, 1) := by decide +kernel
theorem d_X3_statement_170 : decode b_X3_statement 170 = .ok (.invokevirtual 60, 3) := by decide +kernel
theorem d_X3_statement_173 : decode b_X3_statement 173 = .ok (.istore_n 3, 1) := by decide +kernel
theorem d_X3_statement_174 : decode b_X3_statement 174 = .ok (.aload_n 0, 1) := by decide +kernel
theorem d_X3_statement_175 : decode b_X3_statement 175 = .ok (.getfield 44, 3) := by decide +kernel
theorem d_X3_statement_178 : decode b_X3_statement 178 = .ok (.istore 4, 2) := by decide +kernel
theorem d_X3_statement_180 : decode b_X3_statement 180 = .ok (.aload_n 0, 1) := by decide +kernel
theorem d_X3_statement_181 : decode b_X3_statement 181 = .ok (.iconst 2, 1) := by decide +kernel
theorem d_X3_statement_182 : decode b_X3_statement 182 = .ok (.invokevirtual 56, 3) := by decide +kernel
theorem d_X3_statement_185 : decode b_X3_statement 185 = .ok (.aload_n 0, 1) := by decide +kernel
theorem d_X3_statement_186 : decode b_X3_statement 186 = .ok (.iload 4, 2) := by decide +kernel
theorem d_X3_statement_188 : decode b_X3_statement 188 = .ok (.iload_n 3, 1) := by decide +kernel
theorem d_X3_statement_189 : decode b_X3_statement 189 = .ok (.iconst 0, 1) := by decide +kernel
theorem d_X3_statement_190 : decode b_X3_statement 190 = .ok (.invokevirtual 64, 3) := by decide +kernel
theorem d_X3_conditional_0 : decode b_X3_conditional 0 = .ok (.aload_n 0, 1) := by decide +kernel
theorem d_X3_conditional_1 : decode b_X3_conditional 1 = .ok (.getfield 44, 3) := by decide +kernel
theorem d_X3_conditional_4 : decode b_X3_conditional 4 = .ok (.istore_n 2, 1) := by decide +kernel
theorem d_X3_conditional_5 : decode b_X3_conditional 5 = .ok (.aload_n 0, 1) := by decide +kernel
theorem d_X3_conditional_6 : decode b_X3_conditional 6 = .ok (.invokevirtual 47, 3) := by decide +kernel
theorem d_X3_conditional_9 : decode b_X3_conditional 9 = .ok (.aload_n 0, 1) := by decide +kernel
theorem d_X3_conditional_10 : decode b_X3_conditional 10 = .ok (.bipush 23, 2) := by decide +kernel
theorem d_X3_conditional_12 : decode b_X3_conditional 12 = .ok (.iload_n 2, 1) := by decide +kernel
theorem d_X3_conditional_13 : decode b_X3_conditional 13 = .ok (.invokevirtual 137, 3) := by decide +kernel
theorem d_X3_condition_0 : decode b_X3_condition 0 = .ok (.aload_n 0, 1) := by decide +kernel
theorem d_X3_condition_1 : decode b_X3_condition 1 = .ok (.bipush 20, 2) := by decide +kernel
theorem d_X3_condition_3 : decode b_X3_condition 3 = .ok (.invokevirtual 56, 3) := by decide +kernel
theorem d_X3_condition_6 : decode b_X3_condition 6 = .ok (.aload_n 0, 1) := by decide +kernel
theorem d_X3_condition_7 : decode b_X3_condition 7 = .ok (.iconst 1, 1) := by decide +kernel
theorem d_X3_condition_8 : decode b_X3_condition 8 = .ok (.invokevirtual 119, 3) := by decide +kernel
theorem d_X3_body_0 : decode b_X3_body 0 = .ok (.aload_n 0, 1) := by decide +kernel
theorem d_X3_body_1 : decode b_X3_body 1 = .ok (.bipush 20, 2) := by decide +kernel
theorem d_X3_body_3 : decode b_X3_body 3 = .ok (.aload_n 0, 1) := by decide +kernel
theorem d_X3_body_4 : decode b_X3_body 4 = .ok (.getfield 44, 3) := by decide +kernel
theorem d_X3_body_7 : decode b_X3_body 7 = .ok (.iconst 0, 1) := by decide +kernel
theorem d_X3_body_8 : decode b_X3_body 8 = .ok (.iconst 0, 1) := by decide +kernel
theorem d_X3_body_9 : decode b_X3_body 9 = .ok (.invokevirtual 75, 3) := by decide +kernel
theorem d_X3_body_12 : decode b_X3_body 12 = .ok (.pop, 1) := by decide +kernel
theorem d_X3_body_13 : decode b_X3_body 13 = .ok (.aload_n 0, 1) := by decide +kernel
theorem d_X3_body_14 : decode b_X3_body 14 = .ok (.iload_n 1, 1) := by decide +kernel
theorem d_X3_body_15 : decode b_X3_body 15 = .ok (.iconst 1, 1) := by decide +kernel
theorem d_X3_body_16 : decode b_X3_body 16 = .ok (.iadd, 1) := by decide +kernel
theorem d_X3_body_17 : decode b_X3_body 17 = .ok (.invokevirtual 125, 3) := by decide +kernel
theorem d_X3_loop_0 : decode b_X3_loop 0 = .ok (.aload_n 0, 1) := by decide +kernel
theorem d_X3_loop_1 : decode b_X3_loop 1 = .ok (.getfield 44, 3) := by decide +kernel
theorem d_X3_loop_4 : decode b_X3_loop 4 = .ok (.istore_n 2, 1) := by decide +kernel
theorem d_X3_loop_5 : decode b_X3_loop 5 = .ok (.aload_n 0, 1) := by decide +kernel
theorem d_X3_loop_6 : decode b_X3_loop 6 = .ok (.getfield 53, 3) := by decide +kernel
theorem d_X3_loop_9 : decode b_X3_loop 9 = .ok (.istore_n 3, 1) := by decide +kernel
theorem d_X3_loop_10 : decode b_X3_loop 10 = .ok (.aload_n 0, 1) := by decide +kernel
theorem d_X3_loop_11 : decode b_X3_loop 11 = .ok (.invokevirtual 47, 3) := by decide +kernel
theorem d_X3_loop_14 : decode b_X3_loop 14 = .ok (.iload_n 3, 1) := by decide +kernel
theorem d_X3_loop_15 : decode b_X3_loop 15 = .ok (.bipush 11, 2) := by decide +kernel
theorem d_X3_loop_17 : decode b_X3_loop 17 = .ok (.if_icmp .ne 38, 3) := by decide +kernel
theorem d_X3_loop_55 : decode b_X3_loop 55 = .ok (.iload_n 3, 1) := by decide +kernel
theorem d_X3_loop_56 : decode b_X3_loop 56 = .ok (.bipush 12, 2) := by decide +kernel
theorem d_X3_loop_58 : decode b_X3_loop 58 = .ok (.if_icmp .ne 58, 3) := by decide +kernel
theorem d_X3_loop_116 : decode b_X3_loop 116 = .ok (.aload_n 0, 1) := by decide +kernel
theorem d_X3_loop_117 : decode b_X3_loop 117 = .ok (.iload_n 2, 1) := by decide +kernel
theorem d_X3_loop_118 : decode b_X3_loop 118 = .ok (.invokevirtual 143, 3) := by decide +kernel
theorem d_X3_counted_0 : decode b_X3_counted 0 = .ok (.aload_n 0, 1) := by decide +kernel
theorem d_X3_counted_1 : decode b_X3_counted 1 = .ok (.bipush 20, 2) := by decide +kernel
theorem d_X3_counted_3 : decode b_X3_counted 3 = .ok (.invokevirtual 56, 3) := by decide +kernel
theorem d_X3_counted_6 : decode b_X3_counted 6 = .ok (.aload_n 0, 1) := by decide +kernel
theorem d_X3_counted_7 : decode b_X3_counted 7 = .ok (.getfield 53, 3) := by decide +kernel
theorem d_X3_counted_10 : decode b_X3_counted 10 = .ok (.bipush 27, 2) := by decide +kernel
theorem d_X3_counted_12 : decode b_X3_counted 12 = .ok (.if_icmp .eq 18, 3) := by decide +kernel
theorem d_X3_counted_30 : decode b_X3_counted 30 = .ok (.aload_n 0, 1) := by decide +kernel
theorem d_X3_counted_31 : decode b_X3_counted 31 = .ok (.bipush 27, 2) := by decide +kernel
theorem d_X3_counted_33 : decode b_X3_counted 33 = .ok (.invokevirtual 56, 3) := by decide +kernel
theorem d_X3_counted_36 : decode b_X3_counted 36 = .ok (.aload_n 0, 1) := by decide +kernel
theorem d_X3_counted_37 : decode b_X3_counted 37 = .ok (.bipush 32, 2) := by decide +kernel
theorem d_X3_counted_39 : decode b_X3_counted 39 = .ok (.iload_n 1, 1) := by decide +kernel
theorem d_X3_counted_40 : decode b_X3_counted 40 = .ok (.iconst 0, 1) := by decide +kernel
theorem d_X3_counted_41 : decode b_X3_counted 41 = .ok (.iconst 0, 1) := by decide +kernel
theorem d_X3_counted_42 : decode b_X3_counted 42 = .ok (.invokevirtual 75, 3) := by decide +kernel
theorem d_X3_counted_45 : decode b_X3_counted 45 = .ok (.pop, 1) := by decide +kernel
theorem d_X3_counted_46 : decode b_X3_counted 46 = .ok (.aload_n 0, 1) := by decide +kernel
theorem d_X3_counted_47 : decode b_X3_counted 47 = .ok (.getfield 53, 3) := by decide +kernel
theorem d_X3_counted_50 : decode b_X3_counted 50 = .ok (.bipush 27, 2) := by decide +kernel
theorem d_X3_counted_52 : decode b_X3_counted 52 = .ok (.if_icmp .eq 7, 3) := by decide +kernel
theorem d_X3_counted_59 : decode b_X3_counted 59 = .ok (.iconst 0, 1) := by decide +kernel
theorem d_X3_counted_60 : decode b_X3_counted 60 = .ok (.istore_n 2, 1) := by decide +kernel
theorem d_X3_counted_61 : decode b_X3_counted 61 = .ok (.iload_n 2, 1) := by decide +kernel
theorem d_X3_counted_62 : decode b_X3_counted 62 = .ok (.ifCond .eq 8, 3) := by decide +kernel
theorem d_X3_counted_70 : decode b_X3_counted 70 = .ok (.aload_n 0, 1) := by decide +kernel
theorem d_X3_counted_71 : decode b_X3_counted 71 = .ok (.bipush 33, 2) := by decide +kernel
theorem d_X3_counted_73 : decode b_X3_counted 73 = .ok (.iload_n 1, 1) := by decide +kernel
theorem d_X3_counted_74 : decode b_X3_counted 74 = .ok (.iload_n 2, 1) := by decide +kernel
theorem d_X3_counted_75 : decode b_X3_counted 75 = .ok (.ifCond .eq 7, 3) := by decide +kernel
theorem d_X3_counted_82 : decode b_X3_counted 82 = .ok (.iconst 0, 1) := by decide +kernel
theorem d_X3_counted_83 : decode b_X3_counted 83 = .ok (.iconst 0, 1) := by decide +kernel
theorem d_X3_counted_84 : decode b_X3_counted 84 = .ok (.invokevirtual 75, 3) := by decide +kernel
theorem d_X3_counted_87 : decode b_X3_counted 87 = .ok (.pop, 1) := by decide +kernel
theorem d_X3_counted_88 : decode b_X3_counted 88 = .ok (.aload_n 0, 1) := by decide +kernel
theorem d_X3_counted_89 : decode b_X3_counted 89 = .ok (.bipush 27, 2) := by decide +kernel
theorem d_X3_counted_91 : decode b_X3_counted 91 = .ok (.invokevirtual 56, 3) := by decide +kernel
theorem d_X3_counted_94 : decode b_X3_counted 94 = .ok (.aload_n 0, 1) := by decide +kernel
theorem d_X3_counted_95 : decode b_X3_counted 95 = .ok (.getfield 53, 3) := by decide +kernel
theorem d_X3_counted_98 : decode b_X3_counted 98 = .ok (.bipush 21, 2) := by decide +kernel
theorem d_X3_counted_100 : decode b_X3_counted 100 = .ok (.if_icmp .eq 18, 3) := by decide +kernel
theorem d_X3_counted_103 : decode b_X3_counted 103 = .ok (.aload_n 0, 1) := by decide +kernel
theorem d_X3_counted_104 : decode b_X3_counted 104 = .ok (.iconst 1, 1) := by decide +kernel
theorem d_X3_counted_105 : decode b_X3_counted 105 = .ok (.invokevirtual 119, 3) := by decide +kernel
theorem d_X3_counted_118 : decode b_X3_counted 118 = .ok (.aload_n 0, 1) := by decide +kernel
theorem d_X3_counted_119 : decode b_X3_counted 119 = .ok (.bipush 21, 2) := by decide +kernel
theorem d_X3_counted_121 : decode b_X3_counted 121 = .ok (.invokevirtual 56, 3) := by decide +kernel
theorem d_X3_counted_124 : decode b_X3_counted 124 = .ok (.aload_n 0, 1) := by decide +kernel
theorem d_X3_counted_125 : decode b_X3_counted 125 = .ok (.bipush 34, 2) := by decide +kernel
theorem d_X3_counted_127 : decode b_X3_counted 127 = .ok (.iload_n 1, 1) := by decide +kernel
theorem d_X3_counted_128 : decode b_X3_counted 128 = .ok (.iconst 0, 1) := by decide +kernel
theorem d_X3_counted_129 : decode b_X3_counted 129 = .ok (.iconst 0, 1) := by decide +kernel
theorem d_X3_counted_130 : decode b_X3_counted 130 = .ok (.invokevirtual 75, 3) := by decide +kernel
theorem d_X3_counted_133 : decode b_X3_counted 133 = .ok (.pop, 1) := by decide +kernel
theorem d_X3_counted_134 : decode b_X3_counted 134 = .ok (.return_, 1) := by decide +kernel
theorem d_X3_simple_0 : decode b_X3_simple 0 = .ok (.aload_n 0, 1) := by decide +kernel
theorem d_X3_simple_1 : decode b_X3_simple 1 = .ok (.getfield 44, 3) := by decide +kernel
theorem d_X3_simple_4 : decode b_X3_simple 4 = .ok (.istore_n 1, 1) := by decide +kernel
theorem d_X3_simple_5 : decode b_X3_simple 5 = .ok (.aload_n 0, 1) := by decide +kernel
theorem d_X3_simple_6 : decode b_X3_simple 6 = .ok (.getfield 53, 3) := by decide +kernel
theorem d_X3_simple_9 : decode b_X3_simple 9 = .ok (.bipush 14, 2) := by decide +kernel
theorem d_X3_simple_11 : decode b_X3_simple 11 = .ok (.if_icmp .eq 12, 3) := by decide +kernel
theorem d_X3_simple_14 : decode b_X3_simple 14 = .ok (.aload_n 0, 1) := by decide +kernel
theorem d_X3_simple_15 : decode b_X3_simple 15 = .ok (.getfield 53, 3) := by decide +kernel
theorem d_X3_simple_18 : decode b_X3_simple 18 = .ok (.bipush 15, 2) := by decide +kernel
theorem d_X3_simple_20 : decode b_X3_simple 20 = .ok (.if_icmp .ne 34, 3) := by decide +kernel
theorem d_X3_simple_23 : decode b_X3_simple 23 = .ok (.aload_n 0, 1) := by decide +kernel
theorem d_X3_simple_24 : decode b_X3_simple 24 = .ok (.aload_n 0, 1) := by decide +kernel
theorem d_X3_simple_25 : decode b_X3_simple 25 = .ok (.getfield 53, 3) := by decide +kernel
theorem d_X3_simple_28 : decode b_X3_simple 28 = .ok (.bipush 14, 2) := by decide +kernel
theorem d_X3_simple_30 : decode b_X3_simple 30 = .ok (.if_icmp .ne 8, 3) := by decide +kernel
theorem d_X3_simple_33 : decode b_X3_simple 33 = .ok (.bipush 36, 2) := by decide +kernel
theorem d_X3_simple_35 : decode b_X3_simple 35 = .ok (.goto 5, 3) := by decide +kernel
theorem d_X3_simple_38 : decode b_X3_simple 38 = .ok (.bipush 37, 2) := by decide +kernel
theorem d_X3_simple_40 : decode b_X3_simple 40 = .ok (.iload_n 1, 1) := by decide +kernel
theorem d_X3_simple_41 : decode b_X3_simple 41 = .ok (.iconst 0, 1) := by decide +kernel
theorem d_X3_simple_42 : decode b_X3_simple 42 = .ok (.iconst 0, 1) := by decide +kernel
theorem d_X3_simple_43 : decode b_X3_simple 43 = .ok (.invokevirtual 75, 3) := by decide +kernel
theorem d_X3_simple_46 : decode b_X3_simple 46 = .ok (.pop, 1) := by decide +kernel
theorem d_X3_simple_47 : decode b_X3_simple 47 = .ok (.aload_n 0, 1) := by decide +kernel
theorem d_X3_simple_48 : decode b_X3_simple 48 = .ok (.invokevirtual 47, 3) := by decide +kernel
theorem d_X3_simple_51 : decode b_X3_simple 51 = .ok (.goto 76, 3) := by decide +kernel
theorem d_X3_simple_54 : decode b_X3_simple 54 = .ok (.aload_n 0, 1) := by decide +kernel
theorem d_X3_simple_55 : decode b_X3_simple 55 = .ok (.getfield 53, 3) := by decide +kernel
theorem d_X3_simple_58 : decode b_X3_simple 58 = .ok (.bipush 16, 2) := by decide +kernel
theorem d_X3_simple_60 : decode b_X3_simple 60 = .ok (.if_icmp .ne 52, 3) := by decide +kernel
theorem d_X3_simple_112 : decode b_X3_simple 112 = .ok (.aload_n 0, 1) := by decide +kernel
theorem d_X3_simple_113 : decode b_X3_simple 113 = .ok (.iconst 1, 1) := by decide +kernel
theorem d_X3_simple_114 : decode b_X3_simple 114 = .ok (.invokevirtual 119, 3) := by decide +kernel
theorem d_X3_simple_127 : decode b_X3_simple 127 = .ok (.aload_n 0, 1) := by decide +kernel
theorem d_X3_simple_128 : decode b_X3_simple 128 = .ok (.bipush 27, 2) := by decide +kernel
theorem d_X3_simple_130 : decode b_X3_simple 130 = .ok (.invokevirtual 56, 3) := by decide +kernel
theorem d_X3_simple_133 : decode b_X3_simple 133 = .ok (.return_, 1) := by decide +kernel
theorem d_X7_walk_38 : decode b_X7_walk 38 = .ok (.iload_n 3, 1) := by decide +kernel
theorem d_X7_walk_39 : decode b_X7_walk 39 = .ok (.ifCond .le 137, 3) := by decide +kernel
theorem d_X7_walk_42 : decode b_X7_walk 42 = .ok (.iload_n 2, 1) := by decide +kernel
theorem d_X7_walk_43 : decode b_X7_walk 43 = .ok (.aload_n 0, 1) := by decide +kernel
theorem d_X7_walk_44 : decode b_X7_walk 44 = .ok (.getfield 30, 3) := by decide +kernel
theorem d_X7_walk_47 : decode b_X7_walk 47 = .ok (.getfield 71, 3) := by decide +kernel
theorem d_X7_walk_50 : decode b_X7_walk 50 = .ok (.if_icmp .ge 126, 3) := by decide +kernel
theorem d_X7_walk_53 : decode b_X7_walk 53 = .ok (.aload_n 0, 1) := by decide +kernel
theorem d_X7_walk_54 : decode b_X7_walk 54 = .ok (.getfield 34, 3) := by decide +kernel
theorem d_X7_walk_57 : decode b_X7_walk 57 = .ok (.getfield 74, 3) := by decide +kernel
theorem d_X7_walk_60 : decode b_X7_walk 60 = .ok (.ifCond .ne 116, 3) := by decide +kernel
theorem d_X7_walk_63 : decode b_X7_walk 63 = .ok (.aload_n 0, 1) := by decide +kernel
theorem d_X7_walk_64 : decode b_X7_walk 64 = .ok (.getfield 30, 3) := by decide +kernel
theorem d_X7_walk_67 : decode b_X7_walk 67 = .ok (.getfield 77, 3) := by decide +kernel
theorem d_X7_walk_70 : decode b_X7_walk 70 = .ok (.iload_n 2, 1) := by decide +kernel
theorem d_X7_walk_71 : decode b_X7_walk 71 = .ok (.invokestatic 80, 3) := by decide +kernel
theorem d_X7_walk_74 : decode b_X7_walk 74 = .ok (.istore 4, 2) := by decide +kernel
theorem d_X7_walk_76 : decode b_X7_walk 76 = .ok (.iload 4, 2) := by decide +kernel
theorem d_X7_walk_78 : decode b_X7_walk 78 = .ok (.bipush 20, 2) := by decide +kernel
theorem d_X7_walk_80 : decode b_X7_walk 80 = .ok (.if_icmp .ge 14, 3) := by decide +kernel
theorem d_X7_walk_94 : decode b_X7_walk 94 = .ok (.iload 4, 2) := by decide +kernel
theorem d_X7_walk_96 : decode b_X7_walk 96 = .ok (.bipush 40, 2) := by decide +kernel
theorem d_X7_walk_98 : decode b_X7_walk 98 = .ok (.if_icmp .ge 13, 3) := by decide +kernel
theorem d_X7_walk_111 : decode b_X7_walk 111 = .ok (.iload 4, 2) := by decide +kernel
theorem d_X7_walk_113 : decode b_X7_walk 113 = .ok (.bipush 40, 2) := by decide +kernel
theorem d_X7_walk_115 : decode b_X7_walk 115 = .ok (.if_icmp .eq 16, 3) := by decide +kernel
theorem d_X7_walk_131 : decode b_X7_walk 131 = .ok (.aload_n 0, 1) := by decide +kernel
theorem d_X7_walk_132 : decode b_X7_walk 132 = .ok (.getfield 30, 3) := by decide +kernel
theorem d_X7_walk_135 : decode b_X7_walk 135 = .ok (.getfield 91, 3) := by decide +kernel
theorem d_X7_walk_138 : decode b_X7_walk 138 = .ok (.iload_n 2, 1) := by decide +kernel
theorem d_X7_walk_139 : decode b_X7_walk 139 = .ok (.invokestatic 80, 3) := by decide +kernel
theorem d_X7_walk_142 : decode b_X7_walk 142 = .ok (.istore 5, 2) := by decide +kernel
theorem d_X7_walk_144 : decode b_X7_walk 144 = .ok (.aload_n 0, 1) := by decide +kernel
theorem d_X7_walk_145 : decode b_X7_walk 145 = .ok (.getfield 50, 3) := by decide +kernel
theorem d_X7_walk_148 : decode b_X7_walk 148 = .ok (.aload_n 0, 1) := by decide +kernel
theorem d_X7_walk_149 : decode b_X7_walk 149 = .ok (.iload_n 2, 1) := by decide +kernel
theorem d_X7_walk_150 : decode b_X7_walk 150 = .ok (.iconst 1, 1) := by decide +kernel
theorem d_X7_walk_151 : decode b_X7_walk 151 = .ok (.iadd, 1) := by decide +kernel
theorem d_X7_walk_152 : decode b_X7_walk 152 = .ok (.iload 5, 2) := by decide +kernel
theorem d_X7_walk_154 : decode b_X7_walk 154 = .ok (.invokevirtual 94, 3) := by decide +kernel
theorem d_X7_walk_176 : decode b_X7_walk 176 = .ok (.aload_n 0, 1) := by decide +kernel
theorem d_X7_walk_177 : decode b_X7_walk 177 = .ok (.getfield 34, 3) := by decide +kernel
theorem d_X7_walk_180 : decode b_X7_walk 180 = .ok (.invokevirtual 106, 3) := by decide +kernel
theorem d_X7_walk_183 : decode b_X7_walk 183 = .ok (.return_, 1) := by decide +kernel
theorem d_X11_begin_0 : decode b_X11_begin 0 = .ok (.aload_n 0, 1) := by decide +kernel
theorem d_X11_begin_1 : decode b_X11_begin 1 = .ok (.iload_n 1, 1) := by decide +kernel
theorem d_X11_begin_2 : decode b_X11_begin 2 = .ok (.putfield 44, 3) := by decide +kernel
theorem d_X11_begin_5 : decode b_X11_begin 5 = .ok (.aload_n 0, 1) := by decide +kernel
theorem d_X11_begin_6 : decode b_X11_begin 6 = .ok (.iconst 0, 1) := by decide +kernel
theorem d_X11_begin_7 : decode b_X11_begin 7 = .ok (.putfield 48, 3) := by decide +kernel
theorem d_X11_begin_10 : decode b_X11_begin 10 = .ok (.aload_n 0, 1) := by decide +kernel
theorem d_X11_begin_11 : decode b_X11_begin 11 = .ok (.iconst (-1), 1) := by decide +kernel
theorem d_X11_begin_12 : decode b_X11_begin 12 = .ok (.putfield 51, 3) := by decide +kernel
theorem d_X11_begin_15 : decode b_X11_begin 15 = .ok (.aload_n 0, 1) := by decide +kernel
theorem d_X11_begin_16 : decode b_X11_begin 16 = .ok (.iconst 0, 1) := by decide +kernel
theorem d_X11_begin_17 : decode b_X11_begin 17 = .ok (.putfield 54, 3) := by decide +kernel
theorem d_X11_begin_20 : decode b_X11_begin 20 = .ok (.aload_n 0, 1) := by decide +kernel
theorem d_X11_begin_21 : decode b_X11_begin 21 = .ok (.iconst 0, 1) := by decide +kernel
theorem d_X11_begin_22 : decode b_X11_begin 22 = .ok (.putfield 57, 3) := by decide +kernel
theorem d_X11_begin_25 : decode b_X11_begin 25 = .ok (.aload_n 0, 1) := by decide +kernel
theorem d_X11_begin_26 : decode b_X11_begin 26 = .ok (.invokevirtual 60, 3) := by decide +kernel
theorem d_X11_begin_29 : decode b_X11_begin 29 = .ok (.return_, 1) := by decide +kernel
theorem d_X11_leave_0 : decode b_X11_leave 0 = .ok (.aload_n 0, 1) := by decide +kernel
theorem d_X11_leave_1 : decode b_X11_leave 1 = .ok (.iconst (-1), 1) := by decide +kernel
theorem d_X11_leave_2 : decode b_X11_leave 2 = .ok (.putfield 63, 3) := by decide +kernel
theorem d_X11_leave_5 : decode b_X11_leave 5 = .ok (.aload_n 0, 1) := by decide +kernel
theorem d_X11_leave_6 : decode b_X11_leave 6 = .ok (.iconst 0, 1) := by decide +kernel
theorem d_X11_leave_7 : decode b_X11_leave 7 = .ok (.putfield 69, 3) := by decide +kernel
theorem d_X11_leave_10 : decode b_X11_leave 10 = .ok (.aload_n 0, 1) := by decide +kernel
theorem d_X11_leave_11 : decode b_X11_leave 11 = .ok (.iconst 0, 1) := by decide +kernel
theorem d_X11_leave_12 : decode b_X11_leave 12 = .ok (.putfield 72, 3) := by decide +kernel
theorem d_X11_leave_15 : decode b_X11_leave 15 = .ok (.aload_n 0, 1) := by decide +kernel
theorem d_X11_leave_16 : decode b_X11_leave 16 = .ok (.iconst 0, 1) := by decide +kernel
theorem d_X11_leave_17 : decode b_X11_leave 17 = .ok (.putfield 75, 3) := by decide +kernel
theorem d_X11_leave_20 : decode b_X11_leave 20 = .ok (.return_, 1) := by decide +kernel
theorem d_X1_begin_0 : decode b_X1_begin 0 = .ok (.aload_n 0, 1) := by decide +kernel
theorem d_X1_begin_1 : decode b_X1_begin 1 = .ok (.iconst (-1), 1) := by decide +kernel
theorem d_X1_begin_2 : decode b_X1_begin 2 = .ok (.putfield 46, 3) := by decide +kernel
theorem d_X1_begin_5 : decode b_X1_begin 5 = .ok (.aload_n 0, 1) := by decide +kernel
theorem d_X1_begin_6 : decode b_X1_begin 6 = .ok (.iconst 0, 1) := by decide +kernel
theorem d_X1_begin_7 : decode b_X1_begin 7 = .ok (.putfield 50, 3) := by decide +kernel
theorem d_X1_begin_10 : decode b_X1_begin 10 = .ok (.return_, 1) := by decide +kernel
theorem d_X0_emit_0 : decode b_X0_emit 0 = .ok (.aload_n 0, 1) := by decide +kernel
theorem d_X0_emit_1 : decode b_X0_emit 1 = .ok (.getfield 18, 3) := by decide +kernel
theorem d_X0_emit_4 : decode b_X0_emit 4 = .ok (.istore 5, 2) := by decide +kernel
theorem d_X0_emit_6 : decode b_X0_emit 6 = .ok (.iload 5, 2) := by decide +kernel
theorem d_X0_emit_8 : decode b_X0_emit 8 = .ok (.ifCond .lt 82, 3) := by decide +kernel
theorem d_X0_emit_11 : decode b_X0_emit 11 = .ok (.iload 5, 2) := by decide +kernel
theorem d_X0_emit_13 : decode b_X0_emit 13 = .ok (.aload_n 0, 1) := by decide +kernel
theorem d_X0_emit_14 : decode b_X0_emit 14 = .ok (.getfield 14, 3) := by decide +kernel
theorem d_X0_emit_17 : decode b_X0_emit 17 = .ok (.arraylength, 1) := by decide +kernel
theorem d_X0_emit_18 : decode b_X0_emit 18 = .ok (.iconst 4, 1) := by decide +kernel
theorem d_X0_emit_19 : decode b_X0_emit 19 = .ok (.isub, 1) := by decide +kernel
theorem d_X0_emit_20 : decode b_X0_emit 20 = .ok (.if_icmp .ge 70, 3) := by decide +kernel
theorem d_X0_emit_23 : decode b_X0_emit 23 = .ok (.aload_n 0, 1) := by decide +kernel
theorem d_X0_emit_24 : decode b_X0_emit 24 = .ok (.getfield 14, 3) := by decide +kernel
theorem d_X0_emit_27 : decode b_X0_emit 27 = .ok (.iload 5, 2) := by decide +kernel
theorem d_X0_emit_29 : decode b_X0_emit 29 = .ok (.iload_n 1, 1) := by decide +kernel
theorem d_X0_emit_30 : decode b_X0_emit 30 = .ok (.iastore, 1) := by decide +kernel
theorem d_X0_emit_31 : decode b_X0_emit 31 = .ok (.aload_n 0, 1) := by decide +kernel
theorem d_X0_emit_32 : decode b_X0_emit 32 = .ok (.getfield 14, 3) := by decide +kernel
theorem d_X0_emit_35 : decode b_X0_emit 35 = .ok (.iload 5, 2) := by decide +kernel
theorem d_X0_emit_37 : decode b_X0_emit 37 = .ok (.iconst 1, 1) := by decide +kernel
theorem d_X0_emit_38 : decode b_X0_emit 38 = .ok (.iadd, 1) := by decide +kernel
theorem d_X0_emit_39 : decode b_X0_emit 39 = .ok (.iload_n 2, 1) := by decide +kernel
theorem d_X0_emit_40 : decode b_X0_emit 40 = .ok (.iastore, 1) := by decide +kernel
theorem d_X0_emit_41 : decode b_X0_emit 41 = .ok (.aload_n 0, 1) := by decide +kernel
theorem d_X0_emit_42 : decode b_X0_emit 42 = .ok (.getfield 14, 3) := by decide +kernel
theorem d_X0_emit_45 : decode b_X0_emit 45 = .ok (.iload 5, 2) := by decide +kernel
theorem d_X0_emit_47 : decode b_X0_emit 47 = .ok (.iconst 2, 1) := by decide +kernel
theorem d_X0_emit_48 : decode b_X0_emit 48 = .ok (.iadd, 1) := by decide +kernel
theorem d_X0_emit_49 : decode b_X0_emit 49 = .ok (.iload_n 3, 1) := by decide +kernel
theorem d_X0_emit_50 : decode b_X0_emit 50 = .ok (.iastore, 1) := by decide +kernel
theorem d_X0_emit_51 : decode b_X0_emit 51 = .ok (.aload_n 0, 1) := by decide +kernel
theorem d_X0_emit_52 : decode b_X0_emit 52 = .ok (.getfield 14, 3) := by decide +kernel
theorem d_X0_emit_55 : decode b_X0_emit 55 = .ok (.iload 5, 2) := by decide +kernel
theorem d_X0_emit_57 : decode b_X0_emit 57 = .ok (.iconst 3, 1) := by decide +kernel
theorem d_X0_emit_58 : decode b_X0_emit 58 = .ok (.iadd, 1) := by decide +kernel
theorem d_X0_emit_59 : decode b_X0_emit 59 = .ok (.iload 4, 2) := by decide +kernel
theorem d_X0_emit_61 : decode b_X0_emit 61 = .ok (.iastore, 1) := by decide +kernel
theorem d_X0_emit_62 : decode b_X0_emit 62 = .ok (.aload_n 0, 1) := by decide +kernel
theorem d_X0_emit_63 : decode b_X0_emit 63 = .ok (.iload 5, 2) := by decide +kernel
theorem d_X0_emit_65 : decode b_X0_emit 65 = .ok (.iload_n 1, 1) := by decide +kernel
theorem d_X0_emit_66 : decode b_X0_emit 66 = .ok (.ifCond .lt 19, 3) := by decide +kernel
theorem d_X0_emit_69 : decode b_X0_emit 69 = .ok (.iload_n 1, 1) := by decide +kernel
theorem d_X0_emit_70 : decode b_X0_emit 70 = .ok (.getstatic 22, 3) := by decide +kernel
theorem d_X0_emit_73 : decode b_X0_emit 73 = .ok (.arraylength, 1) := by decide +kernel
theorem d_X0_emit_74 : decode b_X0_emit 74 = .ok (.if_icmp .ge 11, 3) := by decide +kernel
theorem d_X0_emit_77 : decode b_X0_emit 77 = .ok (.getstatic 22, 3) := by decide +kernel
theorem d_X0_emit_80 : decode b_X0_emit 80 = .ok (.iload_n 1, 1) := by decide +kernel
theorem d_X0_emit_81 : decode b_X0_emit 81 = .ok (.iaload, 1) := by decide +kernel
theorem d_X0_emit_82 : decode b_X0_emit 82 = .ok (.goto 4, 3) := by decide +kernel
theorem d_X0_emit_85 : decode b_X0_emit 85 = .ok (.iconst 0, 1) := by decide +kernel
theorem d_X0_emit_86 : decode b_X0_emit 86 = .ok (.iadd, 1) := by decide +kernel
theorem d_X0_emit_87 : decode b_X0_emit 87 = .ok (.putfield 18, 3) := by decide +kernel
theorem d_X0_emit_90 : decode b_X0_emit 90 = .ok (.iload 5, 2) := by decide +kernel
theorem d_X0_emit_92 : decode b_X0_emit 92 = .ok (.ireturn, 1) := by decide +kernel
theorem d_X10_readCodes_0 : decode b_X10_readCodes 0 = .ok (.aload_n 0, 1) := by decide +kernel
theorem d_X10_readCodes_1 : decode b_X10_readCodes 1 = .ok (.getfield 15, 3) := by decide +kernel
theorem d_X10_readCodes_4 : decode b_X10_readCodes 4 = .ok (.iload_n 1, 1) := by decide +kernel
theorem d_X10_readCodes_5 : decode b_X10_readCodes 5 = .ok (.invokestatic 145, 3) := by decide +kernel
theorem d_X10_readCodes_8 : decode b_X10_readCodes 8 = .ok (.sipush 200, 3) := by decide +kernel
theorem d_X10_readCodes_11 : decode b_X10_readCodes 11 = .ok (.invokestatic 149, 3) := by decide +kernel
theorem d_X10_readCodes_29 : decode b_X10_readCodes 29 = .ok (.iload 4, 2) := by decide +kernel
theorem d_X10_readCodes_31 : decode b_X10_readCodes 31 = .ok (.iload_n 2, 1) := by decide +kernel
theorem d_X10_readCodes_32 : decode b_X10_readCodes 32 = .ok (.if_icmp .ge 33, 3) := by decide +kernel
theorem d_X10_readCodes_35 : decode b_X10_readCodes 35 = .ok (.aload_n 0, 1) := by decide +kernel
theorem d_X10_readCodes_36 : decode b_X10_readCodes 36 = .ok (.getfield 24, 3) := by decide +kernel
theorem d_X10_readCodes_39 : decode b_X10_readCodes 39 = .ok (.iload 4, 2) := by decide +kernel
theorem d_X10_readCodes_41 : decode b_X10_readCodes 41 = .ok (.aload_n 0, 1) := by decide +kernel
theorem d_X10_readCodes_42 : decode b_X10_readCodes 42 = .ok (.iload_n 3, 1) := by decide +kernel
theorem d_X10_readCodes_43 : decode b_X10_readCodes 43 = .ok (.bipush 34, 2) := by decide +kernel
theorem d_X10_readCodes_45 : decode b_X10_readCodes 45 = .ok (.invokevirtual 133, 3) := by decide +kernel
theorem d_X10_readCodes_48 : decode b_X10_readCodes 48 = .ok (.invokestatic 151, 3) := by decide +kernel
theorem d_X10_readCodes_51 : decode b_X10_readCodes 51 = .ok (.iload_n 3, 1) := by decide +kernel
theorem d_X10_readCodes_52 : decode b_X10_readCodes 52 = .ok (.aload_n 0, 1) := by decide +kernel
theorem d_X10_readCodes_53 : decode b_X10_readCodes 53 = .ok (.iload_n 3, 1) := by decide +kernel
theorem d_X10_readCodes_54 : decode b_X10_readCodes 54 = .ok (.invokevirtual 137, 3) := by decide +kernel
theorem d_X10_readCodes_57 : decode b_X10_readCodes 57 = .ok (.iadd, 1) := by decide +kernel
theorem d_X10_readCodes_58 : decode b_X10_readCodes 58 = .ok (.istore_n 3, 1) := by decide +kernel
theorem d_X10_readCodes_59 : decode b_X10_readCodes 59 = .ok (.iinc 4 1, 3) := by decide +kernel
theorem d_X10_readCodes_62 : decode b_X10_readCodes 62 = .ok (.goto (-33), 3) := by decide +kernel
theorem d_X10_readCodes_65 : decode b_X10_readCodes 65 = .ok (.iload_n 2, 1) := by decide +kernel
theorem d_X10_readCodes_66 : decode b_X10_readCodes 66 = .ok (.ireturn, 1) := by decide +kernel
theorem d_X11_fail_0 : decode b_X11_fail 0 = .ok (.aload_n 0, 1) := by decide +kernel
theorem d_X11_fail_1 : decode b_X11_fail 1 = .ok (.getfield 48, 3) := by decide +kernel
theorem d_X11_fail_4 : decode b_X11_fail 4 = .ok (.ifCond .ne 13, 3) := by decide +kernel
theorem d_X11_fail_7 : decode b_X11_fail 7 = .ok (.aload_n 0, 1) := by decide +kernel
theorem d_X11_fail_8 : decode b_X11_fail 8 = .ok (.iload_n 1, 1) := by decide +kernel
theorem d_X11_fail_9 : decode b_X11_fail 9 = .ok (.putfield 48, 3) := by decide +kernel
theorem d_X11_fail_12 : decode b_X11_fail 12 = .ok (.aload_n 0, 1) := by decide +kernel
theorem d_X11_fail_13 : decode b_X11_fail 13 = .ok (.iload_n 2, 1) := by decide +kernel
theorem d_X11_fail_14 : decode b_X11_fail 14 = .ok (.putfield 51, 3) := by decide +kernel
theorem d_X11_fail_17 : decode b_X11_fail 17 = .ok (.return_, 1) := by decide +kernel
theorem d_X8_addInitial_0 : decode b_X8_addInitial 0 = .ok (.aload_n 0, 1) := by decide +kernel
theorem d_X8_addInitial_1 : decode b_X8_addInitial 1 = .ok (.getfield 43, 3) := by decide +kernel
theorem d_X8_addInitial_4 : decode b_X8_addInitial 4 = .ok (.aload_n 0, 1) := by decide +kernel
theorem d_X8_addInitial_5 : decode b_X8_addInitial 5 = .ok (.getfield 39, 3) := by decide +kernel
theorem d_X8_addInitial_8 : decode b_X8_addInitial 8 = .ok (.iload_n 1, 1) := by decide +kernel
theorem d_X8_addInitial_9 : decode b_X8_addInitial 9 = .ok (.invokestatic 112, 3) := by decide +kernel
theorem d_X8_addInitial_12 : decode b_X8_addInitial 12 = .ok (.aload_n 0, 1) := by decide +kernel
theorem d_X8_addInitial_13 : decode b_X8_addInitial 13 = .ok (.getfield 46, 3) := by decide +kernel
theorem d_X8_addInitial_16 : decode b_X8_addInitial 16 = .ok (.aload_n 0, 1) := by decide +kernel
theorem d_X8_addInitial_17 : decode b_X8_addInitial 17 = .ok (.getfield 39, 3) := by decide +kernel
theorem d_X8_addInitial_20 : decode b_X8_addInitial 20 = .ok (.iload_n 2, 1) := by decide +kernel
theorem d_X8_addInitial_21 : decode b_X8_addInitial 21 = .ok (.invokestatic 112, 3) := by decide +kernel
theorem d_X8_addInitial_24 : decode b_X8_addInitial 24 = .ok (.aload_n 0, 1) := by decide +kernel
theorem d_X8_addInitial_25 : decode b_X8_addInitial 25 = .ok (.getfield 49, 3) := by decide +kernel
theorem d_X8_addInitial_28 : decode b_X8_addInitial 28 = .ok (.aload_n 0, 1) := by decide +kernel
theorem d_X8_addInitial_29 : decode b_X8_addInitial 29 = .ok (.getfield 39, 3) := by decide +kernel
theorem d_X8_addInitial_32 : decode b_X8_addInitial 32 = .ok (.iload_n 3, 1) := by decide +kernel
theorem d_X8_addInitial_33 : decode b_X8_addInitial 33 = .ok (.invokestatic 112, 3) := by decide +kernel
theorem d_X8_addInitial_36 : decode b_X8_addInitial 36 = .ok (.aload_n 0, 1) := by decide +kernel
theorem d_X8_addInitial_37 : decode b_X8_addInitial 37 = .ok (.aload_n 0, 1) := by decide +kernel
theorem d_X8_addInitial_38 : decode b_X8_addInitial 38 = .ok (.getfield 39, 3) := by decide +kernel
theorem d_X8_addInitial_41 : decode b_X8_addInitial 41 = .ok (.iconst 1, 1) := by decide +kernel
theorem d_X8_addInitial_42 : decode b_X8_addInitial 42 = .ok (.iadd, 1) := by decide +kernel
theorem d_X8_addInitial_43 : decode b_X8_addInitial 43 = .ok (.ldc 42, 2) := by decide +kernel
theorem d_X8_addInitial_45 : decode b_X8_addInitial 45 = .ok (.invokestatic 116, 3) := by decide +kernel
theorem d_X11_localFrom_0 : decode b_X11_localFrom 0 = .ok (.aload_n 0, 1) := by decide +kernel
theorem d_X11_localFrom_1 : decode b_X11_localFrom 1 = .ok (.getfield 72, 3) := by decide +kernel
theorem d_X11_localFrom_4 : decode b_X11_localFrom 4 = .ok (.iconst 1, 1) := by decide +kernel
theorem d_X11_localFrom_5 : decode b_X11_localFrom 5 = .ok (.isub, 1) := by decide +kernel
theorem d_X11_localFrom_6 : decode b_X11_localFrom 6 = .ok (.istore_n 3, 1) := by decide +kernel
theorem d_X11_localFrom_7 : decode b_X11_localFrom 7 = .ok (.iload_n 3, 1) := by decide +kernel
theorem d_X11_localFrom_8 : decode b_X11_localFrom 8 = .ok (.iload_n 1, 1) := by decide +kernel
theorem d_X11_localFrom_9 : decode b_X11_localFrom 9 = .ok (.if_icmp .lt 42, 3) := by decide +kernel
theorem d_X11_localFrom_12 : decode b_X11_localFrom 12 = .ok (.aload_n 0, 1) := by decide +kernel
theorem d_X11_localFrom_13 : decode b_X11_localFrom 13 = .ok (.getfield 30, 3) := by decide +kernel
theorem d_X11_localFrom_16 : decode b_X11_localFrom 16 = .ok (.iload_n 3, 1) := by decide +kernel
theorem d_X11_localFrom_17 : decode b_X11_localFrom 17 = .ok (.invokestatic 82, 3) := by decide +kernel
theorem d_X11_localFrom_20 : decode b_X11_localFrom 20 = .ok (.istore 4, 2) := by decide +kernel
theorem d_X11_localFrom_22 : decode b_X11_localFrom 22 = .ok (.aload_n 0, 1) := by decide +kernel
theorem d_X11_localFrom_23 : decode b_X11_localFrom 23 = .ok (.getfield 36, 3) := by decide +kernel
theorem d_X11_localFrom_26 : decode b_X11_localFrom 26 = .ok (.aload_n 0, 1) := by decide +kernel
theorem d_X11_localFrom_27 : decode b_X11_localFrom 27 = .ok (.getfield 18, 3) := by decide +kernel
theorem d_X11_localFrom_30 : decode b_X11_localFrom 30 = .ok (.iload 4, 2) := by decide +kernel
theorem d_X11_localFrom_32 : decode b_X11_localFrom 32 = .ok (.invokestatic 82, 3) := by decide +kernel
theorem d_X11_localFrom_35 : decode b_X11_localFrom 35 = .ok (.iload_n 2, 1) := by decide +kernel
theorem d_X11_localFrom_36 : decode b_X11_localFrom 36 = .ok (.invokevirtual 86, 3) := by decide +kernel
theorem d_X11_localFrom_39 : decode b_X11_localFrom 39 = .ok (.ifCond .eq 6, 3) := by decide +kernel
theorem d_X11_localFrom_42 : decode b_X11_localFrom 42 = .ok (.iload 4, 2) := by decide +kernel
theorem d_X11_localFrom_44 : decode b_X11_localFrom 44 = .ok (.ireturn, 1) := by decide +kernel
theorem d_X11_localFrom_45 : decode b_X11_localFrom 45 = .ok (.iinc 3 (-1), 3) := by decide +kernel
theorem d_X11_localFrom_48 : decode b_X11_localFrom 48 = .ok (.goto (-41), 3) := by decide +kernel
theorem d_X11_localFrom_51 : decode b_X11_localFrom 51 = .ok (.iconst (-1), 1) := by decide +kernel
theorem d_X11_localFrom_52 : decode b_X11_localFrom 52 = .ok (.ireturn, 1) := by decide +kernel
theorem d_X10_sameName_0 : decode b_X10_sameName 0 = .ok (.aload_n 0, 1) := by decide +kernel
theorem d_X10_sameName_1 : decode b_X10_sameName 1 = .ok (.getfield 15, 3) := by decide +kernel
theorem d_X10_sameName_4 : decode b_X10_sameName 4 = .ok (.iload_n 1, 1) := by decide +kernel
theorem d_X10_sameName_5 : decode b_X10_sameName 5 = .ok (.invokestatic 145, 3) := by decide +kernel
theorem d_X10_sameName_8 : decode b_X10_sameName 8 = .ok (.istore_n 3, 1) := by decide +kernel
theorem d_X10_sameName_9 : decode b_X10_sameName 9 = .ok (.iload_n 3, 1) := by decide +kernel
theorem d_X10_sameName_10 : decode b_X10_sameName 10 = .ok (.aload_n 0, 1) := by decide +kernel
theorem d_X10_sameName_11 : decode b_X10_sameName 11 = .ok (.getfield 15, 3) := by decide +kernel
theorem d_X10_sameName_14 : decode b_X10_sameName 14 = .ok (.iload_n 2, 1) := by decide +kernel
theorem d_X10_sameName_15 : decode b_X10_sameName 15 = .ok (.invokestatic 145, 3) := by decide +kernel
theorem d_X10_sameName_18 : decode b_X10_sameName 18 = .ok (.if_icmp .eq 5, 3) := by decide +kernel
theorem d_X10_sameName_21 : decode b_X10_sameName 21 = .ok (.iconst 0, 1) := by decide +kernel
theorem d_X10_sameName_22 : decode b_X10_sameName 22 = .ok (.ireturn, 1) := by decide +kernel
theorem d_X10_sameName_23 : decode b_X10_sameName 23 = .ok (.aload_n 0, 1) := by decide +kernel
theorem d_X10_sameName_24 : decode b_X10_sameName 24 = .ok (.getfield 18, 3) := by decide +kernel
theorem d_X10_sameName_27 : decode b_X10_sameName 27 = .ok (.iload_n 1, 1) := by decide +kernel
theorem d_X10_sameName_28 : decode b_X10_sameName 28 = .ok (.invokestatic 145, 3) := by decide +kernel
theorem d_X10_sameName_31 : decode b_X10_sameName 31 = .ok (.istore 4, 2) := by decide +kernel
theorem d_X10_sameName_33 : decode b_X10_sameName 33 = .ok (.aload_n 0, 1) := by decide +kernel
theorem d_X10_sameName_34 : decode b_X10_sameName 34 = .ok (.getfield 18, 3) := by decide +kernel
theorem d_X10_sameName_37 : decode b_X10_sameName 37 = .ok (.iload_n 2, 1) := by decide +kernel
theorem d_X10_sameName_38 : decode b_X10_sameName 38 = .ok (.invokestatic 145, 3) := by decide +kernel
theorem d_X10_sameName_41 : decode b_X10_sameName 41 = .ok (.istore 5, 2) := by decide +kernel
theorem d_X10_sameName_43 : decode b_X10_sameName 43 = .ok (.iconst 0, 1) := by decide +kernel
theorem d_X10_sameName_44 : decode b_X10_sameName 44 = .ok (.istore 6, 2) := by decide +kernel
theorem d_X10_sameName_46 : decode b_X10_sameName 46 = .ok (.iload 6, 2) := by decide +kernel
theorem d_X10_sameName_48 : decode b_X10_sameName 48 = .ok (.iload_n 3, 1) := by decide +kernel
theorem d_X10_sameName_49 : decode b_X10_sameName 49 = .ok (.if_icmp .ge 60, 3) := by decide +kernel
theorem d_X10_sameName_52 : decode b_X10_sameName 52 = .ok (.iload 4, 2) := by decide +kernel
theorem d_X10_sameName_54 : decode b_X10_sameName 54 = .ok (.iload 6, 2) := by decide +kernel
theorem d_X10_sameName_56 : decode b_X10_sameName 56 = .ok (.iadd, 1) := by decide +kernel
theorem d_X10_sameName_57 : decode b_X10_sameName 57 = .ok (.aload_n 0, 1) := by decide +kernel
theorem d_X10_sameName_58 : decode b_X10_sameName 58 = .ok (.getfield 27, 3) := by decide +kernel
theorem d_X10_sameName_61 : decode b_X10_sameName 61 = .ok (.arraylength, 1) := by decide +kernel
theorem d_X10_sameName_62 : decode b_X10_sameName 62 = .ok (.if_icmp .ge 39, 3) := by decide +kernel
theorem d_X10_sameName_65 : decode b_X10_sameName 65 = .ok (.iload 5, 2) := by decide +kernel
theorem d_X10_sameName_67 : decode b_X10_sameName 67 = .ok (.iload 6, 2) := by decide +kernel
theorem d_X10_sameName_69 : decode b_X10_sameName 69 = .ok (.iadd, 1) := by decide +kernel
theorem d_X10_sameName_70 : decode b_X10_sameName 70 = .ok (.aload_n 0, 1) := by decide +kernel
theorem d_X10_sameName_71 : decode b_X10_sameName 71 = .ok (.getfield 27, 3) := by decide +kernel
theorem d_X10_sameName_74 : decode b_X10_sameName 74 = .ok (.arraylength, 1) := by decide +kernel
theorem d_X10_sameName_75 : decode b_X10_sameName 75 = .ok (.if_icmp .ge 26, 3) := by decide +kernel
theorem d_X10_sameName_78 : decode b_X10_sameName 78 = .ok (.aload_n 0, 1) := by decide +kernel
theorem d_X10_sameName_79 : decode b_X10_sameName 79 = .ok (.getfield 27, 3) := by decide +kernel
theorem d_X10_sameName_82 : decode b_X10_sameName 82 = .ok (.iload 4, 2) := by decide +kernel
theorem d_X10_sameName_84 : decode b_X10_sameName 84 = .ok (.iload 6, 2) := by decide +kernel
theorem d_X10_sameName_86 : decode b_X10_sameName 86 = .ok (.iadd, 1) := by decide +kernel
theorem d_X10_sameName_87 : decode b_X10_sameName 87 = .ok (.baload, 1) := by decide +kernel
theorem d_X10_sameName_88 : decode b_X10_sameName 88 = .ok (.aload_n 0, 1) := by decide +kernel
theorem d_X10_sameName_89 : decode b_X10_sameName 89 = .ok (.getfield 27, 3) := by decide +kernel
theorem d_X10_sameName_92 : decode b_X10_sameName 92 = .ok (.iload 5, 2) := by decide +kernel
theorem d_X10_sameName_94 : decode b_X10_sameName 94 = .ok (.iload 6, 2) := by decide +kernel
theorem d_X10_sameName_96 : decode b_X10_sameName 96 = .ok (.iadd, 1) := by decide +kernel
theorem d_X10_sameName_97 : decode b_X10_sameName 97 = .ok (.baload, 1) := by decide +kernel
theorem d_X10_sameName_98 : decode b_X10_sameName 98 = .ok (.if_icmp .eq 5, 3) := by decide +kernel
theorem d_X10_sameName_101 : decode b_X10_sameName 101 = .ok (.iconst 0, 1) := by decide +kernel
theorem d_X10_sameName_102 : decode b_X10_sameName 102 = .ok (.ireturn, 1) := by decide +kernel
theorem d_X10_sameName_103 : decode b_X10_sameName 103 = .ok (.iinc 6 1, 3) := by decide +kernel
theorem d_X10_sameName_106 : decode b_X10_sameName 106 = .ok (.goto (-60), 3) := by decide +kernel
theorem d_X10_sameName_109 : decode b_X10_sameName 109 = .ok (.iconst 1, 1) := by decide +kernel
theorem d_X10_sameName_110 : decode b_X10_sameName 110 = .ok (.ireturn, 1) := by decide +kernel
theorem d_X11_outerOf_0 : decode b_X11_outerOf 0 = .ok (.iconst 0, 1) := by decide +kernel
theorem d_X11_outerOf_1 : decode b_X11_outerOf 1 = .ok (.istore_n 2, 1) := by decide +kernel
theorem d_X11_outerOf_2 : decode b_X11_outerOf 2 = .ok (.iload_n 2, 1) := by decide +kernel
theorem d_X11_outerOf_3 : decode b_X11_outerOf 3 = .ok (.aload_n 0, 1) := by decide +kernel
theorem d_X11_outerOf_4 : decode b_X11_outerOf 4 = .ok (.getfield 57, 3) := by decide +kernel
theorem d_X11_outerOf_7 : decode b_X11_outerOf 7 = .ok (.if_icmp .ge 43, 3) := by decide +kernel
theorem d_X11_outerOf_10 : decode b_X11_outerOf 10 = .ok (.aload_n 0, 1) := by decide +kernel
theorem d_X11_outerOf_11 : decode b_X11_outerOf 11 = .ok (.getfield 36, 3) := by decide +kernel
theorem d_X11_outerOf_14 : decode b_X11_outerOf 14 = .ok (.aload_n 0, 1) := by decide +kernel
theorem d_X11_outerOf_15 : decode b_X11_outerOf 15 = .ok (.getfield 9, 3) := by decide +kernel
theorem d_X11_outerOf_18 : decode b_X11_outerOf 18 = .ok (.iload_n 2, 1) := by decide +kernel
theorem d_X11_outerOf_19 : decode b_X11_outerOf 19 = .ok (.invokestatic 82, 3) := by decide +kernel
theorem d_X11_outerOf_22 : decode b_X11_outerOf 22 = .ok (.iload_n 1, 1) := by decide +kernel
theorem d_X11_outerOf_23 : decode b_X11_outerOf 23 = .ok (.invokevirtual 86, 3) := by decide +kernel
theorem d_X11_outerOf_26 : decode b_X11_outerOf 26 = .ok (.ifCond .eq 18, 3) := by decide +kernel
theorem d_X11_outerOf_29 : decode b_X11_outerOf 29 = .ok (.aload_n 0, 1) := by decide +kernel
theorem d_X11_outerOf_30 : decode b_X11_outerOf 30 = .ok (.getfield 40, 3) := by decide +kernel
theorem d_X11_outerOf_33 : decode b_X11_outerOf 33 = .ok (.getfield 92, 3) := by decide +kernel
theorem d_X11_outerOf_36 : decode b_X11_outerOf 36 = .ok (.aload_n 0, 1) := by decide +kernel
theorem d_X11_outerOf_37 : decode b_X11_outerOf 37 = .ok (.getfield 57, 3) := by decide +kernel
theorem d_X11_outerOf_40 : decode b_X11_outerOf 40 = .ok (.isub, 1) := by decide +kernel
theorem d_X11_outerOf_41 : decode b_X11_outerOf 41 = .ok (.iload_n 2, 1) := by decide +kernel
theorem d_X11_outerOf_42 : decode b_X11_outerOf 42 = .ok (.iadd, 1) := by decide +kernel
theorem d_X11_outerOf_43 : decode b_X11_outerOf 43 = .ok (.ireturn, 1) := by decide +kernel
theorem d_X11_outerOf_44 : decode b_X11_outerOf 44 = .ok (.iinc 2 1, 3) := by decide +kernel
theorem d_X11_outerOf_47 : decode b_X11_outerOf 47 = .ok (.goto (-45), 3) := by decide +kernel
theorem d_X11_outerOf_50 : decode b_X11_outerOf 50 = .ok (.iconst (-1), 1) := by decide +kernel
theorem d_X11_outerOf_51 : decode b_X11_outerOf 51 = .ok (.ireturn, 1) := by decide +kernel
theorem d_X8_is_0 : decode b_X8_is 0 = .ok (.aload_n 0, 1) := by decide +kernel
theorem d_X8_is_1 : decode b_X8_is 1 = .ok (.getfield 15, 3) := by decide +kernel
theorem d_X8_is_4 : decode b_X8_is 4 = .ok (.iload_n 1, 1) := by decide +kernel
theorem d_X8_is_5 : decode b_X8_is 5 = .ok (.invokestatic 88, 3) := by decide +kernel
theorem d_X8_is_8 : decode b_X8_is 8 = .ok (.iload_n 2, 1) := by decide +kernel
theorem d_X8_is_9 : decode b_X8_is 9 = .ok (.iand, 1) := by decide +kernel
theorem d_X8_is_10 : decode b_X8_is 10 = .ok (.ifCond .eq 7, 3) := by decide +kernel
theorem d_X8_is_13 : decode b_X8_is 13 = .ok (.iconst 1, 1) := by decide +kernel
theorem d_X8_is_14 : decode b_X8_is 14 = .ok (.goto 4, 3) := by decide +kernel
theorem d_X8_is_17 : decode b_X8_is 17 = .ok (.iconst 0, 1) := by decide +kernel
theorem d_X8_is_18 : decode b_X8_is 18 = .ok (.ireturn, 1) := by decide +kernel
theorem d_X2_refuse_0 : decode b_X2_refuse 0 = .ok (.aload_n 0, 1) := by decide +kernel
theorem d_X2_refuse_1 : decode b_X2_refuse 1 = .ok (.getfield 37, 3) := by decide +kernel
theorem d_X2_refuse_4 : decode b_X2_refuse 4 = .ok (.iconst 2, 1) := by decide +kernel
theorem d_X2_refuse_5 : decode b_X2_refuse 5 = .ok (.iload_n 1, 1) := by decide +kernel
theorem d_X2_refuse_6 : decode b_X2_refuse 6 = .ok (.invokevirtual 164, 3) := by decide +kernel
theorem d_X2_refuse_9 : decode b_X2_refuse 9 = .ok (.return_, 1) := by decide +kernel
theorem d_X8_mark_0 : decode b_X8_mark 0 = .ok (.aload_n 0, 1) := by decide +kernel
theorem d_X8_mark_1 : decode b_X8_mark 1 = .ok (.getfield 15, 3) := by decide +kernel
theorem d_X8_mark_4 : decode b_X8_mark 4 = .ok (.iload_n 1, 1) := by decide +kernel
theorem d_X8_mark_5 : decode b_X8_mark 5 = .ok (.aload_n 0, 1) := by decide +kernel
theorem d_X8_mark_6 : decode b_X8_mark 6 = .ok (.getfield 15, 3) := by decide +kernel
theorem d_X8_mark_9 : decode b_X8_mark 9 = .ok (.iload_n 1, 1) := by decide +kernel
theorem d_X8_mark_10 : decode b_X8_mark 10 = .ok (.invokestatic 88, 3) := by decide +kernel
theorem d_X8_mark_13 : decode b_X8_mark 13 = .ok (.iload_n 2, 1) := by decide +kernel
theorem d_X8_mark_14 : decode b_X8_mark 14 = .ok (.ior, 1) := by decide +kernel
theorem d_X8_mark_15 : decode b_X8_mark 15 = .ok (.invokestatic 112, 3) := by decide +kernel
theorem d_X8_mark_18 : decode b_X8_mark 18 = .ok (.return_, 1) := by decide +kernel
theorem d_X11_mentionCall_0 : decode b_X11_mentionCall 0 = .ok (.iload_n 1, 1) := by decide +kernel
theorem d_X11_mentionCall_1 : decode b_X11_mentionCall 1 = .ok (.aload_n 0, 1) := by decide +kernel
theorem d_X11_mentionCall_2 : decode b_X11_mentionCall 2 = .ok (.getfield 40, 3) := by decide +kernel
theorem d_X11_mentionCall_5 : decode b_X11_mentionCall 5 = .ok (.getfield 92, 3) := by decide +kernel
theorem d_X11_mentionCall_8 : decode b_X11_mentionCall 8 = .ok (.aload_n 0, 1) := by decide +kernel
theorem d_X11_mentionCall_9 : decode b_X11_mentionCall 9 = .ok (.getfield 57, 3) := by decide +kernel
theorem d_X11_mentionCall_12 : decode b_X11_mentionCall 12 = .ok (.isub, 1) := by decide +kernel
theorem d_X11_mentionCall_13 : decode b_X11_mentionCall 13 = .ok (.isub, 1) := by decide +kernel
theorem d_X11_mentionCall_14 : decode b_X11_mentionCall 14 = .ok (.istore_n 3, 1) := by decide +kernel
theorem d_X11_mentionCall_15 : decode b_X11_mentionCall 15 = .ok (.aload_n 0, 1) := by decide +kernel
theorem d_X11_mentionCall_16 : decode b_X11_mentionCall 16 = .ok (.getfield 40, 3) := by decide +kernel
theorem d_X11_mentionCall_19 : decode b_X11_mentionCall 19 = .ok (.iload_n 1, 1) := by decide +kernel
theorem d_X11_mentionCall_20 : decode b_X11_mentionCall 20 = .ok (.bipush 8, 2) := by decide +kernel
theorem d_X11_mentionCall_22 : decode b_X11_mentionCall 22 = .ok (.invokevirtual 111, 3) := by decide +kernel
theorem d_X11_mentionCall_25 : decode b_X11_mentionCall 25 = .ok (.aload_n 0, 1) := by decide +kernel
theorem d_X11_mentionCall_26 : decode b_X11_mentionCall 26 = .ok (.getfield 15, 3) := by decide +kernel
theorem d_X11_mentionCall_29 : decode b_X11_mentionCall 29 = .ok (.iload_n 3, 1) := by decide +kernel
theorem d_X11_mentionCall_30 : decode b_X11_mentionCall 30 = .ok (.invokestatic 82, 3) := by decide +kernel
theorem d_X11_mentionCall_33 : decode b_X11_mentionCall 33 = .ok (.ifCond .ge 12, 3) := by decide +kernel
theorem d_X11_mentionCall_36 : decode b_X11_mentionCall 36 = .ok (.aload_n 0, 1) := by decide +kernel
theorem d_X11_mentionCall_37 : decode b_X11_mentionCall 37 = .ok (.getfield 15, 3) := by decide +kernel
theorem d_X11_mentionCall_40 : decode b_X11_mentionCall 40 = .ok (.iload_n 3, 1) := by decide +kernel
theorem d_X11_mentionCall_41 : decode b_X11_mentionCall 41 = .ok (.iload_n 2, 1) := by decide +kernel
theorem d_X11_mentionCall_42 : decode b_X11_mentionCall 42 = .ok (.invokestatic 78, 3) := by decide +kernel
theorem d_X11_mentionCall_45 : decode b_X11_mentionCall 45 = .ok (.return_, 1) := by decide +kernel
theorem d_X2_lineOf_0 : decode b_X2_lineOf 0 = .ok (.aload_n 0, 1) := by decide +kernel
theorem d_X2_lineOf_1 : decode b_X2_lineOf 1 = .ok (.getfield 36, 3) := by decide +kernel
theorem d_X2_lineOf_4 : decode b_X2_lineOf 4 = .ok (.getfield 134, 3) := by decide +kernel
theorem d_X2_lineOf_7 : decode b_X2_lineOf 7 = .ok (.iload_n 1, 1) := by decide +kernel
theorem d_X2_lineOf_8 : decode b_X2_lineOf 8 = .ok (.invokestatic 56, 3) := by decide +kernel
theorem d_X2_lineOf_11 : decode b_X2_lineOf 11 = .ok (.ireturn, 1) := by decide +kernel
theorem d_X2_kindOf_0 : decode b_X2_kindOf 0 = .ok (.aload_n 0, 1) := by decide +kernel
theorem d_X2_kindOf_1 : decode b_X2_kindOf 1 = .ok (.getfield 36, 3) := by decide +kernel
theorem d_X2_kindOf_4 : decode b_X2_kindOf 4 = .ok (.getfield 129, 3) := by decide +kernel
theorem d_X2_kindOf_7 : decode b_X2_kindOf 7 = .ok (.iload_n 1, 1) := by decide +kernel
theorem d_X2_kindOf_8 : decode b_X2_kindOf 8 = .ok (.invokestatic 56, 3) := by decide +kernel
theorem d_X2_kindOf_11 : decode b_X2_kindOf 11 = .ok (.ireturn, 1) := by decide +kernel
theorem d_X0_aim_0 : decode b_X0_aim 0 = .ok (.iload_n 1, 1) := by decide +kernel
theorem d_X0_aim_1 : decode b_X0_aim 1 = .ok (.istore_n 3, 1) := by decide +kernel
theorem d_X0_aim_2 : decode b_X0_aim 2 = .ok (.aload_n 0, 1) := by decide +kernel
theorem d_X0_aim_3 : decode b_X0_aim 3 = .ok (.getfield 18, 3) := by decide +kernel
theorem d_X0_aim_6 : decode b_X0_aim 6 = .ok (.istore 4, 2) := by decide +kernel
theorem d_X0_aim_8 : decode b_X0_aim 8 = .ok (.iload 4, 2) := by decide +kernel
theorem d_X0_aim_10 : decode b_X0_aim 10 = .ok (.ifCond .le 39, 3) := by decide +kernel
theorem d_X0_aim_13 : decode b_X0_aim 13 = .ok (.iload_n 3, 1) := by decide +kernel
theorem d_X0_aim_14 : decode b_X0_aim 14 = .ok (.ifCond .lt 35, 3) := by decide +kernel
theorem d_X0_aim_17 : decode b_X0_aim 17 = .ok (.aload_n 0, 1) := by decide +kernel
theorem d_X0_aim_18 : decode b_X0_aim 18 = .ok (.getfield 14, 3) := by decide +kernel
theorem d_X0_aim_21 : decode b_X0_aim 21 = .ok (.iload_n 3, 1) := by decide +kernel
theorem d_X0_aim_22 : decode b_X0_aim 22 = .ok (.iconst 1, 1) := by decide +kernel
theorem d_X0_aim_23 : decode b_X0_aim 23 = .ok (.iadd, 1) := by decide +kernel
theorem d_X0_aim_24 : decode b_X0_aim 24 = .ok (.invokestatic 31, 3) := by decide +kernel
theorem d_X0_aim_27 : decode b_X0_aim 27 = .ok (.istore 5, 2) := by decide +kernel
theorem d_X0_aim_29 : decode b_X0_aim 29 = .ok (.aload_n 0, 1) := by decide +kernel
theorem d_X0_aim_30 : decode b_X0_aim 30 = .ok (.getfield 14, 3) := by decide +kernel
theorem d_X0_aim_33 : decode b_X0_aim 33 = .ok (.iload_n 3, 1) := by decide +kernel
theorem d_X0_aim_34 : decode b_X0_aim 34 = .ok (.iconst 1, 1) := by decide +kernel
theorem d_X0_aim_35 : decode b_X0_aim 35 = .ok (.iadd, 1) := by decide +kernel
theorem d_X0_aim_36 : decode b_X0_aim 36 = .ok (.iload_n 2, 1) := by decide +kernel
theorem d_X0_aim_37 : decode b_X0_aim 37 = .ok (.invokestatic 35, 3) := by decide +kernel
theorem d_X0_aim_40 : decode b_X0_aim 40 = .ok (.iload 5, 2) := by decide +kernel
theorem d_X0_aim_42 : decode b_X0_aim 42 = .ok (.istore_n 3, 1) := by decide +kernel
theorem d_X0_aim_43 : decode b_X0_aim 43 = .ok (.iinc 4 (-1), 3) := by decide +kernel
theorem d_X0_aim_46 : decode b_X0_aim 46 = .ok (.goto (-38), 3) := by decide +kernel
theorem d_X0_aim_49 : decode b_X0_aim 49 = .ok (.return_, 1) := by decide +kernel
theorem d_X2_operate_0 : decode b_X2_operate 0 = .ok (.iload_n 2, 1) := by decide +kernel
theorem d_X2_operate_1 : decode b_X2_operate 1 = .ok (.ifCond .eq 19, 3) := by decide +kernel
theorem d_X2_operate_4 : decode b_X2_operate 4 = .ok (.iload_n 1, 1) := by decide +kernel
theorem d_X2_operate_5 : decode b_X2_operate 5 = .ok (.bipush 53, 2) := by decide +kernel
theorem d_X2_operate_7 : decode b_X2_operate 7 = .ok (.if_icmp .lt 13, 3) := by decide +kernel
theorem d_X2_operate_10 : decode b_X2_operate 10 = .ok (.iload_n 1, 1) := by decide +kernel
theorem d_X2_operate_11 : decode b_X2_operate 11 = .ok (.bipush 56, 2) := by decide +kernel
theorem d_X2_operate_13 : decode b_X2_operate 13 = .ok (.if_icmp .gt 7, 3) := by decide +kernel
theorem d_X2_operate_16 : decode b_X2_operate 16 = .ok (.iconst 1, 1) := by decide +kernel
theorem d_X2_operate_17 : decode b_X2_operate 17 = .ok (.goto 4, 3) := by decide +kernel
theorem d_X2_operate_20 : decode b_X2_operate 20 = .ok (.iconst 0, 1) := by decide +kernel
theorem d_X2_operate_21 : decode b_X2_operate 21 = .ok (.istore 4, 2) := by decide +kernel
theorem d_X2_operate_23 : decode b_X2_operate 23 = .ok (.aload_n 0, 1) := by decide +kernel
theorem d_X2_operate_24 : decode b_X2_operate 24 = .ok (.getfield 46, 3) := by decide +kernel
theorem d_X2_operate_27 : decode b_X2_operate 27 = .ok (.iload 4, 2) := by decide +kernel
theorem d_X2_operate_29 : decode b_X2_operate 29 = .ok (.ifCond .eq 9, 3) := by decide +kernel
theorem d_X2_operate_32 : decode b_X2_operate 32 = .ok (.iload_n 1, 1) := by decide +kernel
theorem d_X2_operate_33 : decode b_X2_operate 33 = .ok (.iconst 4, 1) := by decide +kernel
theorem d_X2_operate_34 : decode b_X2_operate 34 = .ok (.iadd, 1) := by decide +kernel
theorem d_X2_operate_35 : decode b_X2_operate 35 = .ok (.goto 4, 3) := by decide +kernel
theorem d_X2_operate_38 : decode b_X2_operate 38 = .ok (.iload_n 1, 1) := by decide +kernel
theorem d_X2_operate_39 : decode b_X2_operate 39 = .ok (.iload_n 3, 1) := by decide +kernel
theorem d_X2_operate_40 : decode b_X2_operate 40 = .ok (.iconst 0, 1) := by decide +kernel
theorem d_X2_operate_41 : decode b_X2_operate 41 = .ok (.iconst 0, 1) := by decide +kernel
theorem d_X2_operate_42 : decode b_X2_operate 42 = .ok (.invokevirtual 155, 3) := by decide +kernel
theorem d_X2_operate_45 : decode b_X2_operate 45 = .ok (.pop, 1) := by decide +kernel
theorem d_X2_operate_46 : decode b_X2_operate 46 = .ok (.return_, 1) := by decide +kernel
theorem d_X5_worked_0 : decode b_X5_worked 0 = .ok (.iload_n 0, 1) := by decide +kernel
theorem d_X5_worked_1 : decode b_X5_worked 1 = .ok (.tableswitch 117 41 50 #[55, 62, 69, 73, 77, 81, 93, 105, 109, 113], 55) := by decide +kernel
theorem d_X5_worked_56 : decode b_X5_worked 56 = .ok (.iload_n 1, 1) := by decide +kernel
theorem d_X5_worked_57 : decode b_X5_worked 57 = .ok (.iload_n 2, 1) := by decide +kernel
theorem d_X5_worked_58 : decode b_X5_worked 58 = .ok (.bipush 31, 2) := by decide +kernel
theorem d_X5_worked_60 : decode b_X5_worked 60 = .ok (.iand, 1) := by decide +kernel
theorem d_X5_worked_61 : decode b_X5_worked 61 = .ok (.ishl, 1) := by decide +kernel
theorem d_X5_worked_62 : decode b_X5_worked 62 = .ok (.ireturn, 1) := by decide +kernel
theorem d_X5_worked_63 : decode b_X5_worked 63 = .ok (.iload_n 1, 1) := by decide +kernel
theorem d_X5_worked_64 : decode b_X5_worked 64 = .ok (.iload_n 2, 1) := by decide +kernel
theorem d_X5_worked_65 : decode b_X5_worked 65 = .ok (.bipush 31, 2) := by decide +kernel
theorem d_X5_worked_67 : decode b_X5_worked 67 = .ok (.iand, 1) := by decide +kernel
theorem d_X5_worked_68 : decode b_X5_worked 68 = .ok (.ishr, 1) := by decide +kernel
theorem d_X5_worked_69 : decode b_X5_worked 69 = .ok (.ireturn, 1) := by decide +kernel
theorem d_X5_worked_70 : decode b_X5_worked 70 = .ok (.iload_n 1, 1) := by decide +kernel
theorem d_X5_worked_71 : decode b_X5_worked 71 = .ok (.iload_n 2, 1) := by decide +kernel
theorem d_X5_worked_72 : decode b_X5_worked 72 = .ok (.iadd, 1) := by decide +kernel
theorem d_X5_worked_73 : decode b_X5_worked 73 = .ok (.ireturn, 1) := by decide +kernel
theorem d_X5_worked_74 : decode b_X5_worked 74 = .ok (.iload_n 1, 1) := by decide +kernel
theorem d_X5_worked_75 : decode b_X5_worked 75 = .ok (.iload_n 2, 1) := by decide +kernel
theorem d_X5_worked_76 : decode b_X5_worked 76 = .ok (.isub, 1) := by decide +kernel
theorem d_X5_worked_77 : decode b_X5_worked 77 = .ok (.ireturn, 1) := by decide +kernel
theorem d_X5_worked_78 : decode b_X5_worked 78 = .ok (.iload_n 1, 1) := by decide +kernel
theorem d_X5_worked_79 : decode b_X5_worked 79 = .ok (.iload_n 2, 1) := by decide +kernel
theorem d_X5_worked_80 : decode b_X5_worked 80 = .ok (.imul, 1) := by decide +kernel
theorem d_X5_worked_81 : decode b_X5_worked 81 = .ok (.ireturn, 1) := by decide +kernel
theorem d_X5_worked_82 : decode b_X5_worked 82 = .ok (.iload_n 2, 1) := by decide +kernel
theorem d_X5_worked_83 : decode b_X5_worked 83 = .ok (.ifCond .ne 7, 3) := by decide +kernel
theorem d_X5_worked_90 : decode b_X5_worked 90 = .ok (.iload_n 1, 1) := by decide +kernel
theorem d_X5_worked_91 : decode b_X5_worked 91 = .ok (.iload_n 2, 1) := by decide +kernel
theorem d_X5_worked_92 : decode b_X5_worked 92 = .ok (.idiv, 1) := by decide +kernel
theorem d_X5_compared_0 : decode b_X5_compared 0 = .ok (.ldc 170, 2) := by decide +kernel
theorem d_X5_compared_2 : decode b_X5_compared 2 = .ok (.istore_n 3, 1) := by decide +kernel
theorem d_X5_compared_3 : decode b_X5_compared 3 = .ok (.iload_n 0, 1) := by decide +kernel
theorem d_X5_compared_4 : decode b_X5_compared 4 = .ok (.tableswitch 182 51 60 #[56, 67, 78, 89, 100, 111, 122, 137, 152, 167], 56) := by decide +kernel
theorem d_X5_compared_60 : decode b_X5_compared 60 = .ok (.iload_n 1, 1) := by decide +kernel
theorem d_X5_compared_61 : decode b_X5_compared 61 = .ok (.iload_n 2, 1) := by decide +kernel
theorem d_X5_compared_62 : decode b_X5_compared 62 = .ok (.if_icmp .ne 7, 3) := by decide +kernel
theorem d_X5_compared_65 : decode b_X5_compared 65 = .ok (.iconst 1, 1) := by decide +kernel
theorem d_X5_compared_66 : decode b_X5_compared 66 = .ok (.goto 4, 3) := by decide +kernel
theorem d_X5_compared_69 : decode b_X5_compared 69 = .ok (.iconst 0, 1) := by decide +kernel
theorem d_X5_compared_70 : decode b_X5_compared 70 = .ok (.ireturn, 1) := by decide +kernel
theorem d_X5_compared_71 : decode b_X5_compared 71 = .ok (.iload_n 1, 1) := by decide +kernel
theorem d_X5_compared_72 : decode b_X5_compared 72 = .ok (.iload_n 2, 1) := by decide +kernel
theorem d_X5_compared_73 : decode b_X5_compared 73 = .ok (.if_icmp .eq 7, 3) := by decide +kernel
theorem d_X5_compared_76 : decode b_X5_compared 76 = .ok (.iconst 1, 1) := by decide +kernel
theorem d_X5_compared_77 : decode b_X5_compared 77 = .ok (.goto 4, 3) := by decide +kernel
theorem d_X5_compared_80 : decode b_X5_compared 80 = .ok (.iconst 0, 1) := by decide +kernel
theorem d_X5_compared_81 : decode b_X5_compared 81 = .ok (.ireturn, 1) := by decide +kernel
theorem d_X5_compared_82 : decode b_X5_compared 82 = .ok (.iload_n 1, 1) := by decide +kernel
theorem d_X5_compared_83 : decode b_X5_compared 83 = .ok (.iload_n 2, 1) := by decide +kernel
theorem d_X5_compared_84 : decode b_X5_compared 84 = .ok (.if_icmp .ge 7, 3) := by decide +kernel
theorem d_X5_compared_87 : decode b_X5_compared 87 = .ok (.iconst 1, 1) := by decide +kernel
theorem d_X5_compared_88 : decode b_X5_compared 88 = .ok (.goto 4, 3) := by decide +kernel
theorem d_X5_compared_91 : decode b_X5_compared 91 = .ok (.iconst 0, 1) := by decide +kernel
theorem d_X5_compared_92 : decode b_X5_compared 92 = .ok (.ireturn, 1) := by decide +kernel
theorem d_X5_compared_93 : decode b_X5_compared 93 = .ok (.iload_n 1, 1) := by decide +kernel
theorem d_X5_compared_94 : decode b_X5_compared 94 = .ok (.iload_n 2, 1) := by decide +kernel
theorem d_X5_compared_95 : decode b_X5_compared 95 = .ok (.if_icmp .le 7, 3) := by decide +kernel
theorem d_X5_compared_98 : decode b_X5_compared 98 = .ok (.iconst 1, 1) := by decide +kernel
theorem d_X5_compared_99 : decode b_X5_compared 99 = .ok (.goto 4, 3) := by decide +kernel
theorem d_X5_compared_102 : decode b_X5_compared 102 = .ok (.iconst 0, 1) := by decide +kernel
theorem d_X5_compared_103 : decode b_X5_compared 103 = .ok (.ireturn, 1) := by decide +kernel
theorem d_X5_compared_104 : decode b_X5_compared 104 = .ok (.iload_n 1, 1) := by decide +kernel
theorem d_X5_compared_105 : decode b_X5_compared 105 = .ok (.iload_n 2, 1) := by decide +kernel
theorem d_X5_compared_106 : decode b_X5_compared 106 = .ok (.if_icmp .gt 7, 3) := by decide +kernel
theorem d_X5_compared_109 : decode b_X5_compared 109 = .ok (.iconst 1, 1) := by decide +kernel
theorem d_X5_compared_110 : decode b_X5_compared 110 = .ok (.goto 4, 3) := by decide +kernel
theorem d_X5_compared_113 : decode b_X5_compared 113 = .ok (.iconst 0, 1) := by decide +kernel
theorem d_X5_compared_114 : decode b_X5_compared 114 = .ok (.ireturn, 1) := by decide +kernel
theorem d_X5_compared_115 : decode b_X5_compared 115 = .ok (.iload_n 1, 1) := by decide +kernel
theorem d_X5_compared_116 : decode b_X5_compared 116 = .ok (.iload_n 2, 1) := by decide +kernel
theorem d_X5_compared_117 : decode b_X5_compared 117 = .ok (.if_icmp .lt 7, 3) := by decide +kernel
theorem d_X5_compared_120 : decode b_X5_compared 120 = .ok (.iconst 1, 1) := by decide +kernel
theorem d_X5_compared_121 : decode b_X5_compared 121 = .ok (.goto 4, 3) := by decide +kernel
theorem d_X5_compared_124 : decode b_X5_compared 124 = .ok (.iconst 0, 1) := by decide +kernel
theorem d_X5_compared_125 : decode b_X5_compared 125 = .ok (.ireturn, 1) := by decide +kernel
theorem d_X5_compared_126 : decode b_X5_compared 126 = .ok (.iload_n 1, 1) := by decide +kernel
theorem d_X5_compared_127 : decode b_X5_compared 127 = .ok (.iload_n 3, 1) := by decide +kernel
theorem d_X5_compared_128 : decode b_X5_compared 128 = .ok (.iadd, 1) := by decide +kernel
theorem d_X5_compared_129 : decode b_X5_compared 129 = .ok (.iload_n 2, 1) := by decide +kernel
theorem d_X5_compared_130 : decode b_X5_compared 130 = .ok (.iload_n 3, 1) := by decide +kernel
theorem d_X5_compared_131 : decode b_X5_compared 131 = .ok (.iadd, 1) := by decide +kernel
theorem d_X5_compared_132 : decode b_X5_compared 132 = .ok (.if_icmp .ge 7, 3) := by decide +kernel
theorem d_X5_compared_135 : decode b_X5_compared 135 = .ok (.iconst 1, 1) := by decide +kernel
theorem d_X5_compared_136 : decode b_X5_compared 136 = .ok (.goto 4, 3) := by decide +kernel
theorem d_X5_compared_139 : decode b_X5_compared 139 = .ok (.iconst 0, 1) := by decide +kernel
theorem d_X5_compared_140 : decode b_X5_compared 140 = .ok (.ireturn, 1) := by decide +kernel
theorem d_X5_compared_141 : decode b_X5_compared 141 = .ok (.iload_n 1, 1) := by decide +kernel
theorem d_X5_compared_142 : decode b_X5_compared 142 = .ok (.iload_n 3, 1) := by decide +kernel
theorem d_X5_compared_143 : decode b_X5_compared 143 = .ok (.iadd, 1) := by decide +kernel
theorem d_X5_compared_144 : decode b_X5_compared 144 = .ok (.iload_n 2, 1) := by decide +kernel
theorem d_X5_compared_145 : decode b_X5_compared 145 = .ok (.iload_n 3, 1) := by decide +kernel
theorem d_X5_compared_146 : decode b_X5_compared 146 = .ok (.iadd, 1) := by decide +kernel
theorem d_X5_compared_147 : decode b_X5_compared 147 = .ok (.if_icmp .le 7, 3) := by decide +kernel
theorem d_X5_compared_150 : decode b_X5_compared 150 = .ok (.iconst 1, 1) := by decide +kernel
theorem d_X5_compared_151 : decode b_X5_compared 151 = .ok (.goto 4, 3) := by decide +kernel
theorem d_X5_compared_154 : decode b_X5_compared 154 = .ok (.iconst 0, 1) := by decide +kernel
theorem d_X5_compared_155 : decode b_X5_compared 155 = .ok (.ireturn, 1) := by decide +kernel
theorem d_X5_compared_156 : decode b_X5_compared 156 = .ok (.iload_n 1, 1) := by decide +kernel
theorem d_X5_compared_157 : decode b_X5_compared 157 = .ok (.iload_n 3, 1) := by decide +kernel
theorem d_X5_compared_158 : decode b_X5_compared 158 = .ok (.iadd, 1) := by decide +kernel
theorem d_X5_compared_159 : decode b_X5_compared 159 = .ok (.iload_n 2, 1) := by decide +kernel
theorem d_X5_compared_160 : decode b_X5_compared 160 = .ok (.iload_n 3, 1) := by decide +kernel
theorem d_X5_compared_161 : decode b_X5_compared 161 = .ok (.iadd, 1) := by decide +kernel
theorem d_X5_compared_162 : decode b_X5_compared 162 = .ok (.if_icmp .gt 7, 3) := by decide +kernel
theorem d_X5_compared_165 : decode b_X5_compared 165 = .ok (.iconst 1, 1) := by decide +kernel
theorem d_X5_compared_166 : decode b_X5_compared 166 = .ok (.goto 4, 3) := by decide +kernel
theorem d_X5_compared_169 : decode b_X5_compared 169 = .ok (.iconst 0, 1) := by decide +kernel
theorem d_X5_compared_170 : decode b_X5_compared 170 = .ok (.ireturn, 1) := by decide +kernel
theorem d_X5_compared_171 : decode b_X5_compared 171 = .ok (.iload_n 1, 1) := by decide +kernel
theorem d_X5_compared_172 : decode b_X5_compared 172 = .ok (.iload_n 3, 1) := by decide +kernel
theorem d_X5_compared_173 : decode b_X5_compared 173 = .ok (.iadd, 1) := by decide +kernel
theorem d_X5_compared_174 : decode b_X5_compared 174 = .ok (.iload_n 2, 1) := by decide +kernel
theorem d_X5_compared_175 : decode b_X5_compared 175 = .ok (.iload_n 3, 1) := by decide +kernel
theorem d_X5_compared_176 : decode b_X5_compared 176 = .ok (.iadd, 1) := by decide +kernel
theorem d_X5_compared_177 : decode b_X5_compared 177 = .ok (.if_icmp .lt 7, 3) := by decide +kernel
theorem d_X5_compared_180 : decode b_X5_compared 180 = .ok (.iconst 1, 1) := by decide +kernel
theorem d_X5_compared_181 : decode b_X5_compared 181 = .ok (.goto 4, 3) := by decide +kernel
theorem d_X5_compared_184 : decode b_X5_compared 184 = .ok (.iconst 0, 1) := by decide +kernel
theorem d_X5_compared_185 : decode b_X5_compared 185 = .ok (.ireturn, 1) := by decide +kernel
theorem d_X5_compared_186 : decode b_X5_compared 186 = .ok (.iconst 0, 1) := by decide +kernel
theorem d_X5_compared_187 : decode b_X5_compared 187 = .ok (.ireturn, 1) := by decide +kernel
theorem d_X0_cut_0 : decode b_X0_cut 0 = .ok (.aload_n 0, 1) := by decide +kernel
theorem d_X0_cut_1 : decode b_X0_cut 1 = .ok (.iload_n 1, 1) := by decide +kernel
theorem d_X0_cut_2 : decode b_X0_cut 2 = .ok (.aload_n 0, 1) := by decide +kernel
theorem d_X0_cut_3 : decode b_X0_cut 3 = .ok (.getfield 18, 3) := by decide +kernel
theorem d_X0_cut_6 : decode b_X0_cut 6 = .ok (.invokestatic 25, 3) := by decide +kernel
theorem d_X5_inverted_0 : decode b_X5_inverted 0 = .ok (.iload_n 0, 1) := by decide +kernel
theorem d_X5_inverted_1 : decode b_X5_inverted 1 = .ok (.tableswitch 44 22 24 #[27, 30, 34], 27) := by decide +kernel
theorem d_X5_inverted_28 : decode b_X5_inverted 28 = .ok (.iload_n 1, 1) := by decide +kernel
theorem d_X5_inverted_29 : decode b_X5_inverted 29 = .ok (.ineg, 1) := by decide +kernel
theorem d_X5_inverted_30 : decode b_X5_inverted 30 = .ok (.ireturn, 1) := by decide +kernel
theorem d_X5_inverted_31 : decode b_X5_inverted 31 = .ok (.iload_n 1, 1) := by decide +kernel
theorem d_X5_inverted_32 : decode b_X5_inverted 32 = .ok (.iconst (-1), 1) := by decide +kernel
theorem d_X5_inverted_33 : decode b_X5_inverted 33 = .ok (.ixor, 1) := by decide +kernel
theorem d_X5_inverted_34 : decode b_X5_inverted 34 = .ok (.ireturn, 1) := by decide +kernel
theorem d_X5_inverted_35 : decode b_X5_inverted 35 = .ok (.iload_n 1, 1) := by decide +kernel
theorem d_X5_inverted_36 : decode b_X5_inverted 36 = .ok (.ifCond .ne 7, 3) := by decide +kernel
theorem d_X5_inverted_39 : decode b_X5_inverted 39 = .ok (.iconst 1, 1) := by decide +kernel
theorem d_X5_inverted_40 : decode b_X5_inverted 40 = .ok (.goto 4, 3) := by decide +kernel
theorem d_X5_inverted_43 : decode b_X5_inverted 43 = .ok (.iconst 0, 1) := by decide +kernel
theorem d_X5_inverted_44 : decode b_X5_inverted 44 = .ok (.ireturn, 1) := by decide +kernel
theorem d_X5_inverted_45 : decode b_X5_inverted 45 = .ok (.iload_n 1, 1) := by decide +kernel
theorem d_X5_inverted_46 : decode b_X5_inverted 46 = .ok (.ifCond .eq 7, 3) := by decide +kernel
theorem d_X5_inverted_49 : decode b_X5_inverted 49 = .ok (.iconst 1, 1) := by decide +kernel
theorem d_X5_inverted_50 : decode b_X5_inverted 50 = .ok (.goto 4, 3) := by decide +kernel
theorem d_X5_inverted_53 : decode b_X5_inverted 53 = .ok (.iconst 0, 1) := by decide +kernel
theorem d_X5_inverted_54 : decode b_X5_inverted 54 = .ok (.ireturn, 1) := by decide +kernel
theorem d_X11_open_0 : decode b_X11_open 0 = .ok (.aload_n 0, 1) := by decide +kernel
theorem d_X11_open_1 : decode b_X11_open 1 = .ok (.getfield 33, 3) := by decide +kernel
theorem d_X11_open_4 : decode b_X11_open 4 = .ok (.aload_n 0, 1) := by decide +kernel
theorem d_X11_open_5 : decode b_X11_open 5 = .ok (.getfield 75, 3) := by decide +kernel
theorem d_X11_open_8 : decode b_X11_open 8 = .ok (.aload_n 0, 1) := by decide +kernel
theorem d_X11_open_9 : decode b_X11_open 9 = .ok (.getfield 72, 3) := by decide +kernel
theorem d_X11_open_12 : decode b_X11_open 12 = .ok (.invokestatic 78, 3) := by decide +kernel
theorem d_X11_open_15 : decode b_X11_open 15 = .ok (.aload_n 0, 1) := by decide +kernel
theorem d_X11_open_16 : decode b_X11_open 16 = .ok (.dup, 1) := by decide +kernel
theorem d_X11_open_17 : decode b_X11_open 17 = .ok (.getfield 75, 3) := by decide +kernel
theorem d_X11_open_20 : decode b_X11_open 20 = .ok (.iconst 1, 1) := by decide +kernel
theorem d_X11_open_21 : decode b_X11_open 21 = .ok (.iadd, 1) := by decide +kernel
theorem d_X11_open_22 : decode b_X11_open 22 = .ok (.putfield 75, 3) := by decide +kernel
theorem d_X11_open_25 : decode b_X11_open 25 = .ok (.return_, 1) := by decide +kernel
theorem d_X11_close_0 : decode b_X11_close 0 = .ok (.aload_n 0, 1) := by decide +kernel
theorem d_X11_close_1 : decode b_X11_close 1 = .ok (.dup, 1) := by decide +kernel
theorem d_X11_close_2 : decode b_X11_close 2 = .ok (.getfield 75, 3) := by decide +kernel
theorem d_X11_close_5 : decode b_X11_close 5 = .ok (.iconst 1, 1) := by decide +kernel
theorem d_X11_close_6 : decode b_X11_close 6 = .ok (.isub, 1) := by decide +kernel
theorem d_X11_close_7 : decode b_X11_close 7 = .ok (.putfield 75, 3) := by decide +kernel
theorem d_X11_close_10 : decode b_X11_close 10 = .ok (.aload_n 0, 1) := by decide +kernel
theorem d_X11_close_11 : decode b_X11_close 11 = .ok (.aload_n 0, 1) := by decide +kernel
theorem d_X11_close_12 : decode b_X11_close 12 = .ok (.getfield 33, 3) := by decide +kernel
theorem d_X11_close_15 : decode b_X11_close 15 = .ok (.aload_n 0, 1) := by decide +kernel
theorem d_X11_close_16 : decode b_X11_close 16 = .ok (.getfield 75, 3) := by decide +kernel
theorem d_X11_close_19 : decode b_X11_close 19 = .ok (.invokestatic 82, 3) := by decide +kernel
theorem d_X11_close_22 : decode b_X11_close 22 = .ok (.putfield 72, 3) := by decide +kernel
theorem d_X11_close_25 : decode b_X11_close 25 = .ok (.return_, 1) := by decide +kernel
theorem d_X7_begin_0 : decode b_X7_begin 0 = .ok (.aload_n 0, 1) := by decide +kernel
theorem d_X7_begin_1 : decode b_X7_begin 1 = .ok (.getfield 11, 3) := by decide +kernel
theorem d_X7_begin_4 : decode b_X7_begin 4 = .ok (.aload_n 0, 1) := by decide +kernel
theorem d_X7_begin_5 : decode b_X7_begin 5 = .ok (.getfield 68, 3) := by decide +kernel
theorem d_X7_begin_8 : decode b_X7_begin 8 = .ok (.iload_n 1, 1) := by decide +kernel
theorem d_X7_begin_9 : decode b_X7_begin 9 = .ok (.ifCond .eq 7, 3) := by decide +kernel
theorem d_X7_begin_12 : decode b_X7_begin 12 = .ok (.iconst 1, 1) := by decide +kernel
theorem d_X7_begin_13 : decode b_X7_begin 13 = .ok (.goto 4, 3) := by decide +kernel
theorem d_X7_begin_16 : decode b_X7_begin 16 = .ok (.iconst 0, 1) := by decide +kernel
theorem d_X7_begin_17 : decode b_X7_begin 17 = .ok (.invokestatic 166, 3) := by decide +kernel
theorem d_X7_begin_20 : decode b_X7_begin 20 = .ok (.aload_n 0, 1) := by decide +kernel
theorem d_X7_begin_21 : decode b_X7_begin 21 = .ok (.getfield 15, 3) := by decide +kernel
theorem d_X7_begin_24 : decode b_X7_begin 24 = .ok (.aload_n 0, 1) := by decide +kernel
theorem d_X7_begin_25 : decode b_X7_begin 25 = .ok (.getfield 68, 3) := by decide +kernel
theorem d_X7_begin_28 : decode b_X7_begin 28 = .ok (.aload_n 0, 1) := by decide +kernel
theorem d_X7_begin_29 : decode b_X7_begin 29 = .ok (.getfield 44, 3) := by decide +kernel
theorem d_X7_begin_32 : decode b_X7_begin 32 = .ok (.getfield 109, 3) := by decide +kernel
theorem d_X7_begin_35 : decode b_X7_begin 35 = .ok (.invokestatic 166, 3) := by decide +kernel
theorem d_X7_begin_38 : decode b_X7_begin 38 = .ok (.aload_n 0, 1) := by decide +kernel
theorem d_X7_begin_39 : decode b_X7_begin 39 = .ok (.getfield 18, 3) := by decide +kernel
theorem d_X7_begin_42 : decode b_X7_begin 42 = .ok (.aload_n 0, 1) := by decide +kernel
theorem d_X7_begin_43 : decode b_X7_begin 43 = .ok (.getfield 68, 3) := by decide +kernel
theorem d_X7_begin_46 : decode b_X7_begin 46 = .ok (.iconst (-1), 1) := by decide +kernel
theorem d_X7_begin_47 : decode b_X7_begin 47 = .ok (.invokestatic 166, 3) := by decide +kernel
theorem d_X7_begin_50 : decode b_X7_begin 50 = .ok (.aload_n 0, 1) := by decide +kernel
theorem d_X7_begin_51 : decode b_X7_begin 51 = .ok (.getfield 21, 3) := by decide +kernel
theorem d_X7_begin_54 : decode b_X7_begin 54 = .ok (.aload_n 0, 1) := by decide +kernel
theorem d_X7_begin_55 : decode b_X7_begin 55 = .ok (.getfield 68, 3) := by decide +kernel
theorem d_X7_begin_58 : decode b_X7_begin 58 = .ok (.iconst (-1), 1) := by decide +kernel
theorem d_X7_begin_59 : decode b_X7_begin 59 = .ok (.invokestatic 166, 3) := by decide +kernel
theorem d_X7_begin_62 : decode b_X7_begin 62 = .ok (.aload_n 0, 1) := by decide +kernel
theorem d_X7_begin_63 : decode b_X7_begin 63 = .ok (.dup, 1) := by decide +kernel
theorem d_X7_begin_64 : decode b_X7_begin 64 = .ok (.getfield 68, 3) := by decide +kernel
theorem d_X7_begin_67 : decode b_X7_begin 67 = .ok (.iconst 1, 1) := by decide +kernel
theorem d_X7_begin_68 : decode b_X7_begin 68 = .ok (.iadd, 1) := by decide +kernel
theorem d_X7_begin_69 : decode b_X7_begin 69 = .ok (.putfield 68, 3) := by decide +kernel
theorem d_X7_begin_72 : decode b_X7_begin 72 = .ok (.return_, 1) := by decide +kernel
theorem d_X7_finish_0 : decode b_X7_finish 0 = .ok (.aload_n 0, 1) := by decide +kernel
theorem d_X7_finish_1 : decode b_X7_finish 1 = .ok (.dup, 1) := by decide +kernel
theorem d_X7_finish_2 : decode b_X7_finish 2 = .ok (.getfield 68, 3) := by decide +kernel
theorem d_X7_finish_5 : decode b_X7_finish 5 = .ok (.iconst 1, 1) := by decide +kernel
theorem d_X7_finish_6 : decode b_X7_finish 6 = .ok (.isub, 1) := by decide +kernel
theorem d_X7_finish_7 : decode b_X7_finish 7 = .ok (.putfield 68, 3) := by decide +kernel
theorem d_X7_finish_10 : decode b_X7_finish 10 = .ok (.aload_n 0, 1) := by decide +kernel
theorem d_X7_finish_11 : decode b_X7_finish 11 = .ok (.getfield 44, 3) := by decide +kernel
theorem d_X7_finish_14 : decode b_X7_finish 14 = .ok (.aload_n 0, 1) := by decide +kernel
theorem d_X7_finish_15 : decode b_X7_finish 15 = .ok (.getfield 18, 3) := by decide +kernel
theorem d_X7_finish_18 : decode b_X7_finish 18 = .ok (.aload_n 0, 1) := by decide +kernel
theorem d_X7_finish_19 : decode b_X7_finish 19 = .ok (.getfield 68, 3) := by decide +kernel
theorem d_X7_finish_22 : decode b_X7_finish 22 = .ok (.invokestatic 80, 3) := by decide +kernel
theorem d_X7_finish_25 : decode b_X7_finish 25 = .ok (.aload_n 0, 1) := by decide +kernel
theorem d_X7_finish_26 : decode b_X7_finish 26 = .ok (.getfield 44, 3) := by decide +kernel
theorem d_X7_finish_29 : decode b_X7_finish 29 = .ok (.getfield 109, 3) := by decide +kernel
theorem d_X7_finish_32 : decode b_X7_finish 32 = .ok (.invokevirtual 170, 3) := by decide +kernel
theorem d_X7_finish_35 : decode b_X7_finish 35 = .ok (.return_, 1) := by decide +kernel
theorem d_X7_turn_0 : decode b_X7_turn 0 = .ok (.aload_n 0, 1) := by decide +kernel
theorem d_X7_turn_1 : decode b_X7_turn 1 = .ok (.getfield 44, 3) := by decide +kernel
theorem d_X7_turn_4 : decode b_X7_turn 4 = .ok (.bipush 31, 2) := by decide +kernel
theorem d_X7_turn_6 : decode b_X7_turn 6 = .ok (.aload_n 0, 1) := by decide +kernel
theorem d_X7_turn_7 : decode b_X7_turn 7 = .ok (.getfield 34, 3) := by decide +kernel
theorem d_X7_turn_10 : decode b_X7_turn 10 = .ok (.getfield 183, 3) := by decide +kernel
theorem d_X7_turn_13 : decode b_X7_turn 13 = .ok (.getfield 187, 3) := by decide +kernel
theorem d_X7_turn_16 : decode b_X7_turn 16 = .ok (.iload_n 1, 1) := by decide +kernel
theorem d_X7_turn_17 : decode b_X7_turn 17 = .ok (.invokestatic 80, 3) := by decide +kernel
theorem d_X7_turn_20 : decode b_X7_turn 20 = .ok (.iconst 0, 1) := by decide +kernel
theorem d_X7_turn_21 : decode b_X7_turn 21 = .ok (.iconst 0, 1) := by decide +kernel
theorem d_X7_turn_22 : decode b_X7_turn 22 = .ok (.invokevirtual 141, 3) := by decide +kernel
theorem d_X7_turn_25 : decode b_X7_turn 25 = .ok (.pop, 1) := by decide +kernel
theorem d_X7_turn_26 : decode b_X7_turn 26 = .ok (.return_, 1) := by decide +kernel
theorem d_X7_jumpBack_0 : decode b_X7_jumpBack 0 = .ok (.aload_n 0, 1) := by decide +kernel
theorem d_X7_jumpBack_1 : decode b_X7_jumpBack 1 = .ok (.getfield 44, 3) := by decide +kernel
theorem d_X7_jumpBack_4 : decode b_X7_jumpBack 4 = .ok (.bipush 26, 2) := by decide +kernel
theorem d_X7_jumpBack_6 : decode b_X7_jumpBack 6 = .ok (.iload_n 1, 1) := by decide +kernel
theorem d_X7_jumpBack_7 : decode b_X7_jumpBack 7 = .ok (.iconst 0, 1) := by decide +kernel
theorem d_X7_jumpBack_8 : decode b_X7_jumpBack 8 = .ok (.iconst 0, 1) := by decide +kernel
theorem d_X7_jumpBack_9 : decode b_X7_jumpBack 9 = .ok (.invokevirtual 141, 3) := by decide +kernel
theorem d_X7_jumpBack_12 : decode b_X7_jumpBack 12 = .ok (.pop, 1) := by decide +kernel
theorem d_X7_jumpBack_13 : decode b_X7_jumpBack 13 = .ok (.return_, 1) := by decide +kernel
theorem d_X1_take_0 : decode b_X1_take 0 = .ok (.aload_n 0, 1) := by decide +kernel
theorem d_X1_take_1 : decode b_X1_take 1 = .ok (.getfield 15, 3) := by decide +kernel
theorem d_X1_take_4 : decode b_X1_take 4 = .ok (.getfield 53, 3) := by decide +kernel
theorem d_X1_take_7 : decode b_X1_take 7 = .ok (.iload_n 2, 1) := by decide +kernel
theorem d_X1_take_8 : decode b_X1_take 8 = .ok (.invokestatic 58, 3) := by decide +kernel
theorem d_X1_take_11 : decode b_X1_take 11 = .ok (.istore_n 3, 1) := by decide +kernel
theorem d_X1_take_12 : decode b_X1_take 12 = .ok (.aload_n 0, 1) := by decide +kernel
theorem d_X1_take_13 : decode b_X1_take 13 = .ok (.getfield 15, 3) := by decide +kernel
theorem d_X1_take_16 : decode b_X1_take 16 = .ok (.getfield 62, 3) := by decide +kernel
theorem d_X1_take_19 : decode b_X1_take 19 = .ok (.iload_n 2, 1) := by decide +kernel
theorem d_X1_take_20 : decode b_X1_take 20 = .ok (.invokestatic 58, 3) := by decide +kernel
theorem d_X1_take_23 : decode b_X1_take 23 = .ok (.istore 4, 2) := by decide +kernel
theorem d_X1_take_25 : decode b_X1_take 25 = .ok (.aload_n 0, 1) := by decide +kernel
theorem d_X1_take_26 : decode b_X1_take 26 = .ok (.getfield 15, 3) := by decide +kernel
theorem d_X1_take_29 : decode b_X1_take 29 = .ok (.getfield 65, 3) := by decide +kernel
theorem d_X1_take_32 : decode b_X1_take 32 = .ok (.iload_n 2, 1) := by decide +kernel
theorem d_X1_take_33 : decode b_X1_take 33 = .ok (.invokestatic 58, 3) := by decide +kernel
theorem d_X1_take_36 : decode b_X1_take 36 = .ok (.istore 5, 2) := by decide +kernel
theorem d_X1_take_38 : decode b_X1_take 38 = .ok (.iload_n 1, 1) := by decide +kernel
theorem d_X1_take_39 : decode b_X1_take 39 = .ok (.tableswitch 135 42 48 #[41, 76, 88, 95, 103, 113, 125], 41) := by decide +kernel
theorem d_X1_take_80 : decode b_X1_take 80 = .ok (.aload_n 0, 1) := by decide +kernel
theorem d_X1_take_81 : decode b_X1_take 81 = .ok (.iload_n 3, 1) := by decide +kernel
theorem d_X1_take_82 : decode b_X1_take 82 = .ok (.putfield 46, 3) := by decide +kernel
theorem d_X1_take_85 : decode b_X1_take 85 = .ok (.aload_n 0, 1) := by decide +kernel
theorem d_X1_take_86 : decode b_X1_take 86 = .ok (.iload 4, 2) := by decide +kernel
theorem d_X1_take_88 : decode b_X1_take 88 = .ok (.ifCond .eq 10, 3) := by decide +kernel
theorem d_X1_take_91 : decode b_X1_take 91 = .ok (.aload_n 0, 1) := by decide +kernel
theorem d_X1_take_92 : decode b_X1_take 92 = .ok (.getfield 50, 3) := by decide +kernel
theorem d_X1_take_95 : decode b_X1_take 95 = .ok (.goto 14, 3) := by decide +kernel
theorem d_X1_take_98 : decode b_X1_take 98 = .ok (.iload 5, 2) := by decide +kernel
theorem d_X1_take_100 : decode b_X1_take 100 = .ok (.ifCond .le 8, 3) := by decide +kernel
theorem d_X1_take_103 : decode b_X1_take 103 = .ok (.iload 5, 2) := by decide +kernel
theorem d_X1_take_105 : decode b_X1_take 105 = .ok (.goto 4, 3) := by decide +kernel
theorem d_X1_take_108 : decode b_X1_take 108 = .ok (.iconst (-1), 1) := by decide +kernel
theorem d_X1_take_109 : decode b_X1_take 109 = .ok (.putfield 68, 3) := by decide +kernel
theorem d_X1_take_112 : decode b_X1_take 112 = .ok (.goto 66, 3) := by decide +kernel
theorem d_X1_take_115 : decode b_X1_take 115 = .ok (.aload_n 0, 1) := by decide +kernel
theorem d_X1_take_116 : decode b_X1_take 116 = .ok (.iload_n 3, 1) := by decide +kernel
theorem d_X1_take_117 : decode b_X1_take 117 = .ok (.iload 4, 2) := by decide +kernel
theorem d_X1_take_119 : decode b_X1_take 119 = .ok (.iload 5, 2) := by decide +kernel
theorem d_X1_take_121 : decode b_X1_take 121 = .ok (.invokevirtual 71, 3) := by decide +kernel
theorem d_X1_take_178 : decode b_X1_take 178 = .ok (.return_, 1) := by decide +kernel
theorem d_X1_variable_0 : decode b_X1_variable 0 = .ok (.iload_n 3, 1) := by decide +kernel
theorem d_X1_variable_1 : decode b_X1_variable 1 = .ok (.iconst 3, 1) := by decide +kernel
theorem d_X1_variable_2 : decode b_X1_variable 2 = .ok (.iand, 1) := by decide +kernel
theorem d_X1_variable_3 : decode b_X1_variable 3 = .ok (.istore 4, 2) := by decide +kernel
theorem d_X1_variable_5 : decode b_X1_variable 5 = .ok (.iload_n 3, 1) := by decide +kernel
theorem d_X1_variable_6 : decode b_X1_variable 6 = .ok (.iconst 4, 1) := by decide +kernel
theorem d_X1_variable_7 : decode b_X1_variable 7 = .ok (.iand, 1) := by decide +kernel
theorem d_X1_variable_8 : decode b_X1_variable 8 = .ok (.ifCond .eq 7, 3) := by decide +kernel
theorem d_X1_variable_15 : decode b_X1_variable 15 = .ok (.iconst 0, 1) := by decide +kernel
theorem d_X1_variable_16 : decode b_X1_variable 16 = .ok (.istore 5, 2) := by decide +kernel
theorem d_X1_variable_18 : decode b_X1_variable 18 = .ok (.aload_n 0, 1) := by decide +kernel
theorem d_X1_variable_19 : decode b_X1_variable 19 = .ok (.iload_n 2, 1) := by decide +kernel
theorem d_X1_variable_20 : decode b_X1_variable 20 = .ok (.putfield 95, 3) := by decide +kernel
theorem d_X1_variable_23 : decode b_X1_variable 23 = .ok (.aload_n 0, 1) := by decide +kernel
theorem d_X1_variable_24 : decode b_X1_variable 24 = .ok (.aload_n 0, 1) := by decide +kernel
theorem d_X1_variable_25 : decode b_X1_variable 25 = .ok (.getfield 46, 3) := by decide +kernel
theorem d_X1_variable_28 : decode b_X1_variable 28 = .ok (.ifCond .ge 7, 3) := by decide +kernel
theorem d_X1_variable_35 : decode b_X1_variable 35 = .ok (.aload_n 0, 1) := by decide +kernel
theorem d_X1_variable_36 : decode b_X1_variable 36 = .ok (.getfield 68, 3) := by decide +kernel
theorem d_X1_variable_39 : decode b_X1_variable 39 = .ok (.iconst 1, 1) := by decide +kernel
theorem d_X1_variable_40 : decode b_X1_variable 40 = .ok (.if_icmp .lt 20, 3) := by decide +kernel
theorem d_X1_variable_60 : decode b_X1_variable 60 = .ok (.iconst 0, 1) := by decide +kernel
theorem d_X1_variable_61 : decode b_X1_variable 61 = .ok (.putfield 98, 3) := by decide +kernel
theorem d_X1_variable_64 : decode b_X1_variable 64 = .ok (.aload_n 0, 1) := by decide +kernel
theorem d_X1_variable_65 : decode b_X1_variable 65 = .ok (.iconst 0, 1) := by decide +kernel
theorem d_X1_variable_66 : decode b_X1_variable 66 = .ok (.putfield 101, 3) := by decide +kernel
theorem d_X1_variable_69 : decode b_X1_variable 69 = .ok (.aload_n 0, 1) := by decide +kernel
theorem d_X1_variable_70 : decode b_X1_variable 70 = .ok (.iconst 0, 1) := by decide +kernel
theorem d_X1_variable_71 : decode b_X1_variable 71 = .ok (.putfield 104, 3) := by decide +kernel
theorem d_X1_variable_74 : decode b_X1_variable 74 = .ok (.aload_n 0, 1) := by decide +kernel
theorem d_X1_variable_75 : decode b_X1_variable 75 = .ok (.aload_n 0, 1) := by decide +kernel
theorem d_X1_variable_76 : decode b_X1_variable 76 = .ok (.getfield 26, 3) := by decide +kernel
theorem d_X1_variable_79 : decode b_X1_variable 79 = .ok (.getfield 108, 3) := by decide +kernel
theorem d_X1_variable_82 : decode b_X1_variable 82 = .ok (.ifCond .lt 7, 3) := by decide +kernel
theorem d_X1_variable_89 : decode b_X1_variable 89 = .ok (.iconst 0, 1) := by decide +kernel
theorem d_X1_variable_90 : decode b_X1_variable 90 = .ok (.putfield 110, 3) := by decide +kernel
theorem d_X1_variable_93 : decode b_X1_variable 93 = .ok (.aload_n 0, 1) := by decide +kernel
theorem d_X1_variable_94 : decode b_X1_variable 94 = .ok (.iload 4, 2) := by decide +kernel
theorem d_X1_variable_96 : decode b_X1_variable 96 = .ok (.iconst 2, 1) := by decide +kernel
theorem d_X1_variable_97 : decode b_X1_variable 97 = .ok (.if_icmp .ne 7, 3) := by decide +kernel
theorem d_X1_variable_104 : decode b_X1_variable 104 = .ok (.iconst 0, 1) := by decide +kernel
theorem d_X1_variable_105 : decode b_X1_variable 105 = .ok (.putfield 113, 3) := by decide +kernel
theorem d_X1_variable_108 : decode b_X1_variable 108 = .ok (.aload_n 0, 1) := by decide +kernel
theorem d_X1_variable_109 : decode b_X1_variable 109 = .ok (.getfield 110, 3) := by decide +kernel
theorem d_X1_variable_112 : decode b_X1_variable 112 = .ok (.ifCond .eq 13, 3) := by decide +kernel
theorem d_X1_variable_125 : decode b_X1_variable 125 = .ok (.aload_n 0, 1) := by decide +kernel
theorem d_X1_variable_126 : decode b_X1_variable 126 = .ok (.iload_n 1, 1) := by decide +kernel
theorem d_X1_variable_127 : decode b_X1_variable 127 = .ok (.iload 4, 2) := by decide +kernel
theorem d_X1_variable_129 : decode b_X1_variable 129 = .ok (.iload 5, 2) := by decide +kernel
theorem d_X1_variable_131 : decode b_X1_variable 131 = .ok (.invokevirtual 120, 3) := by decide +kernel
theorem d_X1_local_0 : decode b_X1_local 0 = .ok (.aload_n 0, 1) := by decide +kernel
theorem d_X1_local_1 : decode b_X1_local 1 = .ok (.getfield 26, 3) := by decide +kernel
theorem d_X1_local_4 : decode b_X1_local 4 = .ok (.aload_n 0, 1) := by decide +kernel
theorem d_X1_local_5 : decode b_X1_local 5 = .ok (.getfield 26, 3) := by decide +kernel
theorem d_X1_local_8 : decode b_X1_local 8 = .ok (.invokevirtual 127, 3) := by decide +kernel
theorem d_X1_local_11 : decode b_X1_local 11 = .ok (.iload_n 1, 1) := by decide +kernel
theorem d_X1_local_12 : decode b_X1_local 12 = .ok (.invokevirtual 131, 3) := by decide +kernel
theorem d_X1_local_15 : decode b_X1_local 15 = .ok (.ifCond .lt 12, 3) := by decide +kernel
theorem d_X1_local_18 : decode b_X1_local 18 = .ok (.aload_n 0, 1) := by decide +kernel
theorem d_X1_local_19 : decode b_X1_local 19 = .ok (.getfield 26, 3) := by decide +kernel
theorem d_X1_local_22 : decode b_X1_local 22 = .ok (.iconst 2, 1) := by decide +kernel
theorem d_X1_local_23 : decode b_X1_local 23 = .ok (.iload_n 1, 1) := by decide +kernel
theorem d_X1_local_24 : decode b_X1_local 24 = .ok (.invokevirtual 124, 3) := by decide +kernel
theorem d_X1_local_27 : decode b_X1_local 27 = .ok (.aload_n 0, 1) := by decide +kernel
theorem d_X1_local_28 : decode b_X1_local 28 = .ok (.getfield 26, 3) := by decide +kernel
theorem d_X1_local_31 : decode b_X1_local 31 = .ok (.getfield 135, 3) := by decide +kernel
theorem d_X1_local_34 : decode b_X1_local 34 = .ok (.bipush 100, 2) := by decide +kernel
theorem d_X1_local_36 : decode b_X1_local 36 = .ok (.if_icmp .lt 12, 3) := by decide +kernel
theorem d_X1_local_39 : decode b_X1_local 39 = .ok (.aload_n 0, 1) := by decide +kernel
theorem d_X1_local_40 : decode b_X1_local 40 = .ok (.getfield 26, 3) := by decide +kernel
theorem d_X1_local_43 : decode b_X1_local 43 = .ok (.iconst 4, 1) := by decide +kernel
theorem d_X1_local_44 : decode b_X1_local 44 = .ok (.iload_n 1, 1) := by decide +kernel
theorem d_X1_local_45 : decode b_X1_local 45 = .ok (.invokevirtual 124, 3) := by decide +kernel
theorem d_X1_local_48 : decode b_X1_local 48 = .ok (.aload_n 0, 1) := by decide +kernel
theorem d_X1_local_49 : decode b_X1_local 49 = .ok (.iload_n 2, 1) := by decide +kernel
theorem d_X1_local_50 : decode b_X1_local 50 = .ok (.invokevirtual 138, 3) := by decide +kernel
theorem d_X1_local_53 : decode b_X1_local 53 = .ok (.aload_n 0, 1) := by decide +kernel
theorem d_X1_local_54 : decode b_X1_local 54 = .ok (.getfield 26, 3) := by decide +kernel
theorem d_X1_local_57 : decode b_X1_local 57 = .ok (.getfield 142, 3) := by decide +kernel
theorem d_X1_local_60 : decode b_X1_local 60 = .ok (.ifCond .eq 4, 3) := by decide +kernel
theorem d_X1_local_63 : decode b_X1_local 63 = .ok (.return_, 1) := by decide +kernel
theorem d_X1_local_64 : decode b_X1_local 64 = .ok (.aload_n 0, 1) := by decide +kernel
theorem d_X1_local_65 : decode b_X1_local 65 = .ok (.aload_n 0, 1) := by decide +kernel
theorem d_X1_local_66 : decode b_X1_local 66 = .ok (.getfield 26, 3) := by decide +kernel
theorem d_X1_local_69 : decode b_X1_local 69 = .ok (.getfield 135, 3) := by decide +kernel
theorem d_X1_local_72 : decode b_X1_local 72 = .ok (.putfield 145, 3) := by decide +kernel
theorem d_X1_local_75 : decode b_X1_local 75 = .ok (.aload_n 0, 1) := by decide +kernel
theorem d_X1_local_76 : decode b_X1_local 76 = .ok (.getfield 26, 3) := by decide +kernel
theorem d_X1_local_79 : decode b_X1_local 79 = .ok (.iload_n 1, 1) := by decide +kernel
theorem d_X1_local_80 : decode b_X1_local 80 = .ok (.aload_n 0, 1) := by decide +kernel
theorem d_X1_local_81 : decode b_X1_local 81 = .ok (.getfield 95, 3) := by decide +kernel
theorem d_X1_local_84 : decode b_X1_local 84 = .ok (.aload_n 0, 1) := by decide +kernel
theorem d_X1_local_85 : decode b_X1_local 85 = .ok (.getfield 98, 3) := by decide +kernel
theorem d_X1_local_88 : decode b_X1_local 88 = .ok (.invokevirtual 147, 3) := by decide +kernel
theorem d_X1_local_91 : decode b_X1_local 91 = .ok (.aload_n 0, 1) := by decide +kernel
theorem d_X1_local_92 : decode b_X1_local 92 = .ok (.getfield 98, 3) := by decide +kernel
theorem d_X1_local_95 : decode b_X1_local 95 = .ok (.iconst (-1), 1) := by decide +kernel
theorem d_X1_local_96 : decode b_X1_local 96 = .ok (.if_icmp .ne 22, 3) := by decide +kernel
theorem d_X1_local_99 : decode b_X1_local 99 = .ok (.aload_n 0, 1) := by decide +kernel
theorem d_X1_local_100 : decode b_X1_local 100 = .ok (.getfield 41, 3) := by decide +kernel
theorem d_X1_local_103 : decode b_X1_local 103 = .ok (.iconst 1, 1) := by decide +kernel
theorem d_X1_local_104 : decode b_X1_local 104 = .ok (.iconst 0, 1) := by decide +kernel
theorem d_X1_local_105 : decode b_X1_local 105 = .ok (.iconst 0, 1) := by decide +kernel
theorem d_X1_local_106 : decode b_X1_local 106 = .ok (.iconst 0, 1) := by decide +kernel
theorem d_X1_local_107 : decode b_X1_local 107 = .ok (.invokevirtual 152, 3) := by decide +kernel
theorem d_X1_local_110 : decode b_X1_local 110 = .ok (.pop, 1) := by decide +kernel
theorem d_X1_local_111 : decode b_X1_local 111 = .ok (.aload_n 0, 1) := by decide +kernel
theorem d_X1_local_112 : decode b_X1_local 112 = .ok (.invokevirtual 156, 3) := by decide +kernel
theorem d_X1_local_115 : decode b_X1_local 115 = .ok (.goto 22, 3) := by decide +kernel
theorem d_X1_local_118 : decode b_X1_local 118 = .ok (.aload_n 0, 1) := by decide +kernel
theorem d_X1_local_119 : decode b_X1_local 119 = .ok (.getfield 41, 3) := by decide +kernel
theorem d_X1_local_122 : decode b_X1_local 122 = .ok (.bipush 15, 2) := by decide +kernel
theorem d_X1_local_124 : decode b_X1_local 124 = .ok (.aload_n 0, 1) := by decide +kernel
theorem d_X1_local_125 : decode b_X1_local 125 = .ok (.getfield 145, 3) := by decide +kernel
theorem d_X1_local_128 : decode b_X1_local 128 = .ok (.aload_n 0, 1) := by decide +kernel
theorem d_X1_local_129 : decode b_X1_local 129 = .ok (.getfield 98, 3) := by decide +kernel
theorem d_X1_local_132 : decode b_X1_local 132 = .ok (.iconst 0, 1) := by decide +kernel
theorem d_X1_local_133 : decode b_X1_local 133 = .ok (.invokevirtual 152, 3) := by decide +kernel
theorem d_X1_local_136 : decode b_X1_local 136 = .ok (.pop, 1) := by decide +kernel
theorem d_X1_local_137 : decode b_X1_local 137 = .ok (.return_, 1) := by decide +kernel
theorem d_X11_scopeStart_0 : decode b_X11_scopeStart 0 = .ok (.aload_n 0, 1) := by decide +kernel
theorem d_X11_scopeStart_1 : decode b_X11_scopeStart 1 = .ok (.getfield 33, 3) := by decide +kernel
theorem d_X11_scopeStart_4 : decode b_X11_scopeStart 4 = .ok (.aload_n 0, 1) := by decide +kernel
theorem d_X11_scopeStart_5 : decode b_X11_scopeStart 5 = .ok (.getfield 75, 3) := by decide +kernel
theorem d_X11_scopeStart_8 : decode b_X11_scopeStart 8 = .ok (.iconst 1, 1) := by decide +kernel
theorem d_X11_scopeStart_9 : decode b_X11_scopeStart 9 = .ok (.isub, 1) := by decide +kernel
theorem d_X11_scopeStart_10 : decode b_X11_scopeStart 10 = .ok (.invokestatic 82, 3) := by decide +kernel
theorem d_X11_scopeStart_13 : decode b_X11_scopeStart 13 = .ok (.ireturn, 1) := by decide +kernel
theorem d_X1_checkSquare_0 : decode b_X1_checkSquare 0 = .ok (.aload_n 0, 1) := by decide +kernel
theorem d_X1_checkSquare_1 : decode b_X1_checkSquare 1 = .ok (.getfield 46, 3) := by decide +kernel
theorem d_X1_checkSquare_4 : decode b_X1_checkSquare 4 = .ok (.ifCond .lt 38, 3) := by decide +kernel
theorem d_X1_checkSquare_7 : decode b_X1_checkSquare 7 = .ok (.aload_n 0, 1) := by decide +kernel
theorem d_X1_checkSquare_8 : decode b_X1_checkSquare 8 = .ok (.getfield 68, 3) := by decide +kernel
theorem d_X1_checkSquare_11 : decode b_X1_checkSquare 11 = .ok (.iconst (-1), 1) := by decide +kernel
theorem d_X1_checkSquare_12 : decode b_X1_checkSquare 12 = .ok (.if_icmp .ne 10, 3) := by decide +kernel
theorem d_X1_checkSquare_15 : decode b_X1_checkSquare 15 = .ok (.iload_n 1, 1) := by decide +kernel
theorem d_X1_checkSquare_16 : decode b_X1_checkSquare 16 = .ok (.ifCond .ne 26, 3) := by decide +kernel
theorem d_X1_checkSquare_19 : decode b_X1_checkSquare 19 = .ok (.goto 11, 3) := by decide +kernel
theorem d_X1_checkSquare_22 : decode b_X1_checkSquare 22 = .ok (.aload_n 0, 1) := by decide +kernel
theorem d_X1_checkSquare_23 : decode b_X1_checkSquare 23 = .ok (.getfield 68, 3) := by decide +kernel
theorem d_X1_checkSquare_26 : decode b_X1_checkSquare 26 = .ok (.iconst 1, 1) := by decide +kernel
theorem d_X1_checkSquare_27 : decode b_X1_checkSquare 27 = .ok (.if_icmp .ge 15, 3) := by decide +kernel
theorem d_X1_checkSquare_30 : decode b_X1_checkSquare 30 = .ok (.aload_n 0, 1) := by decide +kernel
theorem d_X1_checkSquare_31 : decode b_X1_checkSquare 31 = .ok (.getfield 26, 3) := by decide +kernel
theorem d_X1_checkSquare_34 : decode b_X1_checkSquare 34 = .ok (.iconst 2, 1) := by decide +kernel
theorem d_X1_checkSquare_35 : decode b_X1_checkSquare 35 = .ok (.aload_n 0, 1) := by decide +kernel
theorem d_X1_checkSquare_36 : decode b_X1_checkSquare 36 = .ok (.getfield 46, 3) := by decide +kernel
theorem d_X1_checkSquare_39 : decode b_X1_checkSquare 39 = .ok (.invokevirtual 124, 3) := by decide +kernel
theorem d_X1_checkSquare_42 : decode b_X1_checkSquare 42 = .ok (.aload_n 0, 1) := by decide +kernel
theorem d_X1_checkSquare_43 : decode b_X1_checkSquare 43 = .ok (.getfield 46, 3) := by decide +kernel
theorem d_X1_checkSquare_46 : decode b_X1_checkSquare 46 = .ok (.ifCond .lt 25, 3) := by decide +kernel
theorem d_X1_checkSquare_49 : decode b_X1_checkSquare 49 = .ok (.aload_n 0, 1) := by decide +kernel
theorem d_X1_checkSquare_50 : decode b_X1_checkSquare 50 = .ok (.getfield 68, 3) := by decide +kernel
theorem d_X1_checkSquare_53 : decode b_X1_checkSquare 53 = .ok (.sipush 4000, 3) := by decide +kernel
theorem d_X1_checkSquare_56 : decode b_X1_checkSquare 56 = .ok (.if_icmp .le 15, 3) := by decide +kernel
theorem d_X1_checkSquare_59 : decode b_X1_checkSquare 59 = .ok (.aload_n 0, 1) := by decide +kernel
theorem d_X1_checkSquare_60 : decode b_X1_checkSquare 60 = .ok (.getfield 26, 3) := by decide +kernel
theorem d_X1_checkSquare_63 : decode b_X1_checkSquare 63 = .ok (.iconst 4, 1) := by decide +kernel
theorem d_X1_checkSquare_64 : decode b_X1_checkSquare 64 = .ok (.aload_n 0, 1) := by decide +kernel
theorem d_X1_checkSquare_65 : decode b_X1_checkSquare 65 = .ok (.getfield 46, 3) := by decide +kernel
theorem d_X1_checkSquare_68 : decode b_X1_checkSquare 68 = .ok (.invokevirtual 124, 3) := by decide +kernel
theorem d_X1_checkSquare_71 : decode b_X1_checkSquare 71 = .ok (.return_, 1) := by decide +kernel
theorem d_X11_declareLocal_0 : decode b_X11_declareLocal 0 = .ok (.aload_n 0, 1) := by decide +kernel
theorem d_X11_declareLocal_1 : decode b_X11_declareLocal 1 = .ok (.getfield 69, 3) := by decide +kernel
theorem d_X11_declareLocal_4 : decode b_X11_declareLocal 4 = .ok (.istore 4, 2) := by decide +kernel
theorem d_X11_declareLocal_6 : decode b_X11_declareLocal 6 = .ok (.aload_n 0, 1) := by decide +kernel
theorem d_X11_declareLocal_7 : decode b_X11_declareLocal 7 = .ok (.getfield 18, 3) := by decide +kernel
theorem d_X11_declareLocal_10 : decode b_X11_declareLocal 10 = .ok (.iload 4, 2) := by decide +kernel
theorem d_X11_declareLocal_12 : decode b_X11_declareLocal 12 = .ok (.iload_n 1, 1) := by decide +kernel
theorem d_X11_declareLocal_13 : decode b_X11_declareLocal 13 = .ok (.invokestatic 78, 3) := by decide +kernel
theorem d_X11_declareLocal_16 : decode b_X11_declareLocal 16 = .ok (.aload_n 0, 1) := by decide +kernel
theorem d_X11_declareLocal_17 : decode b_X11_declareLocal 17 = .ok (.getfield 21, 3) := by decide +kernel
theorem d_X11_declareLocal_20 : decode b_X11_declareLocal 20 = .ok (.iload 4, 2) := by decide +kernel
theorem d_X11_declareLocal_22 : decode b_X11_declareLocal 22 = .ok (.iload_n 2, 1) := by decide +kernel
theorem d_X11_declareLocal_23 : decode b_X11_declareLocal 23 = .ok (.invokestatic 78, 3) := by decide +kernel
theorem d_X11_declareLocal_26 : decode b_X11_declareLocal 26 = .ok (.aload_n 0, 1) := by decide +kernel
theorem d_X11_declareLocal_27 : decode b_X11_declareLocal 27 = .ok (.getfield 24, 3) := by decide +kernel
theorem d_X11_declareLocal_30 : decode b_X11_declareLocal 30 = .ok (.iload 4, 2) := by decide +kernel
theorem d_X11_declareLocal_32 : decode b_X11_declareLocal 32 = .ok (.iload_n 3, 1) := by decide +kernel
theorem d_X11_declareLocal_33 : decode b_X11_declareLocal 33 = .ok (.invokestatic 78, 3) := by decide +kernel
theorem d_X11_declareLocal_36 : decode b_X11_declareLocal 36 = .ok (.aload_n 0, 1) := by decide +kernel
theorem d_X11_declareLocal_37 : decode b_X11_declareLocal 37 = .ok (.getfield 27, 3) := by decide +kernel
theorem d_X11_declareLocal_40 : decode b_X11_declareLocal 40 = .ok (.iload 4, 2) := by decide +kernel
theorem d_X11_declareLocal_42 : decode b_X11_declareLocal 42 = .ok (.iload_n 3, 1) := by decide +kernel
theorem d_X11_declareLocal_43 : decode b_X11_declareLocal 43 = .ok (.ifCond .ge 7, 3) := by decide +kernel
theorem d_X11_declareLocal_46 : decode b_X11_declareLocal 46 = .ok (.iconst 0, 1) := by decide +kernel
theorem d_X11_declareLocal_47 : decode b_X11_declareLocal 47 = .ok (.goto 4, 3) := by decide +kernel
theorem d_X11_declareLocal_50 : decode b_X11_declareLocal 50 = .ok (.iconst 1, 1) := by decide +kernel
theorem d_X11_declareLocal_51 : decode b_X11_declareLocal 51 = .ok (.invokestatic 78, 3) := by decide +kernel
theorem d_X11_declareLocal_54 : decode b_X11_declareLocal 54 = .ok (.aload_n 0, 1) := by decide +kernel
theorem d_X11_declareLocal_55 : decode b_X11_declareLocal 55 = .ok (.getfield 30, 3) := by decide +kernel
theorem d_X11_declareLocal_58 : decode b_X11_declareLocal 58 = .ok (.aload_n 0, 1) := by decide +kernel
theorem d_X11_declareLocal_59 : decode b_X11_declareLocal 59 = .ok (.getfield 72, 3) := by decide +kernel
theorem d_X11_declareLocal_62 : decode b_X11_declareLocal 62 = .ok (.iload 4, 2) := by decide +kernel
theorem d_X11_declareLocal_64 : decode b_X11_declareLocal 64 = .ok (.invokestatic 78, 3) := by decide +kernel
theorem d_X11_declareLocal_67 : decode b_X11_declareLocal 67 = .ok (.aload_n 0, 1) := by decide +kernel
theorem d_X11_declareLocal_68 : decode b_X11_declareLocal 68 = .ok (.dup, 1) := by decide +kernel
theorem d_X11_declareLocal_69 : decode b_X11_declareLocal 69 = .ok (.getfield 69, 3) := by decide +kernel
theorem d_X11_declareLocal_72 : decode b_X11_declareLocal 72 = .ok (.iconst 1, 1) := by decide +kernel
theorem d_X11_declareLocal_73 : decode b_X11_declareLocal 73 = .ok (.iadd, 1) := by decide +kernel
theorem d_X11_declareLocal_74 : decode b_X11_declareLocal 74 = .ok (.putfield 69, 3) := by decide +kernel
theorem d_X11_declareLocal_77 : decode b_X11_declareLocal 77 = .ok (.aload_n 0, 1) := by decide +kernel
theorem d_X11_declareLocal_78 : decode b_X11_declareLocal 78 = .ok (.dup, 1) := by decide +kernel
theorem d_X11_declareLocal_79 : decode b_X11_declareLocal 79 = .ok (.getfield 72, 3) := by decide +kernel
theorem d_X11_declareLocal_82 : decode b_X11_declareLocal 82 = .ok (.iconst 1, 1) := by decide +kernel
theorem d_X11_declareLocal_83 : decode b_X11_declareLocal 83 = .ok (.iadd, 1) := by decide +kernel
theorem d_X11_declareLocal_84 : decode b_X11_declareLocal 84 = .ok (.putfield 72, 3) := by decide +kernel
theorem d_X11_declareLocal_87 : decode b_X11_declareLocal 87 = .ok (.return_, 1) := by decide +kernel
theorem d_X1_storeLocal_0 : decode b_X1_storeLocal 0 = .ok (.aload_n 0, 1) := by decide +kernel
theorem d_X1_storeLocal_1 : decode b_X1_storeLocal 1 = .ok (.getfield 41, 3) := by decide +kernel
theorem d_X1_storeLocal_4 : decode b_X1_storeLocal 4 = .ok (.bipush 9, 2) := by decide +kernel
theorem d_X1_storeLocal_6 : decode b_X1_storeLocal 6 = .ok (.aload_n 0, 1) := by decide +kernel
theorem d_X1_storeLocal_7 : decode b_X1_storeLocal 7 = .ok (.getfield 145, 3) := by decide +kernel
theorem d_X1_storeLocal_10 : decode b_X1_storeLocal 10 = .ok (.iconst 0, 1) := by decide +kernel
theorem d_X1_storeLocal_11 : decode b_X1_storeLocal 11 = .ok (.iconst 0, 1) := by decide +kernel
theorem d_X1_storeLocal_12 : decode b_X1_storeLocal 12 = .ok (.invokevirtual 152, 3) := by decide +kernel
theorem d_X1_storeLocal_15 : decode b_X1_storeLocal 15 = .ok (.pop, 1) := by decide +kernel
theorem d_X1_storeLocal_16 : decode b_X1_storeLocal 16 = .ok (.aload_n 0, 1) := by decide +kernel
theorem d_X1_storeLocal_17 : decode b_X1_storeLocal 17 = .ok (.getfield 41, 3) := by decide +kernel
theorem d_X1_storeLocal_20 : decode b_X1_storeLocal 20 = .ok (.iconst 2, 1) := by decide +kernel
theorem d_X1_storeLocal_21 : decode b_X1_storeLocal 21 = .ok (.iconst 0, 1) := by decide +kernel
theorem d_X1_storeLocal_22 : decode b_X1_storeLocal 22 = .ok (.iconst 0, 1) := by decide +kernel
theorem d_X1_storeLocal_23 : decode b_X1_storeLocal 23 = .ok (.iconst 0, 1) := by decide +kernel
theorem d_X1_storeLocal_24 : decode b_X1_storeLocal 24 = .ok (.invokevirtual 152, 3) := by decide +kernel
theorem d_X1_storeLocal_27 : decode b_X1_storeLocal 27 = .ok (.pop, 1) := by decide +kernel
theorem d_X1_storeLocal_28 : decode b_X1_storeLocal 28 = .ok (.return_, 1) := by decide +kernel
theorem d_X1_outer_0 : decode b_X1_outer 0 = .ok (.aload_n 0, 1) := by decide +kernel
theorem d_X1_outer_1 : decode b_X1_outer 1 = .ok (.getfield 26, 3) := by decide +kernel
theorem d_X1_outer_4 : decode b_X1_outer 4 = .ok (.iload_n 1, 1) := by decide +kernel
theorem d_X1_outer_5 : decode b_X1_outer 5 = .ok (.invokevirtual 159, 3) := by decide +kernel
theorem d_X1_outer_8 : decode b_X1_outer 8 = .ok (.istore 4, 2) := by decide +kernel
theorem d_X1_outer_10 : decode b_X1_outer 10 = .ok (.aload_n 0, 1) := by decide +kernel
theorem d_X1_outer_11 : decode b_X1_outer 11 = .ok (.iload_n 1, 1) := by decide +kernel
theorem d_X1_outer_12 : decode b_X1_outer 12 = .ok (.iload 4, 2) := by decide +kernel
theorem d_X1_outer_14 : decode b_X1_outer 14 = .ok (.iload 4, 2) := by decide +kernel
theorem d_X1_outer_16 : decode b_X1_outer 16 = .ok (.ifCond .lt 13, 3) := by decide +kernel
theorem d_X1_outer_29 : decode b_X1_outer 29 = .ok (.iconst 1, 1) := by decide +kernel
theorem d_X1_outer_30 : decode b_X1_outer 30 = .ok (.goto 4, 3) := by decide +kernel
theorem d_X1_outer_34 : decode b_X1_outer 34 = .ok (.invokevirtual 167, 3) := by decide +kernel
theorem d_X1_outer_37 : decode b_X1_outer 37 = .ok (.aload_n 0, 1) := by decide +kernel
theorem d_X1_outer_38 : decode b_X1_outer 38 = .ok (.iload_n 3, 1) := by decide +kernel
theorem d_X1_outer_39 : decode b_X1_outer 39 = .ok (.ifCond .ne 10, 3) := by decide +kernel
theorem d_X1_outer_49 : decode b_X1_outer 49 = .ok (.iconst 1, 1) := by decide +kernel
theorem d_X1_outer_50 : decode b_X1_outer 50 = .ok (.goto 4, 3) := by decide +kernel
theorem d_X1_outer_54 : decode b_X1_outer 54 = .ok (.invokevirtual 138, 3) := by decide +kernel
theorem d_X1_outer_57 : decode b_X1_outer 57 = .ok (.aload_n 0, 1) := by decide +kernel
theorem d_X1_outer_58 : decode b_X1_outer 58 = .ok (.getfield 113, 3) := by decide +kernel
theorem d_X1_outer_61 : decode b_X1_outer 61 = .ok (.ifCond .eq 7, 3) := by decide +kernel
theorem d_X1_outer_68 : decode b_X1_outer 68 = .ok (.aload_n 0, 1) := by decide +kernel
theorem d_X1_outer_69 : decode b_X1_outer 69 = .ok (.getfield 98, 3) := by decide +kernel
theorem d_X1_outer_72 : decode b_X1_outer 72 = .ok (.iconst (-1), 1) := by decide +kernel
theorem d_X1_outer_73 : decode b_X1_outer 73 = .ok (.if_icmp .ne 7, 3) := by decide +kernel
theorem d_X1_outer_80 : decode b_X1_outer 80 = .ok (.aload_n 0, 1) := by decide +kernel
theorem d_X1_outer_81 : decode b_X1_outer 81 = .ok (.getfield 98, 3) := by decide +kernel
theorem d_X1_outer_84 : decode b_X1_outer 84 = .ok (.istore 5, 2) := by decide +kernel
theorem d_X1_outer_86 : decode b_X1_outer 86 = .ok (.aload_n 0, 1) := by decide +kernel
theorem d_X1_outer_87 : decode b_X1_outer 87 = .ok (.getfield 26, 3) := by decide +kernel
theorem d_X1_outer_90 : decode b_X1_outer 90 = .ok (.getfield 170, 3) := by decide +kernel
theorem d_X1_outer_93 : decode b_X1_outer 93 = .ok (.iload 5, 2) := by decide +kernel
theorem d_X1_outer_95 : decode b_X1_outer 95 = .ok (.iadd, 1) := by decide +kernel
theorem d_X1_outer_96 : decode b_X1_outer 96 = .ok (.sipush 16000, 3) := by decide +kernel
theorem d_X1_outer_99 : decode b_X1_outer 99 = .ok (.if_icmp .le 12, 3) := by decide +kernel
theorem d_X1_outer_111 : decode b_X1_outer 111 = .ok (.aload_n 0, 1) := by decide +kernel
theorem d_X1_outer_112 : decode b_X1_outer 112 = .ok (.getfield 26, 3) := by decide +kernel
theorem d_X1_outer_115 : decode b_X1_outer 115 = .ok (.getfield 142, 3) := by decide +kernel
theorem d_X1_outer_118 : decode b_X1_outer 118 = .ok (.ifCond .eq 4, 3) := by decide +kernel
theorem d_X1_outer_122 : decode b_X1_outer 122 = .ok (.aload_n 0, 1) := by decide +kernel
theorem d_X1_outer_123 : decode b_X1_outer 123 = .ok (.iload 4, 2) := by decide +kernel
theorem d_X1_outer_125 : decode b_X1_outer 125 = .ok (.ifCond .ge 14, 3) := by decide +kernel
theorem d_X1_outer_128 : decode b_X1_outer 128 = .ok (.aload_n 0, 1) := by decide +kernel
theorem d_X1_outer_129 : decode b_X1_outer 129 = .ok (.getfield 26, 3) := by decide +kernel
theorem d_X1_outer_132 : decode b_X1_outer 132 = .ok (.iload_n 1, 1) := by decide +kernel
theorem d_X1_outer_133 : decode b_X1_outer 133 = .ok (.invokevirtual 173, 3) := by decide +kernel
theorem d_X1_outer_139 : decode b_X1_outer 139 = .ok (.iload 4, 2) := by decide +kernel
theorem d_X1_outer_141 : decode b_X1_outer 141 = .ok (.putfield 145, 3) := by decide +kernel
theorem d_X1_outer_144 : decode b_X1_outer 144 = .ok (.aload_n 0, 1) := by decide +kernel
theorem d_X1_outer_145 : decode b_X1_outer 145 = .ok (.getfield 34, 3) := by decide +kernel
theorem d_X1_outer_148 : decode b_X1_outer 148 = .ok (.getfield 176, 3) := by decide +kernel
theorem d_X1_outer_151 : decode b_X1_outer 151 = .ok (.aload_n 0, 1) := by decide +kernel
theorem d_X1_outer_152 : decode b_X1_outer 152 = .ok (.getfield 145, 3) := by decide +kernel
theorem d_X1_outer_155 : decode b_X1_outer 155 = .ok (.aload_n 0, 1) := by decide +kernel
theorem d_X1_outer_156 : decode b_X1_outer 156 = .ok (.getfield 95, 3) := by decide +kernel
theorem d_X1_outer_159 : decode b_X1_outer 159 = .ok (.invokestatic 181, 3) := by decide +kernel
theorem d_X1_outer_162 : decode b_X1_outer 162 = .ok (.iload 4, 2) := by decide +kernel
theorem d_X1_outer_164 : decode b_X1_outer 164 = .ok (.ifCond .lt 10, 3) := by decide +kernel
theorem d_X1_outer_167 : decode b_X1_outer 167 = .ok (.aload_n 0, 1) := by decide +kernel
theorem d_X1_outer_168 : decode b_X1_outer 168 = .ok (.getfield 98, 3) := by decide +kernel
theorem d_X1_outer_171 : decode b_X1_outer 171 = .ok (.ifCond .le 21, 3) := by decide +kernel
theorem d_X1_outer_174 : decode b_X1_outer 174 = .ok (.aload_n 0, 1) := by decide +kernel
theorem d_X1_outer_175 : decode b_X1_outer 175 = .ok (.getfield 34, 3) := by decide +kernel
theorem d_X1_outer_178 : decode b_X1_outer 178 = .ok (.getfield 185, 3) := by decide +kernel
theorem d_X1_outer_181 : decode b_X1_outer 181 = .ok (.aload_n 0, 1) := by decide +kernel
theorem d_X1_outer_182 : decode b_X1_outer 182 = .ok (.getfield 145, 3) := by decide +kernel
theorem d_X1_outer_185 : decode b_X1_outer 185 = .ok (.aload_n 0, 1) := by decide +kernel
theorem d_X1_outer_186 : decode b_X1_outer 186 = .ok (.getfield 98, 3) := by decide +kernel
theorem d_X1_outer_189 : decode b_X1_outer 189 = .ok (.invokestatic 181, 3) := by decide +kernel
theorem d_X1_outer_192 : decode b_X1_outer 192 = .ok (.iload_n 2, 1) := by decide +kernel
theorem d_X1_outer_193 : decode b_X1_outer 193 = .ok (.iconst 1, 1) := by decide +kernel
theorem d_X1_outer_194 : decode b_X1_outer 194 = .ok (.if_icmp .ne 15, 3) := by decide +kernel
theorem d_X1_outer_197 : decode b_X1_outer 197 = .ok (.aload_n 0, 1) := by decide +kernel
theorem d_X1_outer_198 : decode b_X1_outer 198 = .ok (.getfield 34, 3) := by decide +kernel
theorem d_X1_outer_201 : decode b_X1_outer 201 = .ok (.aload_n 0, 1) := by decide +kernel
theorem d_X1_outer_202 : decode b_X1_outer 202 = .ok (.getfield 145, 3) := by decide +kernel
theorem d_X1_outer_205 : decode b_X1_outer 205 = .ok (.iconst 2, 1) := by decide +kernel
theorem d_X1_outer_206 : decode b_X1_outer 206 = .ok (.invokevirtual 188, 3) := by decide +kernel
theorem d_X1_outer_209 : decode b_X1_outer 209 = .ok (.aload_n 0, 1) := by decide +kernel
theorem d_X1_outer_210 : decode b_X1_outer 210 = .ok (.getfield 113, 3) := by decide +kernel
theorem d_X1_outer_213 : decode b_X1_outer 213 = .ok (.ifCond .ne 36, 3) := by decide +kernel
theorem d_X1_outer_216 : decode b_X1_outer 216 = .ok (.aload_n 0, 1) := by decide +kernel
theorem d_X1_outer_217 : decode b_X1_outer 217 = .ok (.getfield 34, 3) := by decide +kernel
theorem d_X1_outer_220 : decode b_X1_outer 220 = .ok (.aload_n 0, 1) := by decide +kernel
theorem d_X1_outer_221 : decode b_X1_outer 221 = .ok (.getfield 145, 3) := by decide +kernel
theorem d_X1_outer_224 : decode b_X1_outer 224 = .ok (.iconst 4, 1) := by decide +kernel
theorem d_X1_outer_225 : decode b_X1_outer 225 = .ok (.invokevirtual 188, 3) := by decide +kernel
theorem d_X1_outer_228 : decode b_X1_outer 228 = .ok (.aload_n 0, 1) := by decide +kernel
theorem d_X1_outer_229 : decode b_X1_outer 229 = .ok (.getfield 34, 3) := by decide +kernel
theorem d_X1_outer_232 : decode b_X1_outer 232 = .ok (.getfield 191, 3) := by decide +kernel
theorem d_X1_outer_235 : decode b_X1_outer 235 = .ok (.aload_n 0, 1) := by decide +kernel
theorem d_X1_outer_236 : decode b_X1_outer 236 = .ok (.getfield 145, 3) := by decide +kernel
theorem d_X1_outer_239 : decode b_X1_outer 239 = .ok (.aload_n 0, 1) := by decide +kernel
theorem d_X1_outer_240 : decode b_X1_outer 240 = .ok (.getfield 26, 3) := by decide +kernel
theorem d_X1_outer_243 : decode b_X1_outer 243 = .ok (.getfield 170, 3) := by decide +kernel
theorem d_X1_outer_246 : decode b_X1_outer 246 = .ok (.invokestatic 181, 3) := by decide +kernel
theorem d_X1_outer_249 : decode b_X1_outer 249 = .ok (.aload_n 0, 1) := by decide +kernel
theorem d_X1_outer_250 : decode b_X1_outer 250 = .ok (.aload_n 0, 1) := by decide +kernel
theorem d_X1_outer_251 : decode b_X1_outer 251 = .ok (.getfield 26, 3) := by decide +kernel
theorem d_X1_outer_254 : decode b_X1_outer 254 = .ok (.getfield 170, 3) := by decide +kernel
theorem d_X1_outer_257 : decode b_X1_outer 257 = .ok (.putfield 194, 3) := by decide +kernel
theorem d_X1_outer_260 : decode b_X1_outer 260 = .ok (.aload_n 0, 1) := by decide +kernel
theorem d_X1_outer_261 : decode b_X1_outer 261 = .ok (.getfield 26, 3) := by decide +kernel
theorem d_X1_outer_264 : decode b_X1_outer 264 = .ok (.dup, 1) := by decide +kernel
theorem d_X1_outer_265 : decode b_X1_outer 265 = .ok (.getfield 170, 3) := by decide +kernel
theorem d_X1_outer_268 : decode b_X1_outer 268 = .ok (.iload 5, 2) := by decide +kernel
theorem d_X1_outer_270 : decode b_X1_outer 270 = .ok (.iadd, 1) := by decide +kernel
theorem d_X1_outer_271 : decode b_X1_outer 271 = .ok (.putfield 170, 3) := by decide +kernel
theorem d_X1_outer_274 : decode b_X1_outer 274 = .ok (.return_, 1) := by decide +kernel
theorem d_X1_joins_0 : decode b_X1_joins 0 = .ok (.aload_n 0, 1) := by decide +kernel
theorem d_X1_joins_1 : decode b_X1_joins 1 = .ok (.getfield 34, 3) := by decide +kernel
theorem d_X1_joins_4 : decode b_X1_joins 4 = .ok (.getfield 185, 3) := by decide +kernel
theorem d_X1_joins_7 : decode b_X1_joins 7 = .ok (.iload_n 1, 1) := by decide +kernel
theorem d_X1_joins_8 : decode b_X1_joins 8 = .ok (.invokestatic 58, 3) := by decide +kernel
theorem d_X1_joins_11 : decode b_X1_joins 11 = .ok (.istore_n 3, 1) := by decide +kernel
theorem d_X1_joins_12 : decode b_X1_joins 12 = .ok (.aload_n 0, 1) := by decide +kernel
theorem d_X1_joins_13 : decode b_X1_joins 13 = .ok (.getfield 34, 3) := by decide +kernel
theorem d_X1_joins_16 : decode b_X1_joins 16 = .ok (.iload_n 1, 1) := by decide +kernel
theorem d_X1_joins_17 : decode b_X1_joins 17 = .ok (.iconst 1, 1) := by decide +kernel
theorem d_X1_joins_18 : decode b_X1_joins 18 = .ok (.invokevirtual 200, 3) := by decide +kernel
theorem d_X1_joins_21 : decode b_X1_joins 21 = .ok (.ifCond .ne 51, 3) := by decide +kernel
theorem d_X1_joins_24 : decode b_X1_joins 24 = .ok (.aload_n 0, 1) := by decide +kernel
theorem d_X1_joins_25 : decode b_X1_joins 25 = .ok (.getfield 34, 3) := by decide +kernel
theorem d_X1_joins_28 : decode b_X1_joins 28 = .ok (.getfield 176, 3) := by decide +kernel
theorem d_X1_joins_31 : decode b_X1_joins 31 = .ok (.iload_n 1, 1) := by decide +kernel
theorem d_X1_joins_32 : decode b_X1_joins 32 = .ok (.invokestatic 58, 3) := by decide +kernel
theorem d_X1_joins_35 : decode b_X1_joins 35 = .ok (.aload_n 0, 1) := by decide +kernel
theorem d_X1_joins_36 : decode b_X1_joins 36 = .ok (.getfield 95, 3) := by decide +kernel
theorem d_X1_joins_39 : decode b_X1_joins 39 = .ok (.if_icmp .ne 33, 3) := by decide +kernel
theorem d_X1_joins_42 : decode b_X1_joins 42 = .ok (.iload_n 3, 1) := by decide +kernel
theorem d_X1_joins_43 : decode b_X1_joins 43 = .ok (.iconst (-1), 1) := by decide +kernel
theorem d_X1_joins_44 : decode b_X1_joins 44 = .ok (.if_icmp .ne 7, 3) := by decide +kernel
theorem d_X1_joins_47 : decode b_X1_joins 47 = .ok (.iconst 1, 1) := by decide +kernel
theorem d_X1_joins_48 : decode b_X1_joins 48 = .ok (.goto 4, 3) := by decide +kernel
theorem d_X1_joins_51 : decode b_X1_joins 51 = .ok (.iconst 0, 1) := by decide +kernel
theorem d_X1_joins_52 : decode b_X1_joins 52 = .ok (.aload_n 0, 1) := by decide +kernel
theorem d_X1_joins_53 : decode b_X1_joins 53 = .ok (.getfield 98, 3) := by decide +kernel
theorem d_X1_joins_56 : decode b_X1_joins 56 = .ok (.iconst (-1), 1) := by decide +kernel
theorem d_X1_joins_57 : decode b_X1_joins 57 = .ok (.if_icmp .ne 7, 3) := by decide +kernel
theorem d_X1_joins_60 : decode b_X1_joins 60 = .ok (.iconst 1, 1) := by decide +kernel
theorem d_X1_joins_61 : decode b_X1_joins 61 = .ok (.goto 4, 3) := by decide +kernel
theorem d_X1_joins_64 : decode b_X1_joins 64 = .ok (.iconst 0, 1) := by decide +kernel
theorem d_X1_joins_65 : decode b_X1_joins 65 = .ok (.if_icmp .ne 7, 3) := by decide +kernel
theorem d_X1_joins_68 : decode b_X1_joins 68 = .ok (.iconst 1, 1) := by decide +kernel
theorem d_X1_joins_69 : decode b_X1_joins 69 = .ok (.goto 4, 3) := by decide +kernel
theorem d_X1_joins_72 : decode b_X1_joins 72 = .ok (.iconst 0, 1) := by decide +kernel
theorem d_X1_joins_73 : decode b_X1_joins 73 = .ok (.istore 4, 2) := by decide +kernel
theorem d_X1_joins_75 : decode b_X1_joins 75 = .ok (.iload_n 3, 1) := by decide +kernel
theorem d_X1_joins_76 : decode b_X1_joins 76 = .ok (.ifCond .le 18, 3) := by decide +kernel
theorem d_X1_joins_79 : decode b_X1_joins 79 = .ok (.aload_n 0, 1) := by decide +kernel
theorem d_X1_joins_80 : decode b_X1_joins 80 = .ok (.getfield 98, 3) := by decide +kernel
theorem d_X1_joins_83 : decode b_X1_joins 83 = .ok (.ifCond .le 11, 3) := by decide +kernel
theorem d_X1_joins_86 : decode b_X1_joins 86 = .ok (.iload_n 3, 1) := by decide +kernel
theorem d_X1_joins_87 : decode b_X1_joins 87 = .ok (.aload_n 0, 1) := by decide +kernel
theorem d_X1_joins_88 : decode b_X1_joins 88 = .ok (.getfield 98, 3) := by decide +kernel
theorem d_X1_joins_91 : decode b_X1_joins 91 = .ok (.if_icmp .ne 7, 3) := by decide +kernel
theorem d_X1_joins_94 : decode b_X1_joins 94 = .ok (.iconst 1, 1) := by decide +kernel
theorem d_X1_joins_95 : decode b_X1_joins 95 = .ok (.goto 4, 3) := by decide +kernel
theorem d_X1_joins_98 : decode b_X1_joins 98 = .ok (.iconst 0, 1) := by decide +kernel
theorem d_X1_joins_99 : decode b_X1_joins 99 = .ok (.istore 5, 2) := by decide +kernel
theorem d_X1_joins_101 : decode b_X1_joins 101 = .ok (.iload_n 2, 1) := by decide +kernel
theorem d_X1_joins_102 : decode b_X1_joins 102 = .ok (.iconst 1, 1) := by decide +kernel
theorem d_X1_joins_103 : decode b_X1_joins 103 = .ok (.if_icmp .eq 19, 3) := by decide +kernel
theorem d_X1_joins_106 : decode b_X1_joins 106 = .ok (.aload_n 0, 1) := by decide +kernel
theorem d_X1_joins_107 : decode b_X1_joins 107 = .ok (.getfield 34, 3) := by decide +kernel
theorem d_X1_joins_110 : decode b_X1_joins 110 = .ok (.iload_n 1, 1) := by decide +kernel
theorem d_X1_joins_111 : decode b_X1_joins 111 = .ok (.iconst 2, 1) := by decide +kernel
theorem d_X1_joins_112 : decode b_X1_joins 112 = .ok (.invokevirtual 200, 3) := by decide +kernel
theorem d_X1_joins_115 : decode b_X1_joins 115 = .ok (.ifCond .ne 7, 3) := by decide +kernel
theorem d_X1_joins_118 : decode b_X1_joins 118 = .ok (.iconst 1, 1) := by decide +kernel
theorem d_X1_joins_119 : decode b_X1_joins 119 = .ok (.goto 4, 3) := by decide +kernel
theorem d_X1_joins_122 : decode b_X1_joins 122 = .ok (.iconst 0, 1) := by decide +kernel
theorem d_X1_joins_123 : decode b_X1_joins 123 = .ok (.istore 6, 2) := by decide +kernel
theorem d_X1_joins_125 : decode b_X1_joins 125 = .ok (.iload 4, 2) := by decide +kernel
theorem d_X1_joins_127 : decode b_X1_joins 127 = .ok (.ifCond .eq 36, 3) := by decide +kernel
theorem d_X1_joins_130 : decode b_X1_joins 130 = .ok (.iload 5, 2) := by decide +kernel
theorem d_X1_joins_132 : decode b_X1_joins 132 = .ok (.ifCond .eq 31, 3) := by decide +kernel
theorem d_X1_joins_135 : decode b_X1_joins 135 = .ok (.iload 6, 2) := by decide +kernel
theorem d_X1_joins_137 : decode b_X1_joins 137 = .ok (.ifCond .eq 26, 3) := by decide +kernel
theorem d_X1_joins_140 : decode b_X1_joins 140 = .ok (.aload_n 0, 1) := by decide +kernel
theorem d_X1_joins_141 : decode b_X1_joins 141 = .ok (.getfield 113, 3) := by decide +kernel
theorem d_X1_joins_144 : decode b_X1_joins 144 = .ok (.ifCond .ne 15, 3) := by decide +kernel
theorem d_X1_joins_147 : decode b_X1_joins 147 = .ok (.aload_n 0, 1) := by decide +kernel
theorem d_X1_joins_148 : decode b_X1_joins 148 = .ok (.getfield 34, 3) := by decide +kernel
theorem d_X1_joins_151 : decode b_X1_joins 151 = .ok (.iload_n 1, 1) := by decide +kernel
theorem d_X1_joins_152 : decode b_X1_joins 152 = .ok (.iconst 4, 1) := by decide +kernel
theorem d_X1_joins_153 : decode b_X1_joins 153 = .ok (.invokevirtual 200, 3) := by decide +kernel
theorem d_X1_joins_156 : decode b_X1_joins 156 = .ok (.ifCond .ne 7, 3) := by decide +kernel
theorem d_X1_joins_159 : decode b_X1_joins 159 = .ok (.iconst 1, 1) := by decide +kernel
theorem d_X1_joins_160 : decode b_X1_joins 160 = .ok (.goto 4, 3) := by decide +kernel
theorem d_X1_joins_163 : decode b_X1_joins 163 = .ok (.iconst 0, 1) := by decide +kernel
theorem d_X1_joins_164 : decode b_X1_joins 164 = .ok (.ireturn, 1) := by decide +kernel
theorem d_X1_checkOuter_0 : decode b_X1_checkOuter 0 = .ok (.iload_n 3, 1) := by decide +kernel
theorem d_X1_checkOuter_1 : decode b_X1_checkOuter 1 = .ok (.ifCond .ne 12, 3) := by decide +kernel
theorem d_X1_checkOuter_4 : decode b_X1_checkOuter 4 = .ok (.aload_n 0, 1) := by decide +kernel
theorem d_X1_checkOuter_5 : decode b_X1_checkOuter 5 = .ok (.getfield 26, 3) := by decide +kernel
theorem d_X1_checkOuter_8 : decode b_X1_checkOuter 8 = .ok (.iconst 2, 1) := by decide +kernel
theorem d_X1_checkOuter_9 : decode b_X1_checkOuter 9 = .ok (.iload_n 1, 1) := by decide +kernel
theorem d_X1_checkOuter_10 : decode b_X1_checkOuter 10 = .ok (.invokevirtual 124, 3) := by decide +kernel
theorem d_X1_checkOuter_13 : decode b_X1_checkOuter 13 = .ok (.iload_n 2, 1) := by decide +kernel
theorem d_X1_checkOuter_14 : decode b_X1_checkOuter 14 = .ok (.ifCond .ge 24, 3) := by decide +kernel
theorem d_X1_checkOuter_17 : decode b_X1_checkOuter 17 = .ok (.aload_n 0, 1) := by decide +kernel
theorem d_X1_checkOuter_18 : decode b_X1_checkOuter 18 = .ok (.getfield 26, 3) := by decide +kernel
theorem d_X1_checkOuter_21 : decode b_X1_checkOuter 21 = .ok (.getfield 197, 3) := by decide +kernel
theorem d_X1_checkOuter_24 : decode b_X1_checkOuter 24 = .ok (.bipush 100, 2) := by decide +kernel
theorem d_X1_checkOuter_26 : decode b_X1_checkOuter 26 = .ok (.if_icmp .lt 12, 3) := by decide +kernel
theorem d_X1_checkOuter_29 : decode b_X1_checkOuter 29 = .ok (.aload_n 0, 1) := by decide +kernel
theorem d_X1_checkOuter_30 : decode b_X1_checkOuter 30 = .ok (.getfield 26, 3) := by decide +kernel
theorem d_X1_checkOuter_33 : decode b_X1_checkOuter 33 = .ok (.iconst 4, 1) := by decide +kernel
theorem d_X1_checkOuter_34 : decode b_X1_checkOuter 34 = .ok (.iload_n 1, 1) := by decide +kernel
theorem d_X1_checkOuter_35 : decode b_X1_checkOuter 35 = .ok (.invokevirtual 124, 3) := by decide +kernel
theorem d_X1_checkOuter_38 : decode b_X1_checkOuter 38 = .ok (.return_, 1) := by decide +kernel
theorem d_X11_declareOuter_0 : decode b_X11_declareOuter 0 = .ok (.aload_n 0, 1) := by decide +kernel
theorem d_X11_declareOuter_1 : decode b_X11_declareOuter 1 = .ok (.getfield 9, 3) := by decide +kernel
theorem d_X11_declareOuter_4 : decode b_X11_declareOuter 4 = .ok (.aload_n 0, 1) := by decide +kernel
theorem d_X11_declareOuter_5 : decode b_X11_declareOuter 5 = .ok (.getfield 57, 3) := by decide +kernel
theorem d_X11_declareOuter_8 : decode b_X11_declareOuter 8 = .ok (.iload_n 1, 1) := by decide +kernel
theorem d_X11_declareOuter_9 : decode b_X11_declareOuter 9 = .ok (.invokestatic 78, 3) := by decide +kernel
theorem d_X11_declareOuter_12 : decode b_X11_declareOuter 12 = .ok (.aload_n 0, 1) := by decide +kernel
theorem d_X11_declareOuter_13 : decode b_X11_declareOuter 13 = .ok (.getfield 15, 3) := by decide +kernel
theorem d_X11_declareOuter_16 : decode b_X11_declareOuter 16 = .ok (.aload_n 0, 1) := by decide +kernel
theorem d_X11_declareOuter_17 : decode b_X11_declareOuter 17 = .ok (.getfield 57, 3) := by decide +kernel
theorem d_X11_declareOuter_20 : decode b_X11_declareOuter 20 = .ok (.iconst (-1), 1) := by decide +kernel
theorem d_X11_declareOuter_21 : decode b_X11_declareOuter 21 = .ok (.invokestatic 78, 3) := by decide +kernel
theorem d_X11_declareOuter_24 : decode b_X11_declareOuter 24 = .ok (.aload_n 0, 1) := by decide +kernel
theorem d_X11_declareOuter_25 : decode b_X11_declareOuter 25 = .ok (.dup, 1) := by decide +kernel
theorem d_X11_declareOuter_26 : decode b_X11_declareOuter 26 = .ok (.getfield 57, 3) := by decide +kernel
theorem d_X11_declareOuter_29 : decode b_X11_declareOuter 29 = .ok (.iconst 1, 1) := by decide +kernel
theorem d_X11_declareOuter_30 : decode b_X11_declareOuter 30 = .ok (.iadd, 1) := by decide +kernel
theorem d_X11_declareOuter_31 : decode b_X11_declareOuter 31 = .ok (.putfield 57, 3) := by decide +kernel
theorem d_X11_declareOuter_34 : decode b_X11_declareOuter 34 = .ok (.aload_n 0, 1) := by decide +kernel
theorem d_X11_declareOuter_35 : decode b_X11_declareOuter 35 = .ok (.getfield 40, 3) := by decide +kernel
theorem d_X11_declareOuter_38 : decode b_X11_declareOuter 38 = .ok (.aload_n 0, 1) := by decide +kernel
theorem d_X11_declareOuter_39 : decode b_X11_declareOuter 39 = .ok (.getfield 36, 3) := by decide +kernel
theorem d_X11_declareOuter_42 : decode b_X11_declareOuter 42 = .ok (.getfield 97, 3) := by decide +kernel
theorem d_X11_declareOuter_45 : decode b_X11_declareOuter 45 = .ok (.aload_n 0, 1) := by decide +kernel
theorem d_X11_declareOuter_46 : decode b_X11_declareOuter 46 = .ok (.getfield 36, 3) := by decide +kernel
theorem d_X11_declareOuter_49 : decode b_X11_declareOuter 49 = .ok (.getfield 101, 3) := by decide +kernel
theorem d_X11_declareOuter_52 : decode b_X11_declareOuter 52 = .ok (.iload_n 1, 1) := by decide +kernel
theorem d_X11_declareOuter_53 : decode b_X11_declareOuter 53 = .ok (.invokestatic 82, 3) := by decide +kernel
theorem d_X11_declareOuter_56 : decode b_X11_declareOuter 56 = .ok (.aload_n 0, 1) := by decide +kernel
theorem d_X11_declareOuter_57 : decode b_X11_declareOuter 57 = .ok (.getfield 36, 3) := by decide +kernel
theorem d_X11_declareOuter_60 : decode b_X11_declareOuter 60 = .ok (.getfield 104, 3) := by decide +kernel
theorem d_X11_declareOuter_63 : decode b_X11_declareOuter 63 = .ok (.iload_n 1, 1) := by decide +kernel
theorem d_X11_declareOuter_64 : decode b_X11_declareOuter 64 = .ok (.invokestatic 82, 3) := by decide +kernel
theorem d_X11_declareOuter_67 : decode b_X11_declareOuter 67 = .ok (.invokevirtual 107, 3) := by decide +kernel
theorem d_X1_fill_28 : decode b_X1_fill 28 = .ok (.iload_n 3, 1) := by decide +kernel
theorem d_X1_fill_29 : decode b_X1_fill 29 = .ok (.iload_n 2, 1) := by decide +kernel
theorem d_X1_fill_30 : decode b_X1_fill 30 = .ok (.if_icmp .ge 78, 3) := by decide +kernel
theorem d_X1_fill_33 : decode b_X1_fill 33 = .ok (.aload_n 0, 1) := by decide +kernel
theorem d_X1_fill_34 : decode b_X1_fill 34 = .ok (.getfield 104, 3) := by decide +kernel
theorem d_X1_fill_37 : decode b_X1_fill 37 = .ok (.ifCond .ne 71, 3) := by decide +kernel
theorem d_X1_fill_40 : decode b_X1_fill 40 = .ok (.aload_n 0, 1) := by decide +kernel
theorem d_X1_fill_41 : decode b_X1_fill 41 = .ok (.getfield 110, 3) := by decide +kernel
theorem d_X1_fill_44 : decode b_X1_fill 44 = .ok (.ifCond .eq 32, 3) := by decide +kernel
theorem d_X1_fill_76 : decode b_X1_fill 76 = .ok (.aload_n 0, 1) := by decide +kernel
theorem d_X1_fill_77 : decode b_X1_fill 77 = .ok (.getfield 34, 3) := by decide +kernel
theorem d_X1_fill_80 : decode b_X1_fill 80 = .ok (.aload_n 0, 1) := by decide +kernel
theorem d_X1_fill_81 : decode b_X1_fill 81 = .ok (.getfield 194, 3) := by decide +kernel
theorem d_X1_fill_84 : decode b_X1_fill 84 = .ok (.iload_n 3, 1) := by decide +kernel
theorem d_X1_fill_85 : decode b_X1_fill 85 = .ok (.iadd, 1) := by decide +kernel
theorem d_X1_fill_86 : decode b_X1_fill 86 = .ok (.bipush (-2), 2) := by decide +kernel
theorem d_X1_fill_88 : decode b_X1_fill 88 = .ok (.aload_n 0, 1) := by decide +kernel
theorem d_X1_fill_89 : decode b_X1_fill 89 = .ok (.getfield 25, 3) := by decide +kernel
theorem d_X1_fill_92 : decode b_X1_fill 92 = .ok (.getfield 248, 3) := by decide +kernel
theorem d_X1_fill_95 : decode b_X1_fill 95 = .ok (.iload_n 3, 1) := by decide +kernel
theorem d_X1_fill_96 : decode b_X1_fill 96 = .ok (.invokestatic 58, 3) := by decide +kernel
theorem d_X1_fill_99 : decode b_X1_fill 99 = .ok (.invokevirtual 240, 3) := by decide +kernel
theorem d_X1_fill_108 : decode b_X1_fill 108 = .ok (.return_, 1) := by decide +kernel
theorem d_X1_function_0 : decode b_X1_function 0 = .ok (.iload_n 3, 1) := by decide +kernel
theorem d_X1_function_1 : decode b_X1_function 1 = .ok (.bipush 8, 2) := by decide +kernel
theorem d_X1_function_3 : decode b_X1_function 3 = .ok (.idiv, 1) := by decide +kernel
theorem d_X1_function_4 : decode b_X1_function 4 = .ok (.iconst 1, 1) := by decide +kernel
theorem d_X1_function_5 : decode b_X1_function 5 = .ok (.isub, 1) := by decide +kernel
theorem d_X1_function_6 : decode b_X1_function 6 = .ok (.istore 4, 2) := by decide +kernel
theorem d_X1_function_8 : decode b_X1_function 8 = .ok (.iload_n 3, 1) := by decide +kernel
theorem d_X1_function_9 : decode b_X1_function 9 = .ok (.iconst 3, 1) := by decide +kernel
theorem d_X1_function_10 : decode b_X1_function 10 = .ok (.iand, 1) := by decide +kernel
theorem d_X1_function_11 : decode b_X1_function 11 = .ok (.iconst 1, 1) := by decide +kernel
theorem d_X1_function_12 : decode b_X1_function 12 = .ok (.if_icmp .ne 7, 3) := by decide +kernel
theorem d_X1_function_19 : decode b_X1_function 19 = .ok (.iconst 0, 1) := by decide +kernel
theorem d_X1_function_20 : decode b_X1_function 20 = .ok (.istore 5, 2) := by decide +kernel
theorem d_X1_function_22 : decode b_X1_function 22 = .ok (.iload_n 3, 1) := by decide +kernel
theorem d_X1_function_23 : decode b_X1_function 23 = .ok (.iconst 4, 1) := by decide +kernel
theorem d_X1_function_24 : decode b_X1_function 24 = .ok (.iand, 1) := by decide +kernel
theorem d_X1_function_25 : decode b_X1_function 25 = .ok (.ifCond .eq 7, 3) := by decide +kernel
theorem d_X1_function_32 : decode b_X1_function 32 = .ok (.iconst 0, 1) := by decide +kernel
theorem d_X1_function_33 : decode b_X1_function 33 = .ok (.istore 6, 2) := by decide +kernel
theorem d_X1_function_35 : decode b_X1_function 35 = .ok (.aload_n 0, 1) := by decide +kernel
theorem d_X1_function_36 : decode b_X1_function 36 = .ok (.getfield 26, 3) := by decide +kernel
theorem d_X1_function_39 : decode b_X1_function 39 = .ok (.iload_n 1, 1) := by decide +kernel
theorem d_X1_function_40 : decode b_X1_function 40 = .ok (.invokevirtual 159, 3) := by decide +kernel
theorem d_X1_function_43 : decode b_X1_function 43 = .ok (.istore 7, 2) := by decide +kernel
theorem d_X1_function_45 : decode b_X1_function 45 = .ok (.iload 7, 2) := by decide +kernel
theorem d_X1_function_47 : decode b_X1_function 47 = .ok (.ifCond .lt 82, 3) := by decide +kernel
theorem d_X1_function_129 : decode b_X1_function 129 = .ok (.iconst 1, 1) := by decide +kernel
theorem d_X1_function_130 : decode b_X1_function 130 = .ok (.goto 4, 3) := by decide +kernel
theorem d_X1_function_134 : decode b_X1_function 134 = .ok (.istore 8, 2) := by decide +kernel
theorem d_X1_function_136 : decode b_X1_function 136 = .ok (.aload_n 0, 1) := by decide +kernel
theorem d_X1_function_137 : decode b_X1_function 137 = .ok (.iload_n 1, 1) := by decide +kernel
theorem d_X1_function_138 : decode b_X1_function 138 = .ok (.iload 7, 2) := by decide +kernel
theorem d_X1_function_140 : decode b_X1_function 140 = .ok (.iload 8, 2) := by decide +kernel
theorem d_X1_function_142 : decode b_X1_function 142 = .ok (.invokevirtual 167, 3) := by decide +kernel
theorem d_X1_function_145 : decode b_X1_function 145 = .ok (.aload_n 0, 1) := by decide +kernel
theorem d_X1_function_146 : decode b_X1_function 146 = .ok (.getfield 26, 3) := by decide +kernel
theorem d_X1_function_149 : decode b_X1_function 149 = .ok (.getfield 142, 3) := by decide +kernel
theorem d_X1_function_152 : decode b_X1_function 152 = .ok (.ifCond .eq 4, 3) := by decide +kernel
theorem d_X1_function_156 : decode b_X1_function 156 = .ok (.iload 7, 2) := by decide +kernel
theorem d_X1_function_158 : decode b_X1_function 158 = .ok (.ifCond .ge 14, 3) := by decide +kernel
theorem d_X1_function_161 : decode b_X1_function 161 = .ok (.aload_n 0, 1) := by decide +kernel
theorem d_X1_function_162 : decode b_X1_function 162 = .ok (.getfield 26, 3) := by decide +kernel
theorem d_X1_function_165 : decode b_X1_function 165 = .ok (.iload_n 1, 1) := by decide +kernel
theorem d_X1_function_166 : decode b_X1_function 166 = .ok (.invokevirtual 173, 3) := by decide +kernel
theorem d_X1_function_172 : decode b_X1_function 172 = .ok (.iload 7, 2) := by decide +kernel
theorem d_X1_function_174 : decode b_X1_function 174 = .ok (.istore 9, 2) := by decide +kernel
theorem d_X1_function_176 : decode b_X1_function 176 = .ok (.aload_n 0, 1) := by decide +kernel
theorem d_X1_function_177 : decode b_X1_function 177 = .ok (.getfield 34, 3) := by decide +kernel
theorem d_X1_function_180 : decode b_X1_function 180 = .ok (.iload 9, 2) := by decide +kernel
theorem d_X1_function_182 : decode b_X1_function 182 = .ok (.iload 5, 2) := by decide +kernel
theorem d_X1_function_184 : decode b_X1_function 184 = .ok (.ifCond .eq 7, 3) := by decide +kernel
theorem d_X1_function_191 : decode b_X1_function 191 = .ok (.iconst 1, 1) := by decide +kernel
theorem d_X1_function_192 : decode b_X1_function 192 = .ok (.invokevirtual 188, 3) := by decide +kernel
theorem d_X1_function_195 : decode b_X1_function 195 = .ok (.aload_n 0, 1) := by decide +kernel
theorem d_X1_function_196 : decode b_X1_function 196 = .ok (.getfield 34, 3) := by decide +kernel
theorem d_X1_function_199 : decode b_X1_function 199 = .ok (.getfield 176, 3) := by decide +kernel
theorem d_X1_function_202 : decode b_X1_function 202 = .ok (.iload 9, 2) := by decide +kernel
theorem d_X1_function_204 : decode b_X1_function 204 = .ok (.iload 4, 2) := by decide +kernel
theorem d_X1_function_206 : decode b_X1_function 206 = .ok (.invokestatic 181, 3) := by decide +kernel
theorem d_X1_function_209 : decode b_X1_function 209 = .ok (.aload_n 0, 1) := by decide +kernel
theorem d_X1_function_210 : decode b_X1_function 210 = .ok (.getfield 34, 3) := by decide +kernel
theorem d_X1_function_213 : decode b_X1_function 213 = .ok (.getfield 185, 3) := by decide +kernel
theorem d_X1_function_216 : decode b_X1_function 216 = .ok (.iload 9, 2) := by decide +kernel
theorem d_X1_function_218 : decode b_X1_function 218 = .ok (.iload_n 2, 1) := by decide +kernel
theorem d_X1_function_219 : decode b_X1_function 219 = .ok (.invokestatic 181, 3) := by decide +kernel
theorem d_X1_function_222 : decode b_X1_function 222 = .ok (.iload 6, 2) := by decide +kernel
theorem d_X1_function_224 : decode b_X1_function 224 = .ok (.ifCond .eq 41, 3) := by decide +kernel
theorem d_X1_function_265 : decode b_X1_function 265 = .ok (.return_, 1) := by decide +kernel
theorem d_X0_header_0 : decode b_X0_header 0 = .ok (.aload_n 0, 1) := by decide +kernel
theorem d_X0_header_1 : decode b_X0_header 1 = .ok (.getfield 18, 3) := by decide +kernel
theorem d_X0_header_4 : decode b_X0_header 4 = .ok (.istore_n 1, 1) := by decide +kernel
theorem d_X0_header_5 : decode b_X0_header 5 = .ok (.aload_n 0, 1) := by decide +kernel
theorem d_X0_header_6 : decode b_X0_header 6 = .ok (.dup, 1) := by decide +kernel
theorem d_X0_header_7 : decode b_X0_header 7 = .ok (.getfield 18, 3) := by decide +kernel
theorem d_X0_header_10 : decode b_X0_header 10 = .ok (.iload_n 1, 1) := by decide +kernel
theorem d_X0_header_11 : decode b_X0_header 11 = .ok (.aload_n 0, 1) := by decide +kernel
theorem d_X0_header_12 : decode b_X0_header 12 = .ok (.getfield 14, 3) := by decide +kernel
theorem d_X0_header_15 : decode b_X0_header 15 = .ok (.arraylength, 1) := by decide +kernel
theorem d_X0_header_16 : decode b_X0_header 16 = .ok (.iconst 4, 1) := by decide +kernel
theorem d_X0_header_17 : decode b_X0_header 17 = .ok (.isub, 1) := by decide +kernel
theorem d_X0_header_18 : decode b_X0_header 18 = .ok (.if_icmp .ge 7, 3) := by decide +kernel
theorem d_X0_header_21 : decode b_X0_header 21 = .ok (.iconst 4, 1) := by decide +kernel
theorem d_X0_header_22 : decode b_X0_header 22 = .ok (.goto 4, 3) := by decide +kernel
theorem d_X0_header_25 : decode b_X0_header 25 = .ok (.iconst 0, 1) := by decide +kernel
theorem d_X0_header_26 : decode b_X0_header 26 = .ok (.iadd, 1) := by decide +kernel
theorem d_X0_header_27 : decode b_X0_header 27 = .ok (.putfield 18, 3) := by decide +kernel
theorem d_X0_header_30 : decode b_X0_header 30 = .ok (.iload_n 1, 1) := by decide +kernel
theorem d_X0_header_31 : decode b_X0_header 31 = .ok (.ireturn, 1) := by decide +kernel
theorem d_X11_enter_0 : decode b_X11_enter 0 = .ok (.aload_n 0, 1) := by decide +kernel
theorem d_X11_enter_1 : decode b_X11_enter 1 = .ok (.invokevirtual 60, 3) := by decide +kernel
theorem d_X11_enter_4 : decode b_X11_enter 4 = .ok (.aload_n 0, 1) := by decide +kernel
theorem d_X11_enter_5 : decode b_X11_enter 5 = .ok (.iload_n 1, 1) := by decide +kernel
theorem d_X11_enter_6 : decode b_X11_enter 6 = .ok (.putfield 63, 3) := by decide +kernel
theorem d_X11_enter_9 : decode b_X11_enter 9 = .ok (.aload_n 0, 1) := by decide +kernel
theorem d_X11_enter_10 : decode b_X11_enter 10 = .ok (.invokevirtual 66, 3) := by decide +kernel
theorem d_X11_enter_13 : decode b_X11_enter 13 = .ok (.return_, 1) := by decide +kernel
theorem d_X1_parameter_0 : decode b_X1_parameter 0 = .ok (.aload_n 0, 1) := by decide +kernel
theorem d_X1_parameter_1 : decode b_X1_parameter 1 = .ok (.getfield 25, 3) := by decide +kernel
theorem d_X1_parameter_4 : decode b_X1_parameter 4 = .ok (.getfield 257, 3) := by decide +kernel
theorem d_X1_parameter_7 : decode b_X1_parameter 7 = .ok (.iload_n 1, 1) := by decide +kernel
theorem d_X1_parameter_8 : decode b_X1_parameter 8 = .ok (.invokestatic 58, 3) := by decide +kernel
theorem d_X1_parameter_11 : decode b_X1_parameter 11 = .ok (.iconst 2, 1) := by decide +kernel
theorem d_X1_parameter_12 : decode b_X1_parameter 12 = .ok (.if_icmp .ne 15, 3) := by decide +kernel
theorem d_X1_parameter_15 : decode b_X1_parameter 15 = .ok (.aload_n 0, 1) := by decide +kernel
theorem d_X1_parameter_16 : decode b_X1_parameter 16 = .ok (.getfield 26, 3) := by decide +kernel
theorem d_X1_parameter_19 : decode b_X1_parameter 19 = .ok (.iconst 0, 1) := by decide +kernel
theorem d_X1_parameter_20 : decode b_X1_parameter 20 = .ok (.iload_n 1, 1) := by decide +kernel
theorem d_X1_parameter_21 : decode b_X1_parameter 21 = .ok (.invokevirtual 131, 3) := by decide +kernel
theorem d_X1_parameter_24 : decode b_X1_parameter 24 = .ok (.ifCond .lt 15, 3) := by decide +kernel
theorem d_X1_parameter_27 : decode b_X1_parameter 27 = .ok (.aload_n 0, 1) := by decide +kernel
theorem d_X1_parameter_28 : decode b_X1_parameter 28 = .ok (.getfield 26, 3) := by decide +kernel
theorem d_X1_parameter_31 : decode b_X1_parameter 31 = .ok (.iconst 2, 1) := by decide +kernel
theorem d_X1_parameter_32 : decode b_X1_parameter 32 = .ok (.iload_n 1, 1) := by decide +kernel
theorem d_X1_parameter_33 : decode b_X1_parameter 33 = .ok (.invokevirtual 124, 3) := by decide +kernel
theorem d_X1_parameter_36 : decode b_X1_parameter 36 = .ok (.goto 13, 3) := by decide +kernel
theorem d_X1_parameter_39 : decode b_X1_parameter 39 = .ok (.aload_n 0, 1) := by decide +kernel
theorem d_X1_parameter_40 : decode b_X1_parameter 40 = .ok (.getfield 26, 3) := by decide +kernel
theorem d_X1_parameter_43 : decode b_X1_parameter 43 = .ok (.iload_n 1, 1) := by decide +kernel
theorem d_X1_parameter_44 : decode b_X1_parameter 44 = .ok (.iload_n 2, 1) := by decide +kernel
theorem d_X1_parameter_45 : decode b_X1_parameter 45 = .ok (.iconst (-1), 1) := by decide +kernel
theorem d_X1_parameter_46 : decode b_X1_parameter 46 = .ok (.invokevirtual 147, 3) := by decide +kernel
theorem d_X1_parameter_49 : decode b_X1_parameter 49 = .ok (.return_, 1) := by decide +kernel
theorem d_X1_functionEnd_72 : decode b_X1_functionEnd 72 = .ok (.iload 5, 2) := by decide +kernel
theorem d_X1_functionEnd_74 : decode b_X1_functionEnd 74 = .ok (.aload_n 0, 1) := by decide +kernel
theorem d_X1_functionEnd_75 : decode b_X1_functionEnd 75 = .ok (.getfield 26, 3) := by decide +kernel
theorem d_X1_functionEnd_78 : decode b_X1_functionEnd 78 = .ok (.getfield 135, 3) := by decide +kernel
theorem d_X1_functionEnd_81 : decode b_X1_functionEnd 81 = .ok (.if_icmp .ge 102, 3) := by decide +kernel
theorem d_X1_functionEnd_183 : decode b_X1_functionEnd 183 = .ok (.aload_n 0, 1) := by decide +kernel
theorem d_X1_functionEnd_184 : decode b_X1_functionEnd 184 = .ok (.getfield 41, 3) := by decide +kernel
theorem d_X1_functionEnd_187 : decode b_X1_functionEnd 187 = .ok (.getfield 274, 3) := by decide +kernel
theorem d_X1_functionEnd_190 : decode b_X1_functionEnd 190 = .ok (.iload_n 1, 1) := by decide +kernel
theorem d_X1_functionEnd_191 : decode b_X1_functionEnd 191 = .ok (.iload_n 3, 1) := by decide +kernel
theorem d_X1_functionEnd_192 : decode b_X1_functionEnd 192 = .ok (.invokestatic 181, 3) := by decide +kernel
theorem d_X1_functionEnd_195 : decode b_X1_functionEnd 195 = .ok (.aload_n 0, 1) := by decide +kernel
theorem d_X1_functionEnd_196 : decode b_X1_functionEnd 196 = .ok (.getfield 41, 3) := by decide +kernel
theorem d_X1_functionEnd_199 : decode b_X1_functionEnd 199 = .ok (.getfield 274, 3) := by decide +kernel
theorem d_X1_functionEnd_202 : decode b_X1_functionEnd 202 = .ok (.iload_n 1, 1) := by decide +kernel
theorem d_X1_functionEnd_203 : decode b_X1_functionEnd 203 = .ok (.iconst 1, 1) := by decide +kernel
theorem d_X1_functionEnd_204 : decode b_X1_functionEnd 204 = .ok (.iadd, 1) := by decide +kernel
theorem d_X1_functionEnd_205 : decode b_X1_functionEnd 205 = .ok (.aload_n 0, 1) := by decide +kernel
theorem d_X1_functionEnd_206 : decode b_X1_functionEnd 206 = .ok (.getfield 26, 3) := by decide +kernel
theorem d_X1_functionEnd_209 : decode b_X1_functionEnd 209 = .ok (.getfield 135, 3) := by decide +kernel
theorem d_X1_functionEnd_212 : decode b_X1_functionEnd 212 = .ok (.invokestatic 181, 3) := by decide +kernel
theorem d_X1_functionEnd_215 : decode b_X1_functionEnd 215 = .ok (.aload_n 0, 1) := by decide +kernel
theorem d_X1_functionEnd_216 : decode b_X1_functionEnd 216 = .ok (.getfield 41, 3) := by decide +kernel
theorem d_X1_functionEnd_219 : decode b_X1_functionEnd 219 = .ok (.getfield 274, 3) := by decide +kernel
theorem d_X1_functionEnd_222 : decode b_X1_functionEnd 222 = .ok (.iload_n 1, 1) := by decide +kernel
theorem d_X1_functionEnd_223 : decode b_X1_functionEnd 223 = .ok (.iconst 2, 1) := by decide +kernel
theorem d_X1_functionEnd_224 : decode b_X1_functionEnd 224 = .ok (.iadd, 1) := by decide +kernel
theorem d_X1_functionEnd_225 : decode b_X1_functionEnd 225 = .ok (.iload_n 2, 1) := by decide +kernel
theorem d_X1_functionEnd_226 : decode b_X1_functionEnd 226 = .ok (.invokestatic 181, 3) := by decide +kernel
theorem d_X1_functionEnd_229 : decode b_X1_functionEnd 229 = .ok (.aload_n 0, 1) := by decide +kernel
theorem d_X1_functionEnd_230 : decode b_X1_functionEnd 230 = .ok (.getfield 41, 3) := by decide +kernel
theorem d_X1_functionEnd_233 : decode b_X1_functionEnd 233 = .ok (.getfield 274, 3) := by decide +kernel
theorem d_X1_functionEnd_236 : decode b_X1_functionEnd 236 = .ok (.iload_n 1, 1) := by decide +kernel
theorem d_X1_functionEnd_237 : decode b_X1_functionEnd 237 = .ok (.iconst 3, 1) := by decide +kernel
theorem d_X1_functionEnd_238 : decode b_X1_functionEnd 238 = .ok (.iadd, 1) := by decide +kernel
theorem d_X1_functionEnd_239 : decode b_X1_functionEnd 239 = .ok (.iload 4, 2) := by decide +kernel
theorem d_X1_functionEnd_241 : decode b_X1_functionEnd 241 = .ok (.invokestatic 181, 3) := by decide +kernel
theorem d_X1_functionEnd_244 : decode b_X1_functionEnd 244 = .ok (.aload_n 0, 1) := by decide +kernel
theorem d_X1_functionEnd_245 : decode b_X1_functionEnd 245 = .ok (.getfield 41, 3) := by decide +kernel
theorem d_X1_functionEnd_248 : decode b_X1_functionEnd 248 = .ok (.iload_n 1, 1) := by decide +kernel
theorem d_X1_functionEnd_249 : decode b_X1_functionEnd 249 = .ok (.iconst 4, 1) := by decide +kernel
theorem d_X1_functionEnd_250 : decode b_X1_functionEnd 250 = .ok (.iadd, 1) := by decide +kernel
theorem d_X1_functionEnd_251 : decode b_X1_functionEnd 251 = .ok (.aload_n 0, 1) := by decide +kernel
theorem d_X1_functionEnd_252 : decode b_X1_functionEnd 252 = .ok (.getfield 9, 3) := by decide +kernel
theorem d_X1_functionEnd_255 : decode b_X1_functionEnd 255 = .ok (.invokevirtual 277, 3) := by decide +kernel
theorem d_X0_thread_58 : decode b_X0_thread 58 = .ok (.iload 6, 2) := by decide +kernel
theorem d_X0_thread_60 : decode b_X0_thread 60 = .ok (.bipush 100, 2) := by decide +kernel
theorem d_X0_thread_62 : decode b_X0_thread 62 = .ok (.if_icmp .ge 36, 3) := by decide +kernel
theorem d_X0_thread_98 : decode b_X0_thread 98 = .ok (.aload_n 0, 1) := by decide +kernel
theorem d_X0_thread_99 : decode b_X0_thread 99 = .ok (.getfield 14, 3) := by decide +kernel
theorem d_X0_thread_102 : decode b_X0_thread 102 = .ok (.iload_n 2, 1) := by decide +kernel
theorem d_X0_thread_103 : decode b_X0_thread 103 = .ok (.iconst 1, 1) := by decide +kernel
theorem d_X0_thread_104 : decode b_X0_thread 104 = .ok (.iadd, 1) := by decide +kernel
theorem d_X0_thread_105 : decode b_X0_thread 105 = .ok (.iload 5, 2) := by decide +kernel
theorem d_X0_thread_107 : decode b_X0_thread 107 = .ok (.invokestatic 35, 3) := by decide +kernel
theorem d_X0_thread_110 : decode b_X0_thread 110 = .ok (.iload_n 2, 1) := by decide +kernel
theorem d_X0_thread_111 : decode b_X0_thread 111 = .ok (.getstatic 22, 3) := by decide +kernel
theorem d_X0_thread_114 : decode b_X0_thread 114 = .ok (.iload 4, 2) := by decide +kernel
theorem d_X0_thread_116 : decode b_X0_thread 116 = .ok (.invokestatic 31, 3) := by decide +kernel
theorem d_X0_thread_119 : decode b_X0_thread 119 = .ok (.iconst 1, 1) := by decide +kernel
theorem d_X0_thread_120 : decode b_X0_thread 120 = .ok (.invokestatic 39, 3) := by decide +kernel
theorem d_X11_finish_0 : decode b_X11_finish 0 = .ok (.iconst (-1), 1) := by decide +kernel
theorem d_X11_finish_1 : decode b_X11_finish 1 = .ok (.istore_n 1, 1) := by decide +kernel
theorem d_X11_finish_2 : decode b_X11_finish 2 = .ok (.iconst 0, 1) := by decide +kernel
theorem d_X11_finish_3 : decode b_X11_finish 3 = .ok (.istore_n 2, 1) := by decide +kernel
theorem d_X11_finish_4 : decode b_X11_finish 4 = .ok (.iload_n 2, 1) := by decide +kernel
theorem d_X11_finish_5 : decode b_X11_finish 5 = .ok (.aload_n 0, 1) := by decide +kernel
theorem d_X11_finish_6 : decode b_X11_finish 6 = .ok (.getfield 57, 3) := by decide +kernel
theorem d_X11_finish_9 : decode b_X11_finish 9 = .ok (.if_icmp .ge 88, 3) := by decide +kernel
theorem d_X11_finish_12 : decode b_X11_finish 12 = .ok (.aload_n 0, 1) := by decide +kernel
theorem d_X11_finish_13 : decode b_X11_finish 13 = .ok (.getfield 40, 3) := by decide +kernel
theorem d_X11_finish_16 : decode b_X11_finish 16 = .ok (.getfield 92, 3) := by decide +kernel
theorem d_X11_finish_19 : decode b_X11_finish 19 = .ok (.aload_n 0, 1) := by decide +kernel
theorem d_X11_finish_20 : decode b_X11_finish 20 = .ok (.getfield 57, 3) := by decide +kernel
theorem d_X11_finish_23 : decode b_X11_finish 23 = .ok (.isub, 1) := by decide +kernel
theorem d_X11_finish_24 : decode b_X11_finish 24 = .ok (.iload_n 2, 1) := by decide +kernel
theorem d_X11_finish_25 : decode b_X11_finish 25 = .ok (.iadd, 1) := by decide +kernel
theorem d_X11_finish_26 : decode b_X11_finish 26 = .ok (.istore_n 3, 1) := by decide +kernel
theorem d_X11_finish_27 : decode b_X11_finish 27 = .ok (.aload_n 0, 1) := by decide +kernel
theorem d_X11_finish_28 : decode b_X11_finish 28 = .ok (.getfield 15, 3) := by decide +kernel
theorem d_X11_finish_31 : decode b_X11_finish 31 = .ok (.iload_n 2, 1) := by decide +kernel
theorem d_X11_finish_32 : decode b_X11_finish 32 = .ok (.invokestatic 82, 3) := by decide +kernel
theorem d_X11_finish_35 : decode b_X11_finish 35 = .ok (.istore 4, 2) := by decide +kernel
theorem d_X11_finish_37 : decode b_X11_finish 37 = .ok (.aload_n 0, 1) := by decide +kernel
theorem d_X11_finish_38 : decode b_X11_finish 38 = .ok (.getfield 40, 3) := by decide +kernel
theorem d_X11_finish_41 : decode b_X11_finish 41 = .ok (.iload_n 3, 1) := by decide +kernel
theorem d_X11_finish_42 : decode b_X11_finish 42 = .ok (.iconst 2, 1) := by decide +kernel
theorem d_X11_finish_43 : decode b_X11_finish 43 = .ok (.invokevirtual 115, 3) := by decide +kernel
theorem d_X11_finish_46 : decode b_X11_finish 46 = .ok (.ifCond .eq 19, 3) := by decide +kernel
theorem d_X11_finish_49 : decode b_X11_finish 49 = .ok (.aload_n 0, 1) := by decide +kernel
theorem d_X11_finish_50 : decode b_X11_finish 50 = .ok (.getfield 40, 3) := by decide +kernel
theorem d_X11_finish_53 : decode b_X11_finish 53 = .ok (.iload_n 3, 1) := by decide +kernel
theorem d_X11_finish_54 : decode b_X11_finish 54 = .ok (.iconst 4, 1) := by decide +kernel
theorem d_X11_finish_55 : decode b_X11_finish 55 = .ok (.invokevirtual 115, 3) := by decide +kernel
theorem d_X11_finish_58 : decode b_X11_finish 58 = .ok (.ifCond .ne 7, 3) := by decide +kernel
theorem d_X11_finish_61 : decode b_X11_finish 61 = .ok (.iconst 1, 1) := by decide +kernel
theorem d_X11_finish_62 : decode b_X11_finish 62 = .ok (.goto 4, 3) := by decide +kernel
theorem d_X11_finish_65 : decode b_X11_finish 65 = .ok (.iconst 0, 1) := by decide +kernel
theorem d_X11_finish_66 : decode b_X11_finish 66 = .ok (.istore 5, 2) := by decide +kernel
theorem d_X11_finish_68 : decode b_X11_finish 68 = .ok (.iload 5, 2) := by decide +kernel
theorem d_X11_finish_70 : decode b_X11_finish 70 = .ok (.ifCond .eq 21, 3) := by decide +kernel
theorem d_X11_finish_73 : decode b_X11_finish 73 = .ok (.iload 4, 2) := by decide +kernel
theorem d_X11_finish_75 : decode b_X11_finish 75 = .ok (.ifCond .lt 16, 3) := by decide +kernel
theorem d_X11_finish_78 : decode b_X11_finish 78 = .ok (.iload_n 1, 1) := by decide +kernel
theorem d_X11_finish_79 : decode b_X11_finish 79 = .ok (.ifCond .lt 9, 3) := by decide +kernel
theorem d_X11_finish_82 : decode b_X11_finish 82 = .ok (.iload 4, 2) := by decide +kernel
theorem d_X11_finish_84 : decode b_X11_finish 84 = .ok (.iload_n 1, 1) := by decide +kernel
theorem d_X11_finish_85 : decode b_X11_finish 85 = .ok (.if_icmp .ge 6, 3) := by decide +kernel
theorem d_X11_finish_88 : decode b_X11_finish 88 = .ok (.iload 4, 2) := by decide +kernel
theorem d_X11_finish_90 : decode b_X11_finish 90 = .ok (.istore_n 1, 1) := by decide +kernel
theorem d_X11_finish_91 : decode b_X11_finish 91 = .ok (.iinc 2 1, 3) := by decide +kernel
theorem d_X11_finish_94 : decode b_X11_finish 94 = .ok (.goto (-90), 3) := by decide +kernel
theorem d_X11_finish_97 : decode b_X11_finish 97 = .ok (.iload_n 1, 1) := by decide +kernel
theorem d_X11_finish_98 : decode b_X11_finish 98 = .ok (.ifCond .lt 9, 3) := by decide +kernel
theorem d_X11_finish_101 : decode b_X11_finish 101 = .ok (.aload_n 0, 1) := by decide +kernel
theorem d_X11_finish_102 : decode b_X11_finish 102 = .ok (.iconst 2, 1) := by decide +kernel
theorem d_X11_finish_103 : decode b_X11_finish 103 = .ok (.iload_n 1, 1) := by decide +kernel
theorem d_X11_finish_104 : decode b_X11_finish 104 = .ok (.invokevirtual 118, 3) := by decide +kernel
theorem d_X11_finish_107 : decode b_X11_finish 107 = .ok (.return_, 1) := by decide +kernel
theorem d_X8_forget_0 : decode b_X8_forget 0 = .ok (.aload_n 0, 1) := by decide +kernel
theorem d_X8_forget_1 : decode b_X8_forget 1 = .ok (.aload_n 0, 1) := by decide +kernel
theorem d_X8_forget_2 : decode b_X8_forget 2 = .ok (.getfield 55, 3) := by decide +kernel
theorem d_X8_forget_5 : decode b_X8_forget 5 = .ok (.aload_n 0, 1) := by decide +kernel
theorem d_X8_forget_6 : decode b_X8_forget 6 = .ok (.getfield 52, 3) := by decide +kernel
theorem d_X8_forget_9 : decode b_X8_forget 9 = .ok (.invokestatic 88, 3) := by decide +kernel
theorem d_X8_forget_12 : decode b_X8_forget 12 = .ok (.putfield 9, 3) := by decide +kernel
theorem d_X8_forget_15 : decode b_X8_forget 15 = .ok (.aload_n 0, 1) := by decide +kernel
theorem d_X8_forget_16 : decode b_X8_forget 16 = .ok (.aload_n 0, 1) := by decide +kernel
theorem d_X8_forget_17 : decode b_X8_forget 17 = .ok (.aload_n 0, 1) := by decide +kernel
theorem d_X8_forget_18 : decode b_X8_forget 18 = .ok (.getfield 9, 3) := by decide +kernel
theorem d_X8_forget_21 : decode b_X8_forget 21 = .ok (.invokevirtual 103, 3) := by decide +kernel
theorem d_X8_forget_24 : decode b_X8_forget 24 = .ok (.putfield 31, 3) := by decide +kernel
theorem d_X8_forget_27 : decode b_X8_forget 27 = .ok (.aload_n 0, 1) := by decide +kernel
theorem d_X8_forget_28 : decode b_X8_forget 28 = .ok (.aload_n 0, 1) := by decide +kernel
theorem d_X8_forget_29 : decode b_X8_forget 29 = .ok (.getfield 58, 3) := by decide +kernel
theorem d_X8_forget_32 : decode b_X8_forget 32 = .ok (.aload_n 0, 1) := by decide +kernel
theorem d_X8_forget_33 : decode b_X8_forget 33 = .ok (.getfield 52, 3) := by decide +kernel
theorem d_X8_forget_36 : decode b_X8_forget 36 = .ok (.invokestatic 88, 3) := by decide +kernel
theorem d_X8_forget_39 : decode b_X8_forget 39 = .ok (.putfield 39, 3) := by decide +kernel
theorem d_X8_forget_42 : decode b_X8_forget 42 = .ok (.aload_n 0, 1) := by decide +kernel
theorem d_X8_forget_43 : decode b_X8_forget 43 = .ok (.getfield 67, 3) := by decide +kernel
theorem d_X8_forget_46 : decode b_X8_forget 46 = .ok (.aload_n 0, 1) := by decide +kernel
theorem d_X8_forget_47 : decode b_X8_forget 47 = .ok (.getfield 61, 3) := by decide +kernel
theorem d_X8_forget_50 : decode b_X8_forget 50 = .ok (.aload_n 0, 1) := by decide +kernel
theorem d_X8_forget_51 : decode b_X8_forget 51 = .ok (.getfield 52, 3) := by decide +kernel
theorem d_X8_forget_54 : decode b_X8_forget 54 = .ok (.invokestatic 88, 3) := by decide +kernel
theorem d_X8_forget_57 : decode b_X8_forget 57 = .ok (.invokevirtual 126, 3) := by decide +kernel
theorem d_X8_nameStart_0 : decode b_X8_nameStart 0 = .ok (.aload_n 0, 1) := by decide +kernel
theorem d_X8_nameStart_1 : decode b_X8_nameStart 1 = .ok (.getfield 28, 3) := by decide +kernel
theorem d_X8_nameStart_4 : decode b_X8_nameStart 4 = .ok (.iload_n 1, 1) := by decide +kernel
theorem d_X8_nameStart_5 : decode b_X8_nameStart 5 = .ok (.iconst 1, 1) := by decide +kernel
theorem d_X8_nameStart_6 : decode b_X8_nameStart 6 = .ok (.isub, 1) := by decide +kernel
theorem d_X8_nameStart_7 : decode b_X8_nameStart 7 = .ok (.invokestatic 88, 3) := by decide +kernel
theorem d_X8_nameStart_10 : decode b_X8_nameStart 10 = .ok (.ireturn, 1) := by decide +kernel
theorem d_X8_keep_0 : decode b_X8_keep 0 = .ok (.aload_n 0, 1) := by decide +kernel
theorem d_X8_keep_1 : decode b_X8_keep 1 = .ok (.dup, 1) := by decide +kernel
theorem d_X8_keep_2 : decode b_X8_keep 2 = .ok (.getfield 52, 3) := by decide +kernel
theorem d_X8_keep_5 : decode b_X8_keep 5 = .ok (.iconst 1, 1) := by decide +kernel
theorem d_X8_keep_6 : decode b_X8_keep 6 = .ok (.iadd, 1) := by decide +kernel
theorem d_X8_keep_7 : decode b_X8_keep 7 = .ok (.putfield 52, 3) := by decide +kernel
theorem d_X8_keep_10 : decode b_X8_keep 10 = .ok (.aload_n 0, 1) := by decide +kernel
theorem d_X8_keep_11 : decode b_X8_keep 11 = .ok (.getfield 55, 3) := by decide +kernel
theorem d_X8_keep_14 : decode b_X8_keep 14 = .ok (.aload_n 0, 1) := by decide +kernel
theorem d_X8_keep_15 : decode b_X8_keep 15 = .ok (.getfield 52, 3) := by decide +kernel
theorem d_X8_keep_18 : decode b_X8_keep 18 = .ok (.aload_n 0, 1) := by decide +kernel
theorem d_X8_keep_19 : decode b_X8_keep 19 = .ok (.getfield 9, 3) := by decide +kernel
theorem d_X8_keep_22 : decode b_X8_keep 22 = .ok (.invokestatic 112, 3) := by decide +kernel
theorem d_X8_keep_25 : decode b_X8_keep 25 = .ok (.aload_n 0, 1) := by decide +kernel
theorem d_X8_keep_26 : decode b_X8_keep 26 = .ok (.getfield 58, 3) := by decide +kernel
theorem d_X8_keep_29 : decode b_X8_keep 29 = .ok (.aload_n 0, 1) := by decide +kernel
theorem d_X8_keep_30 : decode b_X8_keep 30 = .ok (.getfield 52, 3) := by decide +kernel
theorem d_X8_keep_33 : decode b_X8_keep 33 = .ok (.aload_n 0, 1) := by decide +kernel
theorem d_X8_keep_34 : decode b_X8_keep 34 = .ok (.getfield 39, 3) := by decide +kernel
theorem d_X8_keep_37 : decode b_X8_keep 37 = .ok (.invokestatic 112, 3) := by decide +kernel
theorem d_X8_keep_40 : decode b_X8_keep 40 = .ok (.aload_n 0, 1) := by decide +kernel
theorem d_X8_keep_41 : decode b_X8_keep 41 = .ok (.getfield 61, 3) := by decide +kernel
theorem d_X8_keep_44 : decode b_X8_keep 44 = .ok (.aload_n 0, 1) := by decide +kernel
theorem d_X8_keep_45 : decode b_X8_keep 45 = .ok (.getfield 52, 3) := by decide +kernel
theorem d_X8_keep_48 : decode b_X8_keep 48 = .ok (.aload_n 0, 1) := by decide +kernel
theorem d_X8_keep_49 : decode b_X8_keep 49 = .ok (.getfield 67, 3) := by decide +kernel
theorem d_X8_keep_52 : decode b_X8_keep 52 = .ok (.getfield 122, 3) := by decide +kernel
theorem d_X8_keep_55 : decode b_X8_keep 55 = .ok (.invokestatic 112, 3) := by decide +kernel
theorem d_X8_keep_58 : decode b_X8_keep 58 = .ok (.aload_n 0, 1) := by decide +kernel
theorem d_X8_keep_59 : decode b_X8_keep 59 = .ok (.getfield 64, 3) := by decide +kernel
theorem d_X8_keep_62 : decode b_X8_keep 62 = .ok (.aload_n 0, 1) := by decide +kernel
theorem d_X8_keep_63 : decode b_X8_keep 63 = .ok (.getfield 52, 3) := by decide +kernel
theorem d_X8_keep_66 : decode b_X8_keep 66 = .ok (.iload_n 1, 1) := by decide +kernel
theorem d_X8_keep_67 : decode b_X8_keep 67 = .ok (.invokestatic 112, 3) := by decide +kernel
theorem d_X8_keep_70 : decode b_X8_keep 70 = .ok (.aload_n 0, 1) := by decide +kernel
theorem d_X8_keep_71 : decode b_X8_keep 71 = .ok (.getfield 52, 3) := by decide +kernel
theorem d_X8_keep_74 : decode b_X8_keep 74 = .ok (.ireturn, 1) := by decide +kernel
theorem d_X8_has_0 : decode b_X8_has 0 = .ok (.iload_n 1, 1) := by decide +kernel
theorem d_X8_has_1 : decode b_X8_has 1 = .ok (.iconst 1, 1) := by decide +kernel
theorem d_X8_has_2 : decode b_X8_has 2 = .ok (.if_icmp .lt 15, 3) := by decide +kernel
theorem d_X8_has_5 : decode b_X8_has 5 = .ok (.iload_n 1, 1) := by decide +kernel
theorem d_X8_has_6 : decode b_X8_has 6 = .ok (.aload_n 0, 1) := by decide +kernel
theorem d_X8_has_7 : decode b_X8_has 7 = .ok (.getfield 52, 3) := by decide +kernel
theorem d_X8_has_10 : decode b_X8_has 10 = .ok (.if_icmp .gt 7, 3) := by decide +kernel
theorem d_X8_has_13 : decode b_X8_has 13 = .ok (.iconst 1, 1) := by decide +kernel
theorem d_X8_has_14 : decode b_X8_has 14 = .ok (.goto 4, 3) := by decide +kernel
theorem d_X8_has_17 : decode b_X8_has 17 = .ok (.iconst 0, 1) := by decide +kernel
theorem d_X8_has_18 : decode b_X8_has 18 = .ok (.ireturn, 1) := by decide +kernel
theorem d_X8_symbolsOf_0 : decode b_X8_symbolsOf 0 = .ok (.iconst 0, 1) := by decide +kernel
theorem d_X8_symbolsOf_1 : decode b_X8_symbolsOf 1 = .ok (.istore_n 2, 1) := by decide +kernel
theorem d_X8_symbolsOf_2 : decode b_X8_symbolsOf 2 = .ok (.aload_n 0, 1) := by decide +kernel
theorem d_X8_symbolsOf_3 : decode b_X8_symbolsOf 3 = .ok (.iload_n 1, 1) := by decide +kernel
theorem d_X8_symbolsOf_4 : decode b_X8_symbolsOf 4 = .ok (.invokevirtual 92, 3) := by decide +kernel
theorem d_X8_symbolsOf_7 : decode b_X8_symbolsOf 7 = .ok (.istore_n 3, 1) := by decide +kernel
theorem d_X8_symbolsOf_8 : decode b_X8_symbolsOf 8 = .ok (.iload_n 3, 1) := by decide +kernel
theorem d_X8_symbolsOf_9 : decode b_X8_symbolsOf 9 = .ok (.aload_n 0, 1) := by decide +kernel
theorem d_X8_symbolsOf_10 : decode b_X8_symbolsOf 10 = .ok (.getfield 55, 3) := by decide +kernel
theorem d_X8_symbolsOf_13 : decode b_X8_symbolsOf 13 = .ok (.iload_n 1, 1) := by decide +kernel
theorem d_X8_symbolsOf_14 : decode b_X8_symbolsOf 14 = .ok (.invokestatic 88, 3) := by decide +kernel
theorem d_X8_symbolsOf_17 : decode b_X8_symbolsOf 17 = .ok (.if_icmp .ge 26, 3) := by decide +kernel
theorem d_X8_symbolsOf_20 : decode b_X8_symbolsOf 20 = .ok (.iload_n 2, 1) := by decide +kernel
theorem d_X8_symbolsOf_21 : decode b_X8_symbolsOf 21 = .ok (.aload_n 0, 1) := by decide +kernel
theorem d_X8_symbolsOf_22 : decode b_X8_symbolsOf 22 = .ok (.iload_n 3, 1) := by decide +kernel
theorem d_X8_symbolsOf_23 : decode b_X8_symbolsOf 23 = .ok (.iconst 2, 1) := by decide +kernel
theorem d_X8_symbolsOf_24 : decode b_X8_symbolsOf 24 = .ok (.invokevirtual 95, 3) := by decide +kernel
theorem d_X8_symbolsOf_27 : decode b_X8_symbolsOf 27 = .ok (.ifCond .eq 7, 3) := by decide +kernel
theorem d_X8_symbolsOf_30 : decode b_X8_symbolsOf 30 = .ok (.iconst 0, 1) := by decide +kernel
theorem d_X8_symbolsOf_31 : decode b_X8_symbolsOf 31 = .ok (.goto 4, 3) := by decide +kernel
theorem d_X8_symbolsOf_34 : decode b_X8_symbolsOf 34 = .ok (.iconst 1, 1) := by decide +kernel
theorem d_X8_symbolsOf_35 : decode b_X8_symbolsOf 35 = .ok (.iadd, 1) := by decide +kernel
theorem d_X8_symbolsOf_36 : decode b_X8_symbolsOf 36 = .ok (.istore_n 2, 1) := by decide +kernel
theorem d_X8_symbolsOf_37 : decode b_X8_symbolsOf 37 = .ok (.iinc 3 1, 3) := by decide +kernel
theorem d_X8_symbolsOf_40 : decode b_X8_symbolsOf 40 = .ok (.goto (-32), 3) := by decide +kernel
theorem d_X8_symbolsOf_43 : decode b_X8_symbolsOf 43 = .ok (.iload_n 2, 1) := by decide +kernel
theorem d_X8_symbolsOf_44 : decode b_X8_symbolsOf 44 = .ok (.ireturn, 1) := by decide +kernel
theorem d_X8_firstOf_0 : decode b_X8_firstOf 0 = .ok (.iload_n 1, 1) := by decide +kernel
theorem d_X8_firstOf_1 : decode b_X8_firstOf 1 = .ok (.ifCond .gt 7, 3) := by decide +kernel
theorem d_X8_firstOf_4 : decode b_X8_firstOf 4 = .ok (.iconst 0, 1) := by decide +kernel
theorem d_X8_firstOf_5 : decode b_X8_firstOf 5 = .ok (.goto 13, 3) := by decide +kernel
theorem d_X8_firstOf_8 : decode b_X8_firstOf 8 = .ok (.aload_n 0, 1) := by decide +kernel
theorem d_X8_firstOf_9 : decode b_X8_firstOf 9 = .ok (.getfield 55, 3) := by decide +kernel
theorem d_X8_firstOf_12 : decode b_X8_firstOf 12 = .ok (.iload_n 1, 1) := by decide +kernel
theorem d_X8_firstOf_13 : decode b_X8_firstOf 13 = .ok (.iconst 1, 1) := by decide +kernel
theorem d_X8_firstOf_14 : decode b_X8_firstOf 14 = .ok (.isub, 1) := by decide +kernel
theorem d_X8_firstOf_15 : decode b_X8_firstOf 15 = .ok (.invokestatic 88, 3) := by decide +kernel
theorem d_X8_firstOf_18 : decode b_X8_firstOf 18 = .ok (.ireturn, 1) := by decide +kernel
theorem d_X8_symbolAt_0 : decode b_X8_symbolAt 0 = .ok (.aload_n 0, 1) := by decide +kernel
theorem d_X8_symbolAt_1 : decode b_X8_symbolAt 1 = .ok (.iload_n 1, 1) := by decide +kernel
theorem d_X8_symbolAt_2 : decode b_X8_symbolAt 2 = .ok (.invokevirtual 99, 3) := by decide +kernel
theorem d_X8_symbolAt_5 : decode b_X8_symbolAt 5 = .ok (.ifCond .eq 11, 3) := by decide +kernel
theorem d_X8_symbolAt_8 : decode b_X8_symbolAt 8 = .ok (.iload_n 2, 1) := by decide +kernel
theorem d_X8_symbolAt_9 : decode b_X8_symbolAt 9 = .ok (.ifCond .lt 7, 3) := by decide +kernel
theorem d_X8_symbolAt_12 : decode b_X8_symbolAt 12 = .ok (.iload_n 2, 1) := by decide +kernel
theorem d_X8_symbolAt_13 : decode b_X8_symbolAt 13 = .ok (.goto 4, 3) := by decide +kernel
theorem d_X8_symbolAt_16 : decode b_X8_symbolAt 16 = .ok (.iconst (-1), 1) := by decide +kernel
theorem d_X8_symbolAt_17 : decode b_X8_symbolAt 17 = .ok (.istore_n 3, 1) := by decide +kernel
theorem d_X8_symbolAt_18 : decode b_X8_symbolAt 18 = .ok (.aload_n 0, 1) := by decide +kernel
theorem d_X8_symbolAt_19 : decode b_X8_symbolAt 19 = .ok (.iload_n 1, 1) := by decide +kernel
theorem d_X8_symbolAt_20 : decode b_X8_symbolAt 20 = .ok (.invokevirtual 92, 3) := by decide +kernel
theorem d_X8_symbolAt_23 : decode b_X8_symbolAt 23 = .ok (.istore 4, 2) := by decide +kernel
theorem d_X8_symbolAt_25 : decode b_X8_symbolAt 25 = .ok (.iload_n 3, 1) := by decide +kernel
theorem d_X8_symbolAt_26 : decode b_X8_symbolAt 26 = .ok (.ifCond .lt 42, 3) := by decide +kernel
theorem d_X8_symbolAt_29 : decode b_X8_symbolAt 29 = .ok (.iload 4, 2) := by decide +kernel
theorem d_X8_symbolAt_31 : decode b_X8_symbolAt 31 = .ok (.aload_n 0, 1) := by decide +kernel
theorem d_X8_symbolAt_32 : decode b_X8_symbolAt 32 = .ok (.getfield 55, 3) := by decide +kernel
theorem d_X8_symbolAt_35 : decode b_X8_symbolAt 35 = .ok (.iload_n 1, 1) := by decide +kernel
theorem d_X8_symbolAt_36 : decode b_X8_symbolAt 36 = .ok (.invokestatic 88, 3) := by decide +kernel
theorem d_X8_symbolAt_39 : decode b_X8_symbolAt 39 = .ok (.if_icmp .ge 29, 3) := by decide +kernel
theorem d_X8_symbolAt_42 : decode b_X8_symbolAt 42 = .ok (.aload_n 0, 1) := by decide +kernel
theorem d_X8_symbolAt_43 : decode b_X8_symbolAt 43 = .ok (.iload 4, 2) := by decide +kernel
theorem d_X8_symbolAt_45 : decode b_X8_symbolAt 45 = .ok (.iconst 2, 1) := by decide +kernel
theorem d_X8_symbolAt_46 : decode b_X8_symbolAt 46 = .ok (.invokevirtual 95, 3) := by decide +kernel
theorem d_X8_symbolAt_49 : decode b_X8_symbolAt 49 = .ok (.ifCond .ne 13, 3) := by decide +kernel
theorem d_X8_symbolAt_52 : decode b_X8_symbolAt 52 = .ok (.iload_n 3, 1) := by decide +kernel
theorem d_X8_symbolAt_53 : decode b_X8_symbolAt 53 = .ok (.ifCond .ne 6, 3) := by decide +kernel
theorem d_X8_symbolAt_56 : decode b_X8_symbolAt 56 = .ok (.iload 4, 2) := by decide +kernel
theorem d_X8_symbolAt_58 : decode b_X8_symbolAt 58 = .ok (.ireturn, 1) := by decide +kernel
theorem d_X8_symbolAt_59 : decode b_X8_symbolAt 59 = .ok (.iinc 3 (-1), 3) := by decide +kernel
theorem d_X8_symbolAt_62 : decode b_X8_symbolAt 62 = .ok (.iinc 4 1, 3) := by decide +kernel
theorem d_X8_symbolAt_65 : decode b_X8_symbolAt 65 = .ok (.goto (-40), 3) := by decide +kernel
theorem d_X8_symbolAt_68 : decode b_X8_symbolAt 68 = .ok (.iconst (-1), 1) := by decide +kernel
theorem d_X8_symbolAt_69 : decode b_X8_symbolAt 69 = .ok (.ireturn, 1) := by decide +kernel
theorem d_X8_nameByte_0 : decode b_X8_nameByte 0 = .ok (.iload_n 1, 1) := by decide +kernel
theorem d_X8_nameByte_1 : decode b_X8_nameByte 1 = .ok (.ifCond .ge 7, 3) := by decide +kernel
theorem d_X8_nameByte_4 : decode b_X8_nameByte 4 = .ok (.iconst 0, 1) := by decide +kernel
theorem d_X8_nameByte_5 : decode b_X8_nameByte 5 = .ok (.goto 17, 3) := by decide +kernel
theorem d_X8_nameByte_8 : decode b_X8_nameByte 8 = .ok (.aload_n 0, 1) := by decide +kernel
theorem d_X8_nameByte_9 : decode b_X8_nameByte 9 = .ok (.getfield 28, 3) := by decide +kernel
theorem d_X8_nameByte_12 : decode b_X8_nameByte 12 = .ok (.iload_n 1, 1) := by decide +kernel
theorem d_X8_nameByte_13 : decode b_X8_nameByte 13 = .ok (.invokestatic 88, 3) := by decide +kernel
theorem d_X8_nameByte_16 : decode b_X8_nameByte 16 = .ok (.aload_n 0, 1) := by decide +kernel
theorem d_X8_nameByte_17 : decode b_X8_nameByte 17 = .ok (.iload_n 1, 1) := by decide +kernel
theorem d_X8_nameByte_18 : decode b_X8_nameByte 18 = .ok (.invokevirtual 103, 3) := by decide +kernel
theorem d_X8_nameByte_21 : decode b_X8_nameByte 21 = .ok (.isub, 1) := by decide +kernel
theorem d_X8_nameByte_22 : decode b_X8_nameByte 22 = .ok (.istore_n 3, 1) := by decide +kernel
theorem d_X8_nameByte_23 : decode b_X8_nameByte 23 = .ok (.aload_n 0, 1) := by decide +kernel
theorem d_X8_nameByte_24 : decode b_X8_nameByte 24 = .ok (.iload_n 1, 1) := by decide +kernel
theorem d_X8_nameByte_25 : decode b_X8_nameByte 25 = .ok (.invokevirtual 103, 3) := by decide +kernel
theorem d_X8_nameByte_28 : decode b_X8_nameByte 28 = .ok (.iload_n 2, 1) := by decide +kernel
theorem d_X8_nameByte_29 : decode b_X8_nameByte 29 = .ok (.iadd, 1) := by decide +kernel
theorem d_X8_nameByte_30 : decode b_X8_nameByte 30 = .ok (.istore 4, 2) := by decide +kernel
theorem d_X8_nameByte_32 : decode b_X8_nameByte 32 = .ok (.iload_n 2, 1) := by decide +kernel
theorem d_X8_nameByte_33 : decode b_X8_nameByte 33 = .ok (.ifCond .lt 32, 3) := by decide +kernel
theorem d_X8_nameByte_36 : decode b_X8_nameByte 36 = .ok (.iload_n 2, 1) := by decide +kernel
theorem d_X8_nameByte_37 : decode b_X8_nameByte 37 = .ok (.iload_n 3, 1) := by decide +kernel
theorem d_X8_nameByte_38 : decode b_X8_nameByte 38 = .ok (.if_icmp .ge 27, 3) := by decide +kernel
theorem d_X8_nameByte_41 : decode b_X8_nameByte 41 = .ok (.iload 4, 2) := by decide +kernel
theorem d_X8_nameByte_43 : decode b_X8_nameByte 43 = .ok (.aload_n 0, 1) := by decide +kernel
theorem d_X8_nameByte_44 : decode b_X8_nameByte 44 = .ok (.getfield 35, 3) := by decide +kernel
theorem d_X8_nameByte_47 : decode b_X8_nameByte 47 = .ok (.arraylength, 1) := by decide +kernel
theorem d_X8_nameByte_48 : decode b_X8_nameByte 48 = .ok (.if_icmp .ge 17, 3) := by decide +kernel
theorem d_X8_nameByte_51 : decode b_X8_nameByte 51 = .ok (.aload_n 0, 1) := by decide +kernel
theorem d_X8_nameByte_52 : decode b_X8_nameByte 52 = .ok (.getfield 35, 3) := by decide +kernel
theorem d_X8_nameByte_55 : decode b_X8_nameByte 55 = .ok (.iload 4, 2) := by decide +kernel
theorem d_X8_nameByte_57 : decode b_X8_nameByte 57 = .ok (.baload, 1) := by decide +kernel
theorem d_X8_nameByte_58 : decode b_X8_nameByte 58 = .ok (.sipush 255, 3) := by decide +kernel
theorem d_X8_nameByte_61 : decode b_X8_nameByte 61 = .ok (.iand, 1) := by decide +kernel
theorem d_X8_nameByte_62 : decode b_X8_nameByte 62 = .ok (.goto 4, 3) := by decide +kernel
theorem d_X8_nameByte_65 : decode b_X8_nameByte 65 = .ok (.iconst (-1), 1) := by decide +kernel
theorem d_X8_nameByte_66 : decode b_X8_nameByte 66 = .ok (.ireturn, 1) := by decide +kernel
theorem d_X4_choose_0 : decode b_X4_choose 0 = .ok (.iconst 1, 1) := by decide +kernel
theorem d_X4_choose_1 : decode b_X4_choose 1 = .ok (.istore_n 2, 1) := by decide +kernel
theorem d_X4_choose_2 : decode b_X4_choose 2 = .ok (.iload_n 2, 1) := by decide +kernel
theorem d_X4_choose_3 : decode b_X4_choose 3 = .ok (.aload_n 0, 1) := by decide +kernel
theorem d_X4_choose_4 : decode b_X4_choose 4 = .ok (.getfield 26, 3) := by decide +kernel
theorem d_X4_choose_7 : decode b_X4_choose 7 = .ok (.if_icmp .ge 23, 3) := by decide +kernel
theorem d_X4_choose_10 : decode b_X4_choose 10 = .ok (.aload_n 0, 1) := by decide +kernel
theorem d_X4_choose_11 : decode b_X4_choose 11 = .ok (.getfield 29, 3) := by decide +kernel
theorem d_X4_choose_14 : decode b_X4_choose 14 = .ok (.iload_n 2, 1) := by decide +kernel
theorem d_X4_choose_15 : decode b_X4_choose 15 = .ok (.invokestatic 54, 3) := by decide +kernel
theorem d_X4_choose_18 : decode b_X4_choose 18 = .ok (.iload_n 1, 1) := by decide +kernel
theorem d_X4_choose_19 : decode b_X4_choose 19 = .ok (.if_icmp .ne 5, 3) := by decide +kernel
theorem d_X4_choose_22 : decode b_X4_choose 22 = .ok (.iconst (-1), 1) := by decide +kernel
theorem d_X4_choose_23 : decode b_X4_choose 23 = .ok (.ireturn, 1) := by decide +kernel
theorem d_X4_choose_24 : decode b_X4_choose 24 = .ok (.iinc 2 1, 3) := by decide +kernel
theorem d_X4_choose_27 : decode b_X4_choose 27 = .ok (.goto (-25), 3) := by decide +kernel
theorem d_X4_choose_30 : decode b_X4_choose 30 = .ok (.aload_n 0, 1) := by decide +kernel
theorem d_X4_choose_31 : decode b_X4_choose 31 = .ok (.getfield 29, 3) := by decide +kernel
theorem d_X4_choose_34 : decode b_X4_choose 34 = .ok (.aload_n 0, 1) := by decide +kernel
theorem d_X4_choose_35 : decode b_X4_choose 35 = .ok (.getfield 26, 3) := by decide +kernel
theorem d_X4_choose_38 : decode b_X4_choose 38 = .ok (.iload_n 1, 1) := by decide +kernel
theorem d_X4_choose_39 : decode b_X4_choose 39 = .ok (.invokestatic 58, 3) := by decide +kernel
theorem d_X4_choose_42 : decode b_X4_choose 42 = .ok (.aload_n 0, 1) := by decide +kernel
theorem d_X4_choose_43 : decode b_X4_choose 43 = .ok (.dup, 1) := by decide +kernel
theorem d_X4_choose_44 : decode b_X4_choose 44 = .ok (.getfield 26, 3) := by decide +kernel
theorem d_X4_choose_47 : decode b_X4_choose 47 = .ok (.iconst 1, 1) := by decide +kernel
theorem d_X4_choose_48 : decode b_X4_choose 48 = .ok (.iadd, 1) := by decide +kernel
theorem d_X4_choose_49 : decode b_X4_choose 49 = .ok (.putfield 26, 3) := by decide +kernel
theorem d_X4_choose_52 : decode b_X4_choose 52 = .ok (.aload_n 0, 1) := by decide +kernel
theorem d_X4_choose_53 : decode b_X4_choose 53 = .ok (.getfield 26, 3) := by decide +kernel
theorem d_X4_choose_56 : decode b_X4_choose 56 = .ok (.iconst 1, 1) := by decide +kernel
theorem d_X4_choose_57 : decode b_X4_choose 57 = .ok (.isub, 1) := by decide +kernel
theorem d_X4_choose_58 : decode b_X4_choose 58 = .ok (.ireturn, 1) := by decide +kernel
theorem d_X4_join_0 : decode b_X4_join 0 = .ok (.aload_n 0, 1) := by decide +kernel
theorem d_X4_join_1 : decode b_X4_join 1 = .ok (.iconst (-1), 1) := by decide +kernel
theorem d_X4_join_2 : decode b_X4_join 2 = .ok (.putfield 19, 3) := by decide +kernel
theorem d_X4_join_5 : decode b_X4_join 5 = .ok (.aload_n 0, 1) := by decide +kernel
theorem d_X4_join_6 : decode b_X4_join 6 = .ok (.iconst (-1), 1) := by decide +kernel
theorem d_X4_join_7 : decode b_X4_join 7 = .ok (.putfield 23, 3) := by decide +kernel
theorem d_X4_join_10 : decode b_X4_join 10 = .ok (.aload_n 0, 1) := by decide +kernel
theorem d_X4_join_11 : decode b_X4_join 11 = .ok (.aload_n 0, 1) := by decide +kernel
theorem d_X4_join_12 : decode b_X4_join 12 = .ok (.getfield 29, 3) := by decide +kernel
theorem d_X4_join_15 : decode b_X4_join 15 = .ok (.aload_n 0, 1) := by decide +kernel
theorem d_X4_join_16 : decode b_X4_join 16 = .ok (.getfield 26, 3) := by decide +kernel
theorem d_X4_join_19 : decode b_X4_join 19 = .ok (.aload_n 0, 1) := by decide +kernel
theorem d_X4_join_20 : decode b_X4_join 20 = .ok (.getfield 11, 3) := by decide +kernel
theorem d_X4_join_23 : decode b_X4_join 23 = .ok (.iconst 0, 1) := by decide +kernel
theorem d_X4_join_24 : decode b_X4_join 24 = .ok (.iconst 4, 1) := by decide +kernel
theorem d_X4_join_25 : decode b_X4_join 25 = .ok (.invokevirtual 62, 3) := by decide +kernel
theorem d_X4_join_34 : decode b_X4_join 34 = .ok (.iload_n 3, 1) := by decide +kernel
theorem d_X4_join_35 : decode b_X4_join 35 = .ok (.bipush 33, 2) := by decide +kernel
theorem d_X4_join_37 : decode b_X4_join 37 = .ok (.if_icmp .gt 19, 3) := by decide +kernel
theorem d_X4_join_40 : decode b_X4_join 40 = .ok (.iload_n 2, 1) := by decide +kernel
theorem d_X4_join_41 : decode b_X4_join 41 = .ok (.ifCond .ne 15, 3) := by decide +kernel
theorem d_X4_join_44 : decode b_X4_join 44 = .ok (.aload_n 0, 1) := by decide +kernel
theorem d_X4_join_45 : decode b_X4_join 45 = .ok (.iload_n 3, 1) := by decide +kernel
theorem d_X4_join_46 : decode b_X4_join 46 = .ok (.invokevirtual 66, 3) := by decide +kernel
theorem d_X4_join_49 : decode b_X4_join 49 = .ok (.istore_n 2, 1) := by decide +kernel
theorem d_X4_join_50 : decode b_X4_join 50 = .ok (.iinc 3 1, 3) := by decide +kernel
theorem d_X4_join_53 : decode b_X4_join 53 = .ok (.goto (-19), 3) := by decide +kernel
theorem d_X4_join_56 : decode b_X4_join 56 = .ok (.iload_n 2, 1) := by decide +kernel
theorem d_X4_join_57 : decode b_X4_join 57 = .ok (.ifCond .ne 14, 3) := by decide +kernel
theorem d_X4_join_60 : decode b_X4_join 60 = .ok (.aload_n 0, 1) := by decide +kernel
theorem d_X4_join_61 : decode b_X4_join 61 = .ok (.iload_n 1, 1) := by decide +kernel
theorem d_X4_join_62 : decode b_X4_join 62 = .ok (.invokevirtual 70, 3) := by decide +kernel
theorem d_X4_join_65 : decode b_X4_join 65 = .ok (.ifCond .ne 6, 3) := by decide +kernel
theorem d_X4_join_68 : decode b_X4_join 68 = .ok (.bipush 34, 2) := by decide +kernel
theorem d_X4_join_70 : decode b_X4_join 70 = .ok (.istore_n 2, 1) := by decide +kernel
theorem d_X4_join_71 : decode b_X4_join 71 = .ok (.iload_n 2, 1) := by decide +kernel
theorem d_X4_join_72 : decode b_X4_join 72 = .ok (.ifCond .ne 16, 3) := by decide +kernel
theorem d_X4_join_75 : decode b_X4_join 75 = .ok (.aload_n 0, 1) := by decide +kernel
theorem d_X4_join_76 : decode b_X4_join 76 = .ok (.invokevirtual 74, 3) := by decide +kernel
theorem d_X4_join_79 : decode b_X4_join 79 = .ok (.sipush 16000, 3) := by decide +kernel
theorem d_X4_join_82 : decode b_X4_join 82 = .ok (.if_icmp .le 6, 3) := by decide +kernel
theorem d_X4_join_85 : decode b_X4_join 85 = .ok (.bipush 35, 2) := by decide +kernel
theorem d_X4_join_87 : decode b_X4_join 87 = .ok (.istore_n 2, 1) := by decide +kernel
theorem d_X4_join_88 : decode b_X4_join 88 = .ok (.iload_n 2, 1) := by decide +kernel
theorem d_X4_join_89 : decode b_X4_join 89 = .ok (.ifCond .ne 24, 3) := by decide +kernel
theorem d_X4_join_92 : decode b_X4_join 92 = .ok (.aload_n 0, 1) := by decide +kernel
theorem d_X4_join_93 : decode b_X4_join 93 = .ok (.invokevirtual 78, 3) := by decide +kernel
theorem d_X4_join_96 : decode b_X4_join 96 = .ok (.aload_n 0, 1) := by decide +kernel
theorem d_X4_join_97 : decode b_X4_join 97 = .ok (.aload_n 0, 1) := by decide +kernel
theorem d_X4_join_98 : decode b_X4_join 98 = .ok (.getfield 44, 3) := by decide +kernel
theorem d_X4_join_101 : decode b_X4_join 101 = .ok (.iload_n 1, 1) := by decide +kernel
theorem d_X4_join_102 : decode b_X4_join 102 = .ok (.invokestatic 54, 3) := by decide +kernel
theorem d_X4_join_105 : decode b_X4_join 105 = .ok (.putfield 47, 3) := by decide +kernel
theorem d_X4_join_108 : decode b_X4_join 108 = .ok (.aload_n 0, 1) := by decide +kernel
theorem d_X4_join_109 : decode b_X4_join 109 = .ok (.iconst 1, 1) := by decide +kernel
theorem d_X4_join_110 : decode b_X4_join 110 = .ok (.putfield 15, 3) := by decide +kernel
theorem d_X4_join_113 : decode b_X4_join 113 = .ok (.aload_n 0, 1) := by decide +kernel
theorem d_X4_join_114 : decode b_X4_join 114 = .ok (.iconst 1, 1) := by decide +kernel
theorem d_X4_join_115 : decode b_X4_join 115 = .ok (.putfield 26, 3) := by decide +kernel
theorem d_X4_join_118 : decode b_X4_join 118 = .ok (.iload_n 2, 1) := by decide +kernel
theorem d_X4_join_119 : decode b_X4_join 119 = .ok (.ineg, 1) := by decide +kernel
theorem d_X4_join_120 : decode b_X4_join 120 = .ok (.ireturn, 1) := by decide +kernel
theorem d_X4_look_0 : decode b_X4_look 0 = .ok (.iconst 1, 1) := by decide +kernel
theorem d_X4_look_1 : decode b_X4_look 1 = .ok (.istore_n 2, 1) := by decide +kernel
theorem d_X4_look_2 : decode b_X4_look 2 = .ok (.iload_n 2, 1) := by decide +kernel
theorem d_X4_look_3 : decode b_X4_look 3 = .ok (.aload_n 0, 1) := by decide +kernel
theorem d_X4_look_4 : decode b_X4_look 4 = .ok (.getfield 26, 3) := by decide +kernel
theorem d_X4_look_7 : decode b_X4_look 7 = .ok (.if_icmp .ge 119, 3) := by decide +kernel
theorem d_X4_look_10 : decode b_X4_look 10 = .ok (.aload_n 0, 1) := by decide +kernel
theorem d_X4_look_11 : decode b_X4_look 11 = .ok (.getfield 29, 3) := by decide +kernel
theorem d_X4_look_14 : decode b_X4_look 14 = .ok (.iload_n 2, 1) := by decide +kernel
theorem d_X4_look_15 : decode b_X4_look 15 = .ok (.invokestatic 54, 3) := by decide +kernel
theorem d_X4_look_18 : decode b_X4_look 18 = .ok (.istore_n 3, 1) := by decide +kernel
theorem d_X4_look_19 : decode b_X4_look 19 = .ok (.iconst 0, 1) := by decide +kernel
theorem d_X4_look_20 : decode b_X4_look 20 = .ok (.istore 4, 2) := by decide +kernel
theorem d_X4_look_22 : decode b_X4_look 22 = .ok (.aload_n 0, 1) := by decide +kernel
theorem d_X4_look_23 : decode b_X4_look 23 = .ok (.getfield 50, 3) := by decide +kernel
theorem d_X4_look_26 : decode b_X4_look 26 = .ok (.iload_n 3, 1) := by decide +kernel
theorem d_X4_look_27 : decode b_X4_look 27 = .ok (.invokevirtual 93, 3) := by decide +kernel
theorem d_X4_look_30 : decode b_X4_look 30 = .ok (.istore 5, 2) := by decide +kernel
theorem d_X4_look_32 : decode b_X4_look 32 = .ok (.iload 5, 2) := by decide +kernel
theorem d_X4_look_34 : decode b_X4_look 34 = .ok (.aload_n 0, 1) := by decide +kernel
theorem d_X4_look_35 : decode b_X4_look 35 = .ok (.getfield 50, 3) := by decide +kernel
theorem d_X4_look_38 : decode b_X4_look 38 = .ok (.getfield 96, 3) := by decide +kernel
theorem d_X4_look_41 : decode b_X4_look 41 = .ok (.iload_n 3, 1) := by decide +kernel
theorem d_X4_look_42 : decode b_X4_look 42 = .ok (.invokestatic 54, 3) := by decide +kernel
theorem d_X4_look_45 : decode b_X4_look 45 = .ok (.if_icmp .ge 75, 3) := by decide +kernel
theorem d_X4_look_48 : decode b_X4_look 48 = .ok (.aload_n 0, 1) := by decide +kernel
theorem d_X4_look_49 : decode b_X4_look 49 = .ok (.getfield 50, 3) := by decide +kernel
theorem d_X4_look_52 : decode b_X4_look 52 = .ok (.iload 5, 2) := by decide +kernel
theorem d_X4_look_54 : decode b_X4_look 54 = .ok (.iconst 2, 1) := by decide +kernel
theorem d_X4_look_55 : decode b_X4_look 55 = .ok (.invokevirtual 81, 3) := by decide +kernel
theorem d_X4_look_58 : decode b_X4_look 58 = .ok (.ifCond .ne 7, 3) := by decide +kernel
theorem d_X4_look_61 : decode b_X4_look 61 = .ok (.iconst 1, 1) := by decide +kernel
theorem d_X4_look_62 : decode b_X4_look 62 = .ok (.goto 4, 3) := by decide +kernel
theorem d_X4_look_65 : decode b_X4_look 65 = .ok (.iconst 0, 1) := by decide +kernel
theorem d_X4_look_66 : decode b_X4_look 66 = .ok (.istore 6, 2) := by decide +kernel
theorem d_X4_look_68 : decode b_X4_look 68 = .ok (.iload 6, 2) := by decide +kernel
theorem d_X4_look_70 : decode b_X4_look 70 = .ok (.ifCond .eq 29, 3) := by decide +kernel
theorem d_X4_look_73 : decode b_X4_look 73 = .ok (.aload_n 0, 1) := by decide +kernel
theorem d_X4_look_74 : decode b_X4_look 74 = .ok (.iload_n 1, 1) := by decide +kernel
theorem d_X4_look_75 : decode b_X4_look 75 = .ok (.iload_n 2, 1) := by decide +kernel
theorem d_X4_look_76 : decode b_X4_look 76 = .ok (.iload 5, 2) := by decide +kernel
theorem d_X4_look_78 : decode b_X4_look 78 = .ok (.invokevirtual 99, 3) := by decide +kernel
theorem d_X4_look_81 : decode b_X4_look 81 = .ok (.ifCond .eq 18, 3) := by decide +kernel
theorem d_X4_look_84 : decode b_X4_look 84 = .ok (.aload_n 0, 1) := by decide +kernel
theorem d_X4_look_85 : decode b_X4_look 85 = .ok (.iload_n 2, 1) := by decide +kernel
theorem d_X4_look_86 : decode b_X4_look 86 = .ok (.iconst 1, 1) := by decide +kernel
theorem d_X4_look_87 : decode b_X4_look 87 = .ok (.isub, 1) := by decide +kernel
theorem d_X4_look_88 : decode b_X4_look 88 = .ok (.putfield 19, 3) := by decide +kernel
theorem d_X4_look_91 : decode b_X4_look 91 = .ok (.aload_n 0, 1) := by decide +kernel
theorem d_X4_look_92 : decode b_X4_look 92 = .ok (.iload 4, 2) := by decide +kernel
theorem d_X4_look_94 : decode b_X4_look 94 = .ok (.putfield 23, 3) := by decide +kernel
theorem d_X4_look_97 : decode b_X4_look 97 = .ok (.iload_n 1, 1) := by decide +kernel
theorem d_X4_look_98 : decode b_X4_look 98 = .ok (.ireturn, 1) := by decide +kernel
theorem d_X4_look_99 : decode b_X4_look 99 = .ok (.iload 4, 2) := by decide +kernel
theorem d_X4_look_101 : decode b_X4_look 101 = .ok (.iload 6, 2) := by decide +kernel
theorem d_X4_look_103 : decode b_X4_look 103 = .ok (.ifCond .eq 7, 3) := by decide +kernel
theorem d_X4_look_106 : decode b_X4_look 106 = .ok (.iconst 1, 1) := by decide +kernel
theorem d_X4_look_107 : decode b_X4_look 107 = .ok (.goto 4, 3) := by decide +kernel
theorem d_X4_look_110 : decode b_X4_look 110 = .ok (.iconst 0, 1) := by decide +kernel
theorem d_X4_look_111 : decode b_X4_look 111 = .ok (.iadd, 1) := by decide +kernel
theorem d_X4_look_112 : decode b_X4_look 112 = .ok (.istore 4, 2) := by decide +kernel
theorem d_X4_look_114 : decode b_X4_look 114 = .ok (.iinc 5 1, 3) := by decide +kernel
theorem d_X4_look_117 : decode b_X4_look 117 = .ok (.goto (-85), 3) := by decide +kernel
theorem d_X4_look_120 : decode b_X4_look 120 = .ok (.iinc 2 1, 3) := by decide +kernel
theorem d_X4_look_123 : decode b_X4_look 123 = .ok (.goto (-121), 3) := by decide +kernel
theorem d_X4_look_126 : decode b_X4_look 126 = .ok (.iconst 0, 1) := by decide +kernel
theorem d_X4_look_127 : decode b_X4_look 127 = .ok (.ireturn, 1) := by decide +kernel
theorem d_X4_isWrong_0 : decode b_X4_isWrong 0 = .ok (.aload_n 0, 1) := by decide +kernel
theorem d_X4_isWrong_1 : decode b_X4_isWrong 1 = .ok (.getfield 50, 3) := by decide +kernel
theorem d_X4_isWrong_4 : decode b_X4_isWrong 4 = .ok (.iload_n 3, 1) := by decide +kernel
theorem d_X4_isWrong_5 : decode b_X4_isWrong 5 = .ok (.iconst 4, 1) := by decide +kernel
theorem d_X4_isWrong_6 : decode b_X4_isWrong 6 = .ok (.invokevirtual 81, 3) := by decide +kernel
theorem d_X4_isWrong_9 : decode b_X4_isWrong 9 = .ok (.ifCond .eq 24, 3) := by decide +kernel
theorem d_X4_isWrong_12 : decode b_X4_isWrong 12 = .ok (.iload_n 1, 1) := by decide +kernel
theorem d_X4_isWrong_13 : decode b_X4_isWrong 13 = .ok (.bipush 31, 2) := by decide +kernel
theorem d_X4_isWrong_15 : decode b_X4_isWrong 15 = .ok (.if_icmp .ne 16, 3) := by decide +kernel
theorem d_X4_isWrong_18 : decode b_X4_isWrong 18 = .ok (.aload_n 0, 1) := by decide +kernel
theorem d_X4_isWrong_19 : decode b_X4_isWrong 19 = .ok (.iload_n 2, 1) := by decide +kernel
theorem d_X4_isWrong_20 : decode b_X4_isWrong 20 = .ok (.iload_n 3, 1) := by decide +kernel
theorem d_X4_isWrong_21 : decode b_X4_isWrong 21 = .ok (.invokevirtual 103, 3) := by decide +kernel
theorem d_X4_isWrong_24 : decode b_X4_isWrong 24 = .ok (.ifCond .lt 7, 3) := by decide +kernel
theorem d_X4_isWrong_27 : decode b_X4_isWrong 27 = .ok (.iconst 1, 1) := by decide +kernel
theorem d_X4_isWrong_28 : decode b_X4_isWrong 28 = .ok (.goto 4, 3) := by decide +kernel
theorem d_X4_isWrong_31 : decode b_X4_isWrong 31 = .ok (.iconst 0, 1) := by decide +kernel
theorem d_X4_isWrong_32 : decode b_X4_isWrong 32 = .ok (.ireturn, 1) := by decide +kernel
theorem d_X4_isWrong_33 : decode b_X4_isWrong 33 = .ok (.iload_n 1, 1) := by decide +kernel
theorem d_X4_isWrong_34 : decode b_X4_isWrong 34 = .ok (.bipush 32, 2) := by decide +kernel
theorem d_X4_isWrong_36 : decode b_X4_isWrong 36 = .ok (.if_icmp .ne 34, 3) := by decide +kernel
theorem d_X4_isWrong_39 : decode b_X4_isWrong 39 = .ok (.aload_n 0, 1) := by decide +kernel
theorem d_X4_isWrong_40 : decode b_X4_isWrong 40 = .ok (.getfield 50, 3) := by decide +kernel
theorem d_X4_isWrong_43 : decode b_X4_isWrong 43 = .ok (.iload_n 3, 1) := by decide +kernel
theorem d_X4_isWrong_44 : decode b_X4_isWrong 44 = .ok (.bipush 8, 2) := by decide +kernel
theorem d_X4_isWrong_46 : decode b_X4_isWrong 46 = .ok (.invokevirtual 81, 3) := by decide +kernel
theorem d_X4_isWrong_49 : decode b_X4_isWrong 49 = .ok (.ifCond .eq 19, 3) := by decide +kernel
theorem d_X4_isWrong_52 : decode b_X4_isWrong 52 = .ok (.aload_n 0, 1) := by decide +kernel
theorem d_X4_isWrong_53 : decode b_X4_isWrong 53 = .ok (.aload_n 0, 1) := by decide +kernel
theorem d_X4_isWrong_54 : decode b_X4_isWrong 54 = .ok (.getfield 26, 3) := by decide +kernel
theorem d_X4_isWrong_57 : decode b_X4_isWrong 57 = .ok (.iload_n 3, 1) := by decide +kernel
theorem d_X4_isWrong_58 : decode b_X4_isWrong 58 = .ok (.invokevirtual 103, 3) := by decide +kernel
theorem d_X4_isWrong_61 : decode b_X4_isWrong 61 = .ok (.ifCond .ge 7, 3) := by decide +kernel
theorem d_X4_isWrong_64 : decode b_X4_isWrong 64 = .ok (.iconst 1, 1) := by decide +kernel
theorem d_X4_isWrong_65 : decode b_X4_isWrong 65 = .ok (.goto 4, 3) := by decide +kernel
theorem d_X4_isWrong_68 : decode b_X4_isWrong 68 = .ok (.iconst 0, 1) := by decide +kernel
theorem d_X4_isWrong_69 : decode b_X4_isWrong 69 = .ok (.ireturn, 1) := by decide +kernel
theorem d_X4_isWrong_70 : decode b_X4_isWrong 70 = .ok (.iload_n 1, 1) := by decide +kernel
theorem d_X4_isWrong_71 : decode b_X4_isWrong 71 = .ok (.bipush 33, 2) := by decide +kernel
theorem d_X4_isWrong_73 : decode b_X4_isWrong 73 = .ok (.if_icmp .ne 24, 3) := by decide +kernel
theorem d_X4_isWrong_76 : decode b_X4_isWrong 76 = .ok (.aload_n 0, 1) := by decide +kernel
theorem d_X4_isWrong_77 : decode b_X4_isWrong 77 = .ok (.iload_n 3, 1) := by decide +kernel
theorem d_X4_isWrong_78 : decode b_X4_isWrong 78 = .ok (.aload_n 0, 1) := by decide +kernel
theorem d_X4_isWrong_79 : decode b_X4_isWrong 79 = .ok (.aload_n 0, 1) := by decide +kernel
theorem d_X4_isWrong_80 : decode b_X4_isWrong 80 = .ok (.getfield 26, 3) := by decide +kernel
theorem d_X4_isWrong_83 : decode b_X4_isWrong 83 = .ok (.iload_n 3, 1) := by decide +kernel
theorem d_X4_isWrong_84 : decode b_X4_isWrong 84 = .ok (.invokevirtual 103, 3) := by decide +kernel
theorem d_X4_isWrong_87 : decode b_X4_isWrong 87 = .ok (.invokevirtual 107, 3) := by decide +kernel
theorem d_X4_isWrong_90 : decode b_X4_isWrong 90 = .ok (.ifCond .ne 7, 3) := by decide +kernel
theorem d_X4_isWrong_93 : decode b_X4_isWrong 93 = .ok (.iconst 1, 1) := by decide +kernel
theorem d_X4_isWrong_94 : decode b_X4_isWrong 94 = .ok (.goto 4, 3) := by decide +kernel
theorem d_X4_isWrong_97 : decode b_X4_isWrong 97 = .ok (.iconst 0, 1) := by decide +kernel
theorem d_X4_isWrong_98 : decode b_X4_isWrong 98 = .ok (.ireturn, 1) := by decide +kernel
theorem d_X4_definition_0 : decode b_X4_definition 0 = .ok (.aload_n 0, 1) := by decide +kernel
theorem d_X4_definition_1 : decode b_X4_definition 1 = .ok (.getfield 50, 3) := by decide +kernel
theorem d_X4_definition_4 : decode b_X4_definition 4 = .ok (.iload_n 2, 1) := by decide +kernel
theorem d_X4_definition_5 : decode b_X4_definition 5 = .ok (.invokevirtual 110, 3) := by decide +kernel
theorem d_X4_definition_8 : decode b_X4_definition 8 = .ok (.istore_n 3, 1) := by decide +kernel
theorem d_X4_definition_9 : decode b_X4_definition 9 = .ok (.aload_n 0, 1) := by decide +kernel
theorem d_X4_definition_10 : decode b_X4_definition 10 = .ok (.aload_n 0, 1) := by decide +kernel
theorem d_X4_definition_11 : decode b_X4_definition 11 = .ok (.getfield 29, 3) := by decide +kernel
theorem d_X4_definition_14 : decode b_X4_definition 14 = .ok (.iload_n 1, 1) := by decide +kernel
theorem d_X4_definition_15 : decode b_X4_definition 15 = .ok (.aload_n 0, 1) := by decide +kernel
theorem d_X4_definition_16 : decode b_X4_definition 16 = .ok (.getfield 50, 3) := by decide +kernel
theorem d_X4_definition_19 : decode b_X4_definition 19 = .ok (.getfield 113, 3) := by decide +kernel
theorem d_X4_definition_22 : decode b_X4_definition 22 = .ok (.iload_n 3, 1) := by decide +kernel
theorem d_X4_definition_23 : decode b_X4_definition 23 = .ok (.aload_n 0, 1) := by decide +kernel
theorem d_X4_definition_24 : decode b_X4_definition 24 = .ok (.getfield 50, 3) := by decide +kernel
theorem d_X4_definition_27 : decode b_X4_definition 27 = .ok (.getfield 116, 3) := by decide +kernel
theorem d_X4_definition_30 : decode b_X4_definition 30 = .ok (.iload_n 2, 1) := by decide +kernel
theorem d_X4_definition_31 : decode b_X4_definition 31 = .ok (.invokestatic 54, 3) := by decide +kernel
theorem d_X4_definition_34 : decode b_X4_definition 34 = .ok (.iload_n 3, 1) := by decide +kernel
theorem d_X4_definition_35 : decode b_X4_definition 35 = .ok (.isub, 1) := by decide +kernel
theorem d_X4_definition_36 : decode b_X4_definition 36 = .ok (.invokevirtual 62, 3) := by decide +kernel
theorem d_X4_definition_39 : decode b_X4_definition 39 = .ok (.ireturn, 1) := by decide +kernel
theorem d_X4_agrees_0 : decode b_X4_agrees 0 = .ok (.aload_n 0, 1) := by decide +kernel
theorem d_X4_agrees_1 : decode b_X4_agrees 1 = .ok (.getfield 50, 3) := by decide +kernel
theorem d_X4_agrees_4 : decode b_X4_agrees 4 = .ok (.getfield 88, 3) := by decide +kernel
theorem d_X4_agrees_7 : decode b_X4_agrees 7 = .ok (.iload_n 1, 1) := by decide +kernel
theorem d_X4_agrees_8 : decode b_X4_agrees 8 = .ok (.invokestatic 54, 3) := by decide +kernel
theorem d_X4_agrees_11 : decode b_X4_agrees 11 = .ok (.istore_n 3, 1) := by decide +kernel
theorem d_X4_agrees_12 : decode b_X4_agrees 12 = .ok (.aload_n 0, 1) := by decide +kernel
theorem d_X4_agrees_13 : decode b_X4_agrees 13 = .ok (.getfield 50, 3) := by decide +kernel
theorem d_X4_agrees_16 : decode b_X4_agrees 16 = .ok (.getfield 88, 3) := by decide +kernel
theorem d_X4_agrees_19 : decode b_X4_agrees 19 = .ok (.iload_n 2, 1) := by decide +kernel
theorem d_X4_agrees_20 : decode b_X4_agrees 20 = .ok (.invokestatic 54, 3) := by decide +kernel
theorem d_X4_agrees_23 : decode b_X4_agrees 23 = .ok (.istore 4, 2) := by decide +kernel
theorem d_X4_agrees_25 : decode b_X4_agrees 25 = .ok (.aload_n 0, 1) := by decide +kernel
theorem d_X4_agrees_26 : decode b_X4_agrees 26 = .ok (.getfield 50, 3) := by decide +kernel
theorem d_X4_agrees_29 : decode b_X4_agrees 29 = .ok (.iload_n 1, 1) := by decide +kernel
theorem d_X4_agrees_30 : decode b_X4_agrees 30 = .ok (.iconst 1, 1) := by decide +kernel
theorem d_X4_agrees_31 : decode b_X4_agrees 31 = .ok (.invokevirtual 81, 3) := by decide +kernel
theorem d_X4_agrees_34 : decode b_X4_agrees 34 = .ok (.istore 5, 2) := by decide +kernel
theorem d_X4_agrees_36 : decode b_X4_agrees 36 = .ok (.iload 5, 2) := by decide +kernel
theorem d_X4_agrees_38 : decode b_X4_agrees 38 = .ok (.ifCond .ne 16, 3) := by decide +kernel
theorem d_X4_agrees_41 : decode b_X4_agrees 41 = .ok (.iload_n 3, 1) := by decide +kernel
theorem d_X4_agrees_42 : decode b_X4_agrees 42 = .ok (.ifCond .ne 12, 3) := by decide +kernel
theorem d_X4_agrees_45 : decode b_X4_agrees 45 = .ok (.iload 4, 2) := by decide +kernel
theorem d_X4_agrees_47 : decode b_X4_agrees 47 = .ok (.ifCond .le 7, 3) := by decide +kernel
theorem d_X4_agrees_50 : decode b_X4_agrees 50 = .ok (.iconst 1, 1) := by decide +kernel
theorem d_X4_agrees_51 : decode b_X4_agrees 51 = .ok (.goto 4, 3) := by decide +kernel
theorem d_X4_agrees_54 : decode b_X4_agrees 54 = .ok (.iconst 0, 1) := by decide +kernel
theorem d_X4_agrees_55 : decode b_X4_agrees 55 = .ok (.istore 6, 2) := by decide +kernel
theorem d_X4_agrees_57 : decode b_X4_agrees 57 = .ok (.iload_n 2, 1) := by decide +kernel
theorem d_X4_agrees_58 : decode b_X4_agrees 58 = .ok (.ifCond .lt 53, 3) := by decide +kernel
theorem d_X4_agrees_61 : decode b_X4_agrees 61 = .ok (.iload 5, 2) := by decide +kernel
theorem d_X4_agrees_63 : decode b_X4_agrees 63 = .ok (.aload_n 0, 1) := by decide +kernel
theorem d_X4_agrees_64 : decode b_X4_agrees 64 = .ok (.getfield 50, 3) := by decide +kernel
theorem d_X4_agrees_67 : decode b_X4_agrees 67 = .ok (.iload_n 2, 1) := by decide +kernel
theorem d_X4_agrees_68 : decode b_X4_agrees 68 = .ok (.iconst 1, 1) := by decide +kernel
theorem d_X4_agrees_69 : decode b_X4_agrees 69 = .ok (.invokevirtual 81, 3) := by decide +kernel
theorem d_X4_agrees_72 : decode b_X4_agrees 72 = .ok (.if_icmp .ne 43, 3) := by decide +kernel
theorem d_X4_agrees_75 : decode b_X4_agrees 75 = .ok (.aload_n 0, 1) := by decide +kernel
theorem d_X4_agrees_76 : decode b_X4_agrees 76 = .ok (.getfield 50, 3) := by decide +kernel
theorem d_X4_agrees_79 : decode b_X4_agrees 79 = .ok (.getfield 85, 3) := by decide +kernel
theorem d_X4_agrees_82 : decode b_X4_agrees 82 = .ok (.iload_n 1, 1) := by decide +kernel
theorem d_X4_agrees_83 : decode b_X4_agrees 83 = .ok (.invokestatic 54, 3) := by decide +kernel
theorem d_X4_agrees_86 : decode b_X4_agrees 86 = .ok (.aload_n 0, 1) := by decide +kernel
theorem d_X4_agrees_87 : decode b_X4_agrees 87 = .ok (.getfield 50, 3) := by decide +kernel
theorem d_X4_agrees_90 : decode b_X4_agrees 90 = .ok (.getfield 85, 3) := by decide +kernel
theorem d_X4_agrees_93 : decode b_X4_agrees 93 = .ok (.iload_n 2, 1) := by decide +kernel
theorem d_X4_agrees_94 : decode b_X4_agrees 94 = .ok (.invokestatic 54, 3) := by decide +kernel
theorem d_X4_agrees_97 : decode b_X4_agrees 97 = .ok (.if_icmp .ne 18, 3) := by decide +kernel
theorem d_X4_agrees_100 : decode b_X4_agrees 100 = .ok (.iload_n 3, 1) := by decide +kernel
theorem d_X4_agrees_101 : decode b_X4_agrees 101 = .ok (.iload 4, 2) := by decide +kernel
theorem d_X4_agrees_103 : decode b_X4_agrees 103 = .ok (.if_icmp .eq 8, 3) := by decide +kernel
theorem d_X4_agrees_106 : decode b_X4_agrees 106 = .ok (.iload 6, 2) := by decide +kernel
theorem d_X4_agrees_108 : decode b_X4_agrees 108 = .ok (.ifCond .eq 7, 3) := by decide +kernel
theorem d_X4_agrees_111 : decode b_X4_agrees 111 = .ok (.iconst 1, 1) := by decide +kernel
theorem d_X4_agrees_112 : decode b_X4_agrees 112 = .ok (.goto 4, 3) := by decide +kernel
theorem d_X4_agrees_115 : decode b_X4_agrees 115 = .ok (.iconst 0, 1) := by decide +kernel
theorem d_X4_agrees_116 : decode b_X4_agrees 116 = .ok (.ireturn, 1) := by decide +kernel
theorem d_X4_isMain_0 : decode b_X4_isMain 0 = .ok (.iload_n 1, 1) := by decide +kernel
theorem d_X4_isMain_1 : decode b_X4_isMain 1 = .ok (.ifCond .lt 47, 3) := by decide +kernel
theorem d_X4_isMain_4 : decode b_X4_isMain 4 = .ok (.aload_n 0, 1) := by decide +kernel
theorem d_X4_isMain_5 : decode b_X4_isMain 5 = .ok (.getfield 50, 3) := by decide +kernel
theorem d_X4_isMain_8 : decode b_X4_isMain 8 = .ok (.iload_n 1, 1) := by decide +kernel
theorem d_X4_isMain_9 : decode b_X4_isMain 9 = .ok (.iconst 1, 1) := by decide +kernel
theorem d_X4_isMain_10 : decode b_X4_isMain 10 = .ok (.invokevirtual 81, 3) := by decide +kernel
theorem d_X4_isMain_13 : decode b_X4_isMain 13 = .ok (.ifCond .eq 35, 3) := by decide +kernel
theorem d_X4_isMain_16 : decode b_X4_isMain 16 = .ok (.aload_n 0, 1) := by decide +kernel
theorem d_X4_isMain_17 : decode b_X4_isMain 17 = .ok (.getfield 50, 3) := by decide +kernel
theorem d_X4_isMain_20 : decode b_X4_isMain 20 = .ok (.getfield 85, 3) := by decide +kernel
theorem d_X4_isMain_23 : decode b_X4_isMain 23 = .ok (.iload_n 1, 1) := by decide +kernel
theorem d_X4_isMain_24 : decode b_X4_isMain 24 = .ok (.invokestatic 54, 3) := by decide +kernel
theorem d_X4_isMain_27 : decode b_X4_isMain 27 = .ok (.ifCond .ne 21, 3) := by decide +kernel
theorem d_X4_isMain_30 : decode b_X4_isMain 30 = .ok (.aload_n 0, 1) := by decide +kernel
theorem d_X4_isMain_31 : decode b_X4_isMain 31 = .ok (.getfield 50, 3) := by decide +kernel
theorem d_X4_isMain_34 : decode b_X4_isMain 34 = .ok (.getfield 88, 3) := by decide +kernel
theorem d_X4_isMain_37 : decode b_X4_isMain 37 = .ok (.iload_n 1, 1) := by decide +kernel
theorem d_X4_isMain_38 : decode b_X4_isMain 38 = .ok (.invokestatic 54, 3) := by decide +kernel
theorem d_X4_isMain_41 : decode b_X4_isMain 41 = .ok (.ifCond .ne 7, 3) := by decide +kernel
theorem d_X4_isMain_44 : decode b_X4_isMain 44 = .ok (.iconst 1, 1) := by decide +kernel
theorem d_X4_isMain_45 : decode b_X4_isMain 45 = .ok (.goto 4, 3) := by decide +kernel
theorem d_X4_isMain_48 : decode b_X4_isMain 48 = .ok (.iconst 0, 1) := by decide +kernel
theorem d_X4_isMain_49 : decode b_X4_isMain 49 = .ok (.ireturn, 1) := by decide +kernel
theorem d_X4_dataCells_0 : decode b_X4_dataCells 0 = .ok (.iconst 0, 1) := by decide +kernel
theorem d_X4_dataCells_1 : decode b_X4_dataCells 1 = .ok (.istore_n 1, 1) := by decide +kernel
theorem d_X4_dataCells_2 : decode b_X4_dataCells 2 = .ok (.iconst 1, 1) := by decide +kernel
theorem d_X4_dataCells_3 : decode b_X4_dataCells 3 = .ok (.istore_n 2, 1) := by decide +kernel
theorem d_X4_dataCells_4 : decode b_X4_dataCells 4 = .ok (.iload_n 2, 1) := by decide +kernel
theorem d_X4_dataCells_5 : decode b_X4_dataCells 5 = .ok (.aload_n 0, 1) := by decide +kernel
theorem d_X4_dataCells_6 : decode b_X4_dataCells 6 = .ok (.getfield 26, 3) := by decide +kernel
theorem d_X4_dataCells_9 : decode b_X4_dataCells 9 = .ok (.if_icmp .ge 30, 3) := by decide +kernel
theorem d_X4_dataCells_12 : decode b_X4_dataCells 12 = .ok (.iload_n 1, 1) := by decide +kernel
theorem d_X4_dataCells_13 : decode b_X4_dataCells 13 = .ok (.aload_n 0, 1) := by decide +kernel
theorem d_X4_dataCells_14 : decode b_X4_dataCells 14 = .ok (.getfield 50, 3) := by decide +kernel
theorem d_X4_dataCells_17 : decode b_X4_dataCells 17 = .ok (.getfield 91, 3) := by decide +kernel
theorem d_X4_dataCells_20 : decode b_X4_dataCells 20 = .ok (.aload_n 0, 1) := by decide +kernel
theorem d_X4_dataCells_21 : decode b_X4_dataCells 21 = .ok (.getfield 29, 3) := by decide +kernel
theorem d_X4_dataCells_24 : decode b_X4_dataCells 24 = .ok (.iload_n 2, 1) := by decide +kernel
theorem d_X4_dataCells_25 : decode b_X4_dataCells 25 = .ok (.invokestatic 54, 3) := by decide +kernel
theorem d_X4_dataCells_28 : decode b_X4_dataCells 28 = .ok (.invokestatic 54, 3) := by decide +kernel
theorem d_X4_dataCells_31 : decode b_X4_dataCells 31 = .ok (.iadd, 1) := by decide +kernel
theorem d_X4_dataCells_32 : decode b_X4_dataCells 32 = .ok (.istore_n 1, 1) := by decide +kernel
theorem d_X4_dataCells_33 : decode b_X4_dataCells 33 = .ok (.iinc 2 1, 3) := by decide +kernel
theorem d_X4_dataCells_36 : decode b_X4_dataCells 36 = .ok (.goto (-32), 3) := by decide +kernel
theorem d_X4_dataCells_39 : decode b_X4_dataCells 39 = .ok (.iload_n 1, 1) := by decide +kernel
theorem d_X4_dataCells_40 : decode b_X4_dataCells 40 = .ok (.ireturn, 1) := by decide +kernel
theorem d_X4_settle_0 : decode b_X4_settle 0 = .ok (.aload_n 0, 1) := by decide +kernel
theorem d_X4_settle_1 : decode b_X4_settle 1 = .ok (.aload_n 0, 1) := by decide +kernel
theorem d_X4_settle_2 : decode b_X4_settle 2 = .ok (.getfield 26, 3) := by decide +kernel
theorem d_X4_settle_5 : decode b_X4_settle 5 = .ok (.putfield 33, 3) := by decide +kernel
theorem d_X4_settle_8 : decode b_X4_settle 8 = .ok (.bipush 16, 2) := by decide +kernel
theorem d_X4_settle_10 : decode b_X4_settle 10 = .ok (.istore_n 1, 1) := by decide +kernel
theorem d_X4_settle_11 : decode b_X4_settle 11 = .ok (.iconst 0, 1) := by decide +kernel
theorem d_X4_settle_12 : decode b_X4_settle 12 = .ok (.istore_n 2, 1) := by decide +kernel
theorem d_X4_settle_13 : decode b_X4_settle 13 = .ok (.iload_n 2, 1) := by decide +kernel
theorem d_X4_settle_14 : decode b_X4_settle 14 = .ok (.aload_n 0, 1) := by decide +kernel
theorem d_X4_settle_15 : decode b_X4_settle 15 = .ok (.getfield 33, 3) := by decide +kernel
theorem d_X4_settle_18 : decode b_X4_settle 18 = .ok (.if_icmp .ge 133, 3) := by decide +kernel
theorem d_X4_settle_21 : decode b_X4_settle 21 = .ok (.aload_n 0, 1) := by decide +kernel
theorem d_X4_settle_22 : decode b_X4_settle 22 = .ok (.getfield 29, 3) := by decide +kernel
theorem d_X4_settle_25 : decode b_X4_settle 25 = .ok (.iload_n 2, 1) := by decide +kernel
theorem d_X4_settle_26 : decode b_X4_settle 26 = .ok (.invokestatic 54, 3) := by decide +kernel
theorem d_X4_settle_29 : decode b_X4_settle 29 = .ok (.istore_n 3, 1) := by decide +kernel
theorem d_X4_settle_30 : decode b_X4_settle 30 = .ok (.aload_n 0, 1) := by decide +kernel
theorem d_X4_settle_31 : decode b_X4_settle 31 = .ok (.getfield 36, 3) := by decide +kernel
theorem d_X4_settle_34 : decode b_X4_settle 34 = .ok (.iload_n 2, 1) := by decide +kernel
theorem d_X4_settle_35 : decode b_X4_settle 35 = .ok (.iload_n 3, 1) := by decide +kernel
theorem d_X4_settle_36 : decode b_X4_settle 36 = .ok (.invokestatic 58, 3) := by decide +kernel
theorem d_X4_settle_39 : decode b_X4_settle 39 = .ok (.aload_n 0, 1) := by decide +kernel
theorem d_X4_settle_40 : decode b_X4_settle 40 = .ok (.getfield 39, 3) := by decide +kernel
theorem d_X4_settle_43 : decode b_X4_settle 43 = .ok (.iload_n 3, 1) := by decide +kernel
theorem d_X4_settle_44 : decode b_X4_settle 44 = .ok (.iload_n 1, 1) := by decide +kernel
theorem d_X4_settle_45 : decode b_X4_settle 45 = .ok (.invokestatic 58, 3) := by decide +kernel
theorem d_X4_settle_48 : decode b_X4_settle 48 = .ok (.iload_n 1, 1) := by decide +kernel
theorem d_X4_settle_49 : decode b_X4_settle 49 = .ok (.aload_n 0, 1) := by decide +kernel
theorem d_X4_settle_50 : decode b_X4_settle 50 = .ok (.getfield 50, 3) := by decide +kernel
theorem d_X4_settle_53 : decode b_X4_settle 53 = .ok (.getfield 91, 3) := by decide +kernel
theorem d_X4_settle_56 : decode b_X4_settle 56 = .ok (.iload_n 3, 1) := by decide +kernel
theorem d_X4_settle_57 : decode b_X4_settle 57 = .ok (.invokestatic 54, 3) := by decide +kernel
theorem d_X4_settle_60 : decode b_X4_settle 60 = .ok (.iadd, 1) := by decide +kernel
theorem d_X4_settle_61 : decode b_X4_settle 61 = .ok (.istore_n 1, 1) := by decide +kernel
theorem d_X4_settle_62 : decode b_X4_settle 62 = .ok (.aload_n 0, 1) := by decide +kernel
theorem d_X4_settle_63 : decode b_X4_settle 63 = .ok (.getfield 50, 3) := by decide +kernel
theorem d_X4_settle_66 : decode b_X4_settle 66 = .ok (.iload_n 3, 1) := by decide +kernel
theorem d_X4_settle_67 : decode b_X4_settle 67 = .ok (.invokevirtual 93, 3) := by decide +kernel
theorem d_X4_settle_70 : decode b_X4_settle 70 = .ok (.istore 4, 2) := by decide +kernel
theorem d_X4_settle_72 : decode b_X4_settle 72 = .ok (.iload 4, 2) := by decide +kernel
theorem d_X4_settle_74 : decode b_X4_settle 74 = .ok (.aload_n 0, 1) := by decide +kernel
theorem d_X4_settle_75 : decode b_X4_settle 75 = .ok (.getfield 50, 3) := by decide +kernel
theorem d_X4_settle_78 : decode b_X4_settle 78 = .ok (.getfield 96, 3) := by decide +kernel
theorem d_X4_settle_81 : decode b_X4_settle 81 = .ok (.iload_n 3, 1) := by decide +kernel
theorem d_X4_settle_82 : decode b_X4_settle 82 = .ok (.invokestatic 54, 3) := by decide +kernel
theorem d_X4_settle_85 : decode b_X4_settle 85 = .ok (.if_icmp .ge 60, 3) := by decide +kernel
theorem d_X4_settle_88 : decode b_X4_settle 88 = .ok (.aload_n 0, 1) := by decide +kernel
theorem d_X4_settle_89 : decode b_X4_settle 89 = .ok (.getfield 50, 3) := by decide +kernel
theorem d_X4_settle_92 : decode b_X4_settle 92 = .ok (.iload 4, 2) := by decide +kernel
theorem d_X4_settle_94 : decode b_X4_settle 94 = .ok (.iconst 1, 1) := by decide +kernel
theorem d_X4_settle_95 : decode b_X4_settle 95 = .ok (.invokevirtual 81, 3) := by decide +kernel
theorem d_X4_settle_98 : decode b_X4_settle 98 = .ok (.ifCond .eq 7, 3) := by decide +kernel
theorem d_X4_settle_101 : decode b_X4_settle 101 = .ok (.iconst 0, 1) := by decide +kernel
theorem d_X4_settle_102 : decode b_X4_settle 102 = .ok (.goto 11, 3) := by decide +kernel
theorem d_X4_settle_105 : decode b_X4_settle 105 = .ok (.aload_n 0, 1) := by decide +kernel
theorem d_X4_settle_106 : decode b_X4_settle 106 = .ok (.getfield 39, 3) := by decide +kernel
theorem d_X4_settle_109 : decode b_X4_settle 109 = .ok (.iload_n 3, 1) := by decide +kernel
theorem d_X4_settle_110 : decode b_X4_settle 110 = .ok (.invokestatic 54, 3) := by decide +kernel
theorem d_X4_settle_113 : decode b_X4_settle 113 = .ok (.istore 5, 2) := by decide +kernel
theorem d_X4_settle_115 : decode b_X4_settle 115 = .ok (.aload_n 0, 1) := by decide +kernel
theorem d_X4_settle_116 : decode b_X4_settle 116 = .ok (.getfield 44, 3) := by decide +kernel
theorem d_X4_settle_119 : decode b_X4_settle 119 = .ok (.iload 4, 2) := by decide +kernel
theorem d_X4_settle_121 : decode b_X4_settle 121 = .ok (.iload 5, 2) := by decide +kernel
theorem d_X4_settle_123 : decode b_X4_settle 123 = .ok (.aload_n 0, 1) := by decide +kernel
theorem d_X4_settle_124 : decode b_X4_settle 124 = .ok (.getfield 50, 3) := by decide +kernel
theorem d_X4_settle_127 : decode b_X4_settle 127 = .ok (.getfield 123, 3) := by decide +kernel
theorem d_X4_settle_130 : decode b_X4_settle 130 = .ok (.iload 4, 2) := by decide +kernel
theorem d_X4_settle_132 : decode b_X4_settle 132 = .ok (.invokestatic 54, 3) := by decide +kernel
theorem d_X4_settle_135 : decode b_X4_settle 135 = .ok (.iadd, 1) := by decide +kernel
theorem d_X4_settle_136 : decode b_X4_settle 136 = .ok (.invokestatic 58, 3) := by decide +kernel
theorem d_X4_settle_139 : decode b_X4_settle 139 = .ok (.iinc 4 1, 3) := by decide +kernel
theorem d_X4_settle_142 : decode b_X4_settle 142 = .ok (.goto (-70), 3) := by decide +kernel
theorem d_X4_settle_145 : decode b_X4_settle 145 = .ok (.iinc 2 1, 3) := by decide +kernel
theorem d_X4_settle_148 : decode b_X4_settle 148 = .ok (.goto (-135), 3) := by decide +kernel
theorem d_X4_settle_151 : decode b_X4_settle 151 = .ok (.iconst 1, 1) := by decide +kernel
theorem d_X4_settle_152 : decode b_X4_settle 152 = .ok (.istore_n 2, 1) := by decide +kernel
theorem d_X4_settle_153 : decode b_X4_settle 153 = .ok (.iload_n 2, 1) := by decide +kernel
theorem d_X4_settle_154 : decode b_X4_settle 154 = .ok (.aload_n 0, 1) := by decide +kernel
theorem d_X4_settle_155 : decode b_X4_settle 155 = .ok (.getfield 33, 3) := by decide +kernel
theorem d_X4_settle_158 : decode b_X4_settle 158 = .ok (.if_icmp .ge 21, 3) := by decide +kernel
theorem d_X4_settle_161 : decode b_X4_settle 161 = .ok (.aload_n 0, 1) := by decide +kernel
theorem d_X4_settle_162 : decode b_X4_settle 162 = .ok (.aload_n 0, 1) := by decide +kernel
theorem d_X4_settle_163 : decode b_X4_settle 163 = .ok (.getfield 36, 3) := by decide +kernel
theorem d_X4_settle_166 : decode b_X4_settle 166 = .ok (.iload_n 2, 1) := by decide +kernel
theorem d_X4_settle_167 : decode b_X4_settle 167 = .ok (.invokestatic 54, 3) := by decide +kernel
theorem d_X4_settle_170 : decode b_X4_settle 170 = .ok (.invokevirtual 126, 3) := by decide +kernel
theorem d_X4_settle_173 : decode b_X4_settle 173 = .ok (.iinc 2 1, 3) := by decide +kernel
theorem d_X4_settle_176 : decode b_X4_settle 176 = .ok (.goto (-23), 3) := by decide +kernel
theorem d_X4_settle_179 : decode b_X4_settle 179 = .ok (.return_, 1) := by decide +kernel
theorem d_X4_refer_0 : decode b_X4_refer 0 = .ok (.aload_n 0, 1) := by decide +kernel
theorem d_X4_refer_1 : decode b_X4_refer 1 = .ok (.getfield 50, 3) := by decide +kernel
theorem d_X4_refer_4 : decode b_X4_refer 4 = .ok (.iload_n 1, 1) := by decide +kernel
theorem d_X4_refer_5 : decode b_X4_refer 5 = .ok (.invokevirtual 93, 3) := by decide +kernel
theorem d_X4_refer_8 : decode b_X4_refer 8 = .ok (.istore_n 2, 1) := by decide +kernel
theorem d_X4_refer_9 : decode b_X4_refer 9 = .ok (.iload_n 2, 1) := by decide +kernel
theorem d_X4_refer_10 : decode b_X4_refer 10 = .ok (.aload_n 0, 1) := by decide +kernel
theorem d_X4_refer_11 : decode b_X4_refer 11 = .ok (.getfield 50, 3) := by decide +kernel
theorem d_X4_refer_14 : decode b_X4_refer 14 = .ok (.getfield 96, 3) := by decide +kernel
theorem d_X4_refer_17 : decode b_X4_refer 17 = .ok (.iload_n 1, 1) := by decide +kernel
theorem d_X4_refer_18 : decode b_X4_refer 18 = .ok (.invokestatic 54, 3) := by decide +kernel
theorem d_X4_refer_21 : decode b_X4_refer 21 = .ok (.if_icmp .ge 45, 3) := by decide +kernel
theorem d_X4_refer_24 : decode b_X4_refer 24 = .ok (.aload_n 0, 1) := by decide +kernel
theorem d_X4_refer_25 : decode b_X4_refer 25 = .ok (.getfield 50, 3) := by decide +kernel
theorem d_X4_refer_28 : decode b_X4_refer 28 = .ok (.iload_n 2, 1) := by decide +kernel
theorem d_X4_refer_29 : decode b_X4_refer 29 = .ok (.iconst 4, 1) := by decide +kernel
theorem d_X4_refer_30 : decode b_X4_refer 30 = .ok (.invokevirtual 81, 3) := by decide +kernel
theorem d_X4_refer_33 : decode b_X4_refer 33 = .ok (.ifCond .ne 27, 3) := by decide +kernel
theorem d_X4_refer_36 : decode b_X4_refer 36 = .ok (.aload_n 0, 1) := by decide +kernel
theorem d_X4_refer_37 : decode b_X4_refer 37 = .ok (.getfield 44, 3) := by decide +kernel
theorem d_X4_refer_40 : decode b_X4_refer 40 = .ok (.iload_n 2, 1) := by decide +kernel
theorem d_X4_refer_41 : decode b_X4_refer 41 = .ok (.aload_n 0, 1) := by decide +kernel
theorem d_X4_refer_42 : decode b_X4_refer 42 = .ok (.getfield 44, 3) := by decide +kernel
theorem d_X4_refer_45 : decode b_X4_refer 45 = .ok (.aload_n 0, 1) := by decide +kernel
theorem d_X4_refer_46 : decode b_X4_refer 46 = .ok (.aload_n 0, 1) := by decide +kernel
theorem d_X4_refer_47 : decode b_X4_refer 47 = .ok (.getfield 33, 3) := by decide +kernel
theorem d_X4_refer_50 : decode b_X4_refer 50 = .ok (.iload_n 2, 1) := by decide +kernel
theorem d_X4_refer_51 : decode b_X4_refer 51 = .ok (.invokevirtual 103, 3) := by decide +kernel
theorem d_X4_refer_54 : decode b_X4_refer 54 = .ok (.invokestatic 54, 3) := by decide +kernel
theorem d_X4_refer_57 : decode b_X4_refer 57 = .ok (.invokestatic 58, 3) := by decide +kernel
theorem d_X4_refer_60 : decode b_X4_refer 60 = .ok (.iinc 2 1, 3) := by decide +kernel
theorem d_X4_refer_63 : decode b_X4_refer 63 = .ok (.goto (-54), 3) := by decide +kernel
theorem d_X4_refer_66 : decode b_X4_refer 66 = .ok (.return_, 1) := by decide +kernel
theorem d_X9_give_0 : decode b_X9_give 0 = .ok (.aload_n 0, 1) := by decide +kernel
theorem d_X9_give_1 : decode b_X9_give 1 = .ok (.getfield 7, 3) := by decide +kernel
theorem d_X9_give_4 : decode b_X9_give 4 = .ok (.sipush 4096, 3) := by decide +kernel
theorem d_X9_give_7 : decode b_X9_give 7 = .ok (.if_icmp .ge 15, 3) := by decide +kernel
theorem d_X9_give_10 : decode b_X9_give 10 = .ok (.aload_n 0, 1) := by decide +kernel
theorem d_X9_give_11 : decode b_X9_give 11 = .ok (.getfield 7, 3) := by decide +kernel
theorem d_X9_give_14 : decode b_X9_give 14 = .ok (.aload_n 0, 1) := by decide +kernel
theorem d_X9_give_15 : decode b_X9_give 15 = .ok (.getfield 19, 3) := by decide +kernel
theorem d_X9_give_18 : decode b_X9_give 18 = .ok (.arraylength, 1) := by decide +kernel
theorem d_X9_give_19 : decode b_X9_give 19 = .ok (.if_icmp .lt 5, 3) := by decide +kernel
theorem d_X9_give_22 : decode b_X9_give 22 = .ok (.iconst (-1), 1) := by decide +kernel
theorem d_X9_give_23 : decode b_X9_give 23 = .ok (.ireturn, 1) := by decide +kernel
theorem d_X9_give_24 : decode b_X9_give 24 = .ok (.aload_n 0, 1) := by decide +kernel
theorem d_X9_give_25 : decode b_X9_give 25 = .ok (.getfield 19, 3) := by decide +kernel
theorem d_X9_give_28 : decode b_X9_give 28 = .ok (.aload_n 0, 1) := by decide +kernel
theorem d_X9_give_29 : decode b_X9_give 29 = .ok (.getfield 7, 3) := by decide +kernel
theorem d_X9_give_32 : decode b_X9_give 32 = .ok (.iload_n 1, 1) := by decide +kernel
theorem d_X9_give_33 : decode b_X9_give 33 = .ok (.i2b, 1) := by decide +kernel
theorem d_X9_give_34 : decode b_X9_give 34 = .ok (.bastore, 1) := by decide +kernel
theorem d_X9_give_35 : decode b_X9_give 35 = .ok (.aload_n 0, 1) := by decide +kernel
theorem d_X9_give_36 : decode b_X9_give 36 = .ok (.dup, 1) := by decide +kernel
theorem d_X9_give_37 : decode b_X9_give 37 = .ok (.getfield 7, 3) := by decide +kernel
theorem d_X9_give_40 : decode b_X9_give 40 = .ok (.iconst 1, 1) := by decide +kernel
theorem d_X9_give_41 : decode b_X9_give 41 = .ok (.iadd, 1) := by decide +kernel
theorem d_X9_give_42 : decode b_X9_give 42 = .ok (.putfield 7, 3) := by decide +kernel
theorem d_X9_give_45 : decode b_X9_give 45 = .ok (.aload_n 0, 1) := by decide +kernel
theorem d_X9_give_46 : decode b_X9_give 46 = .ok (.getfield 7, 3) := by decide +kernel
theorem d_X9_give_49 : decode b_X9_give 49 = .ok (.ireturn, 1) := by decide +kernel
theorem d_X5_begin_0 : decode b_X5_begin 0 = .ok (.aload_n 0, 1) := by decide +kernel
theorem d_X5_begin_1 : decode b_X5_begin 1 = .ok (.getfield 12, 3) := by decide +kernel
theorem d_X5_begin_4 : decode b_X5_begin 4 = .ok (.iconst 0, 1) := by decide +kernel
theorem d_X5_begin_5 : decode b_X5_begin 5 = .ok (.invokestatic 101, 3) := by decide +kernel
theorem d_X5_begin_8 : decode b_X5_begin 8 = .ok (.aload_n 0, 1) := by decide +kernel
theorem d_X5_begin_9 : decode b_X5_begin 9 = .ok (.getfield 39, 3) := by decide +kernel
theorem d_X5_begin_12 : decode b_X5_begin 12 = .ok (.aload_n 0, 1) := by decide +kernel
theorem d_X5_begin_13 : decode b_X5_begin 13 = .ok (.getfield 12, 3) := by decide +kernel
theorem d_X5_begin_16 : decode b_X5_begin 16 = .ok (.invokevirtual 107, 3) := by decide +kernel
theorem d_X5_begin_19 : decode b_X5_begin 19 = .ok (.aload_n 0, 1) := by decide +kernel
theorem d_X5_begin_20 : decode b_X5_begin 20 = .ok (.getfield 50, 3) := by decide +kernel
theorem d_X5_begin_23 : decode b_X5_begin 23 = .ok (.invokevirtual 110, 3) := by decide +kernel
theorem d_X5_begin_26 : decode b_X5_begin 26 = .ok (.aload_n 0, 1) := by decide +kernel
theorem d_X5_begin_27 : decode b_X5_begin 27 = .ok (.iload_n 1, 1) := by decide +kernel
theorem d_X5_begin_28 : decode b_X5_begin 28 = .ok (.putfield 79, 3) := by decide +kernel
theorem d_X5_begin_31 : decode b_X5_begin 31 = .ok (.aload_n 0, 1) := by decide +kernel
theorem d_X5_begin_32 : decode b_X5_begin 32 = .ok (.iconst (-1), 1) := by decide +kernel
theorem d_X5_begin_33 : decode b_X5_begin 33 = .ok (.putfield 87, 3) := by decide +kernel
theorem d_X5_begin_36 : decode b_X5_begin 36 = .ok (.aload_n 0, 1) := by decide +kernel
theorem d_X5_begin_37 : decode b_X5_begin 37 = .ok (.iconst 0, 1) := by decide +kernel
theorem d_X5_begin_38 : decode b_X5_begin 38 = .ok (.putfield 23, 3) := by decide +kernel
theorem d_X5_begin_41 : decode b_X5_begin 41 = .ok (.aload_n 0, 1) := by decide +kernel
theorem d_X5_begin_42 : decode b_X5_begin 42 = .ok (.iconst 0, 1) := by decide +kernel
theorem d_X5_begin_43 : decode b_X5_begin 43 = .ok (.putfield 27, 3) := by decide +kernel
theorem d_X5_begin_46 : decode b_X5_begin 46 = .ok (.aload_n 0, 1) := by decide +kernel
theorem d_X5_begin_47 : decode b_X5_begin 47 = .ok (.iconst (-1), 1) := by decide +kernel
theorem d_X5_begin_48 : decode b_X5_begin 48 = .ok (.putfield 30, 3) := by decide +kernel
theorem d_X5_begin_51 : decode b_X5_begin 51 = .ok (.aload_n 0, 1) := by decide +kernel
theorem d_X5_begin_52 : decode b_X5_begin 52 = .ok (.iconst 0, 1) := by decide +kernel
theorem d_X5_begin_53 : decode b_X5_begin 53 = .ok (.putfield 33, 3) := by decide +kernel
theorem d_X5_begin_56 : decode b_X5_begin 56 = .ok (.aload_n 0, 1) := by decide +kernel
theorem d_X5_begin_57 : decode b_X5_begin 57 = .ok (.iconst 0, 1) := by decide +kernel
theorem d_X5_begin_58 : decode b_X5_begin 58 = .ok (.putfield 112, 3) := by decide +kernel
theorem d_X5_begin_61 : decode b_X5_begin 61 = .ok (.aload_n 0, 1) := by decide +kernel
theorem d_X5_begin_62 : decode b_X5_begin 62 = .ok (.iconst 0, 1) := by decide +kernel
theorem d_X5_begin_63 : decode b_X5_begin 63 = .ok (.putfield 115, 3) := by decide +kernel
theorem d_X5_begin_66 : decode b_X5_begin 66 = .ok (.aload_n 0, 1) := by decide +kernel
theorem d_X5_begin_67 : decode b_X5_begin 67 = .ok (.bipush 8, 2) := by decide +kernel
theorem d_X5_begin_69 : decode b_X5_begin 69 = .ok (.putfield 118, 3) := by decide +kernel
theorem d_X5_begin_72 : decode b_X5_begin 72 = .ok (.aload_n 0, 1) := by decide +kernel
theorem d_X5_begin_73 : decode b_X5_begin 73 = .ok (.bipush 8, 2) := by decide +kernel
theorem d_X5_begin_75 : decode b_X5_begin 75 = .ok (.putfield 121, 3) := by decide +kernel
theorem d_X5_begin_78 : decode b_X5_begin 78 = .ok (.aload_n 0, 1) := by decide +kernel
theorem d_X5_begin_79 : decode b_X5_begin 79 = .ok (.ldc 11, 2) := by decide +kernel
theorem d_X5_begin_81 : decode b_X5_begin 81 = .ok (.putfield 124, 3) := by decide +kernel
theorem d_X5_begin_84 : decode b_X5_begin 84 = .ok (.return_, 1) := by decide +kernel
theorem d_X9_begin_0 : decode b_X9_begin 0 = .ok (.aload_n 0, 1) := by decide +kernel
theorem d_X9_begin_1 : decode b_X9_begin 1 = .ok (.iconst 0, 1) := by decide +kernel
theorem d_X9_begin_2 : decode b_X9_begin 2 = .ok (.putfield 13, 3) := by decide +kernel
theorem d_X9_begin_5 : decode b_X9_begin 5 = .ok (.aload_n 0, 1) := by decide +kernel
theorem d_X9_begin_6 : decode b_X9_begin 6 = .ok (.iconst 0, 1) := by decide +kernel
theorem d_X9_begin_7 : decode b_X9_begin 7 = .ok (.putfield 16, 3) := by decide +kernel
theorem d_X9_begin_10 : decode b_X9_begin 10 = .ok (.return_, 1) := by decide +kernel
theorem d_X5_enter_0 : decode b_X5_enter 0 = .ok (.aload_n 0, 1) := by decide +kernel
theorem d_X5_enter_1 : decode b_X5_enter 1 = .ok (.iload_n 2, 1) := by decide +kernel
theorem d_X5_enter_2 : decode b_X5_enter 2 = .ok (.invokevirtual 200, 3) := by decide +kernel
theorem d_X5_enter_5 : decode b_X5_enter 5 = .ok (.ifCond .ne 4, 3) := by decide +kernel
theorem d_X5_enter_8 : decode b_X5_enter 8 = .ok (.return_, 1) := by decide +kernel
theorem d_X5_enter_9 : decode b_X5_enter 9 = .ok (.aload_n 0, 1) := by decide +kernel
theorem d_X5_enter_10 : decode b_X5_enter 10 = .ok (.getfield 124, 3) := by decide +kernel
theorem d_X5_enter_13 : decode b_X5_enter 13 = .ok (.bipush 32, 2) := by decide +kernel
theorem d_X5_enter_15 : decode b_X5_enter 15 = .ok (.isub, 1) := by decide +kernel
theorem d_X5_enter_16 : decode b_X5_enter 16 = .ok (.aload_n 0, 1) := by decide +kernel
theorem d_X5_enter_17 : decode b_X5_enter 17 = .ok (.getfield 65, 3) := by decide +kernel
theorem d_X5_enter_20 : decode b_X5_enter 20 = .ok (.iload_n 1, 1) := by decide +kernel
theorem d_X5_enter_21 : decode b_X5_enter 21 = .ok (.invokestatic 127, 3) := by decide +kernel
theorem d_X5_enter_24 : decode b_X5_enter 24 = .ok (.isub, 1) := by decide +kernel
theorem d_X5_enter_25 : decode b_X5_enter 25 = .ok (.istore_n 3, 1) := by decide +kernel
theorem d_X5_enter_26 : decode b_X5_enter 26 = .ok (.iload_n 3, 1) := by decide +kernel
theorem d_X5_enter_27 : decode b_X5_enter 27 = .ok (.sipush 24576, 3) := by decide +kernel
theorem d_X5_enter_30 : decode b_X5_enter 30 = .ok (.if_icmp .ge 10, 3) := by decide +kernel
theorem d_X5_enter_33 : decode b_X5_enter 33 = .ok (.aload_n 0, 1) := by decide +kernel
theorem d_X5_enter_34 : decode b_X5_enter 34 = .ok (.iconst 3, 1) := by decide +kernel
theorem d_X5_enter_35 : decode b_X5_enter 35 = .ok (.iload_n 2, 1) := by decide +kernel
theorem d_X5_enter_36 : decode b_X5_enter 36 = .ok (.invokevirtual 173, 3) := by decide +kernel
theorem d_X5_enter_39 : decode b_X5_enter 39 = .ok (.return_, 1) := by decide +kernel
theorem d_X5_enter_40 : decode b_X5_enter 40 = .ok (.aload_n 0, 1) := by decide +kernel
theorem d_X5_enter_41 : decode b_X5_enter 41 = .ok (.getfield 20, 3) := by decide +kernel
theorem d_X5_enter_44 : decode b_X5_enter 44 = .ok (.iconst 3, 1) := by decide +kernel
theorem d_X5_enter_45 : decode b_X5_enter 45 = .ok (.aload_n 0, 1) := by decide +kernel
theorem d_X5_enter_46 : decode b_X5_enter 46 = .ok (.getfield 112, 3) := by decide +kernel
theorem d_X5_enter_49 : decode b_X5_enter 49 = .ok (.imul, 1) := by decide +kernel
theorem d_X5_enter_50 : decode b_X5_enter 50 = .ok (.aload_n 0, 1) := by decide +kernel
theorem d_X5_enter_51 : decode b_X5_enter 51 = .ok (.getfield 115, 3) := by decide +kernel
theorem d_X5_enter_54 : decode b_X5_enter 54 = .ok (.invokestatic 160, 3) := by decide +kernel
theorem d_X5_enter_57 : decode b_X5_enter 57 = .ok (.aload_n 0, 1) := by decide +kernel
theorem d_X5_enter_58 : decode b_X5_enter 58 = .ok (.getfield 20, 3) := by decide +kernel
theorem d_X5_enter_61 : decode b_X5_enter 61 = .ok (.iconst 3, 1) := by decide +kernel
theorem d_X5_enter_62 : decode b_X5_enter 62 = .ok (.aload_n 0, 1) := by decide +kernel
theorem d_X5_enter_63 : decode b_X5_enter 63 = .ok (.getfield 112, 3) := by decide +kernel
theorem d_X5_enter_66 : decode b_X5_enter 66 = .ok (.imul, 1) := by decide +kernel
theorem d_X5_enter_67 : decode b_X5_enter 67 = .ok (.iconst 1, 1) := by decide +kernel
theorem d_X5_enter_68 : decode b_X5_enter 68 = .ok (.iadd, 1) := by decide +kernel
theorem d_X5_enter_69 : decode b_X5_enter 69 = .ok (.aload_n 0, 1) := by decide +kernel
theorem d_X5_enter_70 : decode b_X5_enter 70 = .ok (.getfield 121, 3) := by decide +kernel
theorem d_X5_enter_73 : decode b_X5_enter 73 = .ok (.invokestatic 160, 3) := by decide +kernel
theorem d_X5_enter_76 : decode b_X5_enter 76 = .ok (.aload_n 0, 1) := by decide +kernel
theorem d_X5_enter_77 : decode b_X5_enter 77 = .ok (.getfield 20, 3) := by decide +kernel
theorem d_X5_enter_80 : decode b_X5_enter 80 = .ok (.iconst 3, 1) := by decide +kernel
theorem d_X5_enter_81 : decode b_X5_enter 81 = .ok (.aload_n 0, 1) := by decide +kernel
theorem d_X5_enter_82 : decode b_X5_enter 82 = .ok (.getfield 112, 3) := by decide +kernel
theorem d_X5_enter_85 : decode b_X5_enter 85 = .ok (.imul, 1) := by decide +kernel
theorem d_X5_enter_86 : decode b_X5_enter 86 = .ok (.iconst 2, 1) := by decide +kernel
theorem d_X5_enter_87 : decode b_X5_enter 87 = .ok (.iadd, 1) := by decide +kernel
theorem d_X5_enter_88 : decode b_X5_enter 88 = .ok (.aload_n 0, 1) := by decide +kernel
theorem d_X5_enter_89 : decode b_X5_enter 89 = .ok (.getfield 124, 3) := by decide +kernel
theorem d_X5_enter_92 : decode b_X5_enter 92 = .ok (.invokestatic 160, 3) := by decide +kernel
theorem d_X5_enter_95 : decode b_X5_enter 95 = .ok (.aload_n 0, 1) := by decide +kernel
theorem d_X5_enter_96 : decode b_X5_enter 96 = .ok (.dup, 1) := by decide +kernel
theorem d_X5_enter_97 : decode b_X5_enter 97 = .ok (.getfield 112, 3) := by decide +kernel
theorem d_X5_enter_100 : decode b_X5_enter 100 = .ok (.iconst 1, 1) := by decide +kernel
theorem d_X5_enter_101 : decode b_X5_enter 101 = .ok (.iadd, 1) := by decide +kernel
theorem d_X5_enter_102 : decode b_X5_enter 102 = .ok (.putfield 112, 3) := by decide +kernel
theorem d_X5_enter_105 : decode b_X5_enter 105 = .ok (.aload_n 0, 1) := by decide +kernel
theorem d_X5_enter_106 : decode b_X5_enter 106 = .ok (.aload_n 0, 1) := by decide +kernel
theorem d_X5_enter_107 : decode b_X5_enter 107 = .ok (.getfield 118, 3) := by decide +kernel
theorem d_X5_enter_110 : decode b_X5_enter 110 = .ok (.aload_n 0, 1) := by decide +kernel
theorem d_X5_enter_111 : decode b_X5_enter 111 = .ok (.getfield 65, 3) := by decide +kernel
theorem d_X5_enter_114 : decode b_X5_enter 114 = .ok (.iload_n 1, 1) := by decide +kernel
theorem d_X5_enter_115 : decode b_X5_enter 115 = .ok (.iconst 2, 1) := by decide +kernel
theorem d_X5_enter_116 : decode b_X5_enter 116 = .ok (.iadd, 1) := by decide +kernel
theorem d_X5_enter_117 : decode b_X5_enter 117 = .ok (.invokestatic 127, 3) := by decide +kernel
theorem d_X5_enter_120 : decode b_X5_enter 120 = .ok (.isub, 1) := by decide +kernel
theorem d_X5_enter_121 : decode b_X5_enter 121 = .ok (.putfield 121, 3) := by decide +kernel
theorem d_X5_enter_124 : decode b_X5_enter 124 = .ok (.aload_n 0, 1) := by decide +kernel
theorem d_X5_enter_125 : decode b_X5_enter 125 = .ok (.aload_n 0, 1) := by decide +kernel
theorem d_X5_enter_126 : decode b_X5_enter 126 = .ok (.getfield 121, 3) := by decide +kernel
theorem d_X5_enter_129 : decode b_X5_enter 129 = .ok (.aload_n 0, 1) := by decide +kernel
theorem d_X5_enter_130 : decode b_X5_enter 130 = .ok (.getfield 65, 3) := by decide +kernel
theorem d_X5_enter_133 : decode b_X5_enter 133 = .ok (.iload_n 1, 1) := by decide +kernel
theorem d_X5_enter_134 : decode b_X5_enter 134 = .ok (.iconst 1, 1) := by decide +kernel
theorem d_X5_enter_135 : decode b_X5_enter 135 = .ok (.iadd, 1) := by decide +kernel
theorem d_X5_enter_136 : decode b_X5_enter 136 = .ok (.invokestatic 127, 3) := by decide +kernel
theorem d_X5_enter_139 : decode b_X5_enter 139 = .ok (.iadd, 1) := by decide +kernel
theorem d_X5_enter_140 : decode b_X5_enter 140 = .ok (.putfield 118, 3) := by decide +kernel
theorem d_X5_enter_143 : decode b_X5_enter 143 = .ok (.aload_n 0, 1) := by decide +kernel
theorem d_X5_enter_144 : decode b_X5_enter 144 = .ok (.iload_n 3, 1) := by decide +kernel
theorem d_X5_enter_145 : decode b_X5_enter 145 = .ok (.putfield 124, 3) := by decide +kernel
theorem d_X5_enter_148 : decode b_X5_enter 148 = .ok (.aload_n 0, 1) := by decide +kernel
theorem d_X5_enter_149 : decode b_X5_enter 149 = .ok (.iload_n 1, 1) := by decide +kernel
theorem d_X5_enter_150 : decode b_X5_enter 150 = .ok (.iconst 4, 1) := by decide +kernel
theorem d_X5_enter_151 : decode b_X5_enter 151 = .ok (.iadd, 1) := by decide +kernel
theorem d_X5_enter_152 : decode b_X5_enter 152 = .ok (.putfield 115, 3) := by decide +kernel
theorem d_X5_enter_155 : decode b_X5_enter 155 = .ok (.aload_n 0, 1) := by decide +kernel
theorem d_X5_enter_156 : decode b_X5_enter 156 = .ok (.aload_n 0, 1) := by decide +kernel
theorem d_X5_enter_157 : decode b_X5_enter 157 = .ok (.getfield 65, 3) := by decide +kernel
theorem d_X5_enter_160 : decode b_X5_enter 160 = .ok (.iload_n 1, 1) := by decide +kernel
theorem d_X5_enter_161 : decode b_X5_enter 161 = .ok (.iconst 2, 1) := by decide +kernel
theorem d_X5_enter_162 : decode b_X5_enter 162 = .ok (.iadd, 1) := by decide +kernel
theorem d_X5_enter_163 : decode b_X5_enter 163 = .ok (.invokestatic 127, 3) := by decide +kernel
theorem d_X5_enter_166 : decode b_X5_enter 166 = .ok (.aload_n 0, 1) := by decide +kernel
theorem d_X5_enter_167 : decode b_X5_enter 167 = .ok (.getfield 65, 3) := by decide +kernel
theorem d_X5_enter_170 : decode b_X5_enter 170 = .ok (.iload_n 1, 1) := by decide +kernel
theorem d_X5_enter_171 : decode b_X5_enter 171 = .ok (.iconst 3, 1) := by decide +kernel
theorem d_X5_enter_172 : decode b_X5_enter 172 = .ok (.iadd, 1) := by decide +kernel
theorem d_X5_enter_173 : decode b_X5_enter 173 = .ok (.invokestatic 127, 3) := by decide +kernel
theorem d_X5_enter_176 : decode b_X5_enter 176 = .ok (.invokevirtual 220, 3) := by decide +kernel
theorem d_X5_enter_179 : decode b_X5_enter 179 = .ok (.return_, 1) := by decide +kernel
theorem d_X5_turn_0 : decode b_X5_turn 0 = .ok (.aload_n 0, 1) := by decide +kernel
theorem d_X5_turn_1 : decode b_X5_turn 1 = .ok (.getfield 23, 3) := by decide +kernel
theorem d_X5_turn_4 : decode b_X5_turn 4 = .ok (.aload_n 0, 1) := by decide +kernel
theorem d_X5_turn_5 : decode b_X5_turn 5 = .ok (.getfield 79, 3) := by decide +kernel
theorem d_X5_turn_8 : decode b_X5_turn 8 = .ok (.if_icmp .lt 11, 3) := by decide +kernel
theorem d_X5_turn_11 : decode b_X5_turn 11 = .ok (.aload_n 0, 1) := by decide +kernel
theorem d_X5_turn_12 : decode b_X5_turn 12 = .ok (.iconst 4, 1) := by decide +kernel
theorem d_X5_turn_13 : decode b_X5_turn 13 = .ok (.iload_n 1, 1) := by decide +kernel
theorem d_X5_turn_14 : decode b_X5_turn 14 = .ok (.invokevirtual 173, 3) := by decide +kernel
theorem d_X5_turn_17 : decode b_X5_turn 17 = .ok (.iconst 0, 1) := by decide +kernel
theorem d_X5_turn_18 : decode b_X5_turn 18 = .ok (.ireturn, 1) := by decide +kernel
theorem d_X5_turn_19 : decode b_X5_turn 19 = .ok (.aload_n 0, 1) := by decide +kernel
theorem d_X5_turn_20 : decode b_X5_turn 20 = .ok (.dup, 1) := by decide +kernel
theorem d_X5_turn_21 : decode b_X5_turn 21 = .ok (.getfield 23, 3) := by decide +kernel
theorem d_X5_turn_24 : decode b_X5_turn 24 = .ok (.iconst 1, 1) := by decide +kernel
theorem d_X5_turn_25 : decode b_X5_turn 25 = .ok (.iadd, 1) := by decide +kernel
theorem d_X5_turn_26 : decode b_X5_turn 26 = .ok (.putfield 23, 3) := by decide +kernel
theorem d_X5_turn_29 : decode b_X5_turn 29 = .ok (.iconst 1, 1) := by decide +kernel
theorem d_X5_turn_30 : decode b_X5_turn 30 = .ok (.ireturn, 1) := by decide +kernel
theorem d_X5_fail_0 : decode b_X5_fail 0 = .ok (.aload_n 0, 1) := by decide +kernel
theorem d_X5_fail_1 : decode b_X5_fail 1 = .ok (.iload_n 1, 1) := by decide +kernel
theorem d_X5_fail_2 : decode b_X5_fail 2 = .ok (.putfield 87, 3) := by decide +kernel
theorem d_X5_fail_5 : decode b_X5_fail 5 = .ok (.aload_n 0, 1) := by decide +kernel
theorem d_X5_fail_6 : decode b_X5_fail 6 = .ok (.aload_n 0, 1) := by decide +kernel
theorem d_X5_fail_7 : decode b_X5_fail 7 = .ok (.getfield 115, 3) := by decide +kernel
theorem d_X5_fail_10 : decode b_X5_fail 10 = .ok (.iconst 1, 1) := by decide +kernel
theorem d_X5_fail_11 : decode b_X5_fail 11 = .ok (.isub, 1) := by decide +kernel
theorem d_X5_fail_12 : decode b_X5_fail 12 = .ok (.putfield 30, 3) := by decide +kernel
theorem d_X5_fail_15 : decode b_X5_fail 15 = .ok (.aload_n 0, 1) := by decide +kernel
theorem d_X5_fail_16 : decode b_X5_fail 16 = .ok (.iload_n 2, 1) := by decide +kernel
theorem d_X5_fail_17 : decode b_X5_fail 17 = .ok (.putfield 33, 3) := by decide +kernel
theorem d_X5_fail_20 : decode b_X5_fail 20 = .ok (.return_, 1) := by decide +kernel
theorem d_X5_copyParameters_0 : decode b_X5_copyParameters 0 = .ok (.aload_n 0, 1) := by decide +kernel
theorem d_X5_copyParameters_1 : decode b_X5_copyParameters 1 = .ok (.getfield 124, 3) := by decide +kernel
theorem d_X5_copyParameters_4 : decode b_X5_copyParameters 4 = .ok (.istore_n 3, 1) := by decide +kernel
theorem d_X5_copyParameters_5 : decode b_X5_copyParameters 5 = .ok (.iconst 0, 1) := by decide +kernel
theorem d_X5_copyParameters_6 : decode b_X5_copyParameters 6 = .ok (.istore 4, 2) := by decide +kernel
theorem d_X5_copyParameters_8 : decode b_X5_copyParameters 8 = .ok (.iload 4, 2) := by decide +kernel
theorem d_X5_copyParameters_10 : decode b_X5_copyParameters 10 = .ok (.iload_n 1, 1) := by decide +kernel
theorem d_X5_copyParameters_11 : decode b_X5_copyParameters 11 = .ok (.if_icmp .ge 43, 3) := by decide +kernel
theorem d_X5_copyParameters_14 : decode b_X5_copyParameters 14 = .ok (.iload_n 2, 1) := by decide +kernel
theorem d_X5_copyParameters_15 : decode b_X5_copyParameters 15 = .ok (.iload 4, 2) := by decide +kernel
theorem d_X5_copyParameters_17 : decode b_X5_copyParameters 17 = .ok (.ishr, 1) := by decide +kernel
theorem d_X5_copyParameters_18 : decode b_X5_copyParameters 18 = .ok (.iconst 1, 1) := by decide +kernel
theorem d_X5_copyParameters_19 : decode b_X5_copyParameters 19 = .ok (.iand, 1) := by decide +kernel
theorem d_X5_copyParameters_20 : decode b_X5_copyParameters 20 = .ok (.ifCond .eq 28, 3) := by decide +kernel
theorem d_X5_copyParameters_23 : decode b_X5_copyParameters 23 = .ok (.aload_n 0, 1) := by decide +kernel
theorem d_X5_copyParameters_24 : decode b_X5_copyParameters 24 = .ok (.getfield 12, 3) := by decide +kernel
theorem d_X5_copyParameters_27 : decode b_X5_copyParameters 27 = .ok (.iload_n 3, 1) := by decide +kernel
theorem d_X5_copyParameters_28 : decode b_X5_copyParameters 28 = .ok (.aload_n 0, 1) := by decide +kernel
theorem d_X5_copyParameters_29 : decode b_X5_copyParameters 29 = .ok (.getfield 17, 3) := by decide +kernel
theorem d_X5_copyParameters_32 : decode b_X5_copyParameters 32 = .ok (.aload_n 0, 1) := by decide +kernel
theorem d_X5_copyParameters_33 : decode b_X5_copyParameters 33 = .ok (.getfield 121, 3) := by decide +kernel
theorem d_X5_copyParameters_36 : decode b_X5_copyParameters 36 = .ok (.iload 4, 2) := by decide +kernel
theorem d_X5_copyParameters_38 : decode b_X5_copyParameters 38 = .ok (.iadd, 1) := by decide +kernel
theorem d_X5_copyParameters_39 : decode b_X5_copyParameters 39 = .ok (.invokestatic 127, 3) := by decide +kernel
theorem d_X5_copyParameters_42 : decode b_X5_copyParameters 42 = .ok (.invokestatic 160, 3) := by decide +kernel
theorem d_X5_copyParameters_45 : decode b_X5_copyParameters 45 = .ok (.iinc 3 1, 3) := by decide +kernel
theorem d_X5_copyParameters_48 : decode b_X5_copyParameters 48 = .ok (.iinc 4 1, 3) := by decide +kernel
theorem d_X5_copyParameters_51 : decode b_X5_copyParameters 51 = .ok (.goto (-43), 3) := by decide +kernel
theorem d_X5_copyParameters_54 : decode b_X5_copyParameters 54 = .ok (.return_, 1) := by decide +kernel
theorem d_X5_step_0 : decode b_X5_step 0 = .ok (.aload_n 0, 1) := by decide +kernel
theorem d_X5_step_1 : decode b_X5_step 1 = .ok (.getfield 115, 3) := by decide +kernel
theorem d_X5_step_4 : decode b_X5_step 4 = .ok (.istore_n 1, 1) := by decide +kernel
theorem d_X5_step_5 : decode b_X5_step 5 = .ok (.aload_n 0, 1) := by decide +kernel
theorem d_X5_step_6 : decode b_X5_step 6 = .ok (.getfield 65, 3) := by decide +kernel
theorem d_X5_step_9 : decode b_X5_step 9 = .ok (.iload_n 1, 1) := by decide +kernel
theorem d_X5_step_10 : decode b_X5_step 10 = .ok (.invokestatic 127, 3) := by decide +kernel
theorem d_X5_step_13 : decode b_X5_step 13 = .ok (.istore_n 2, 1) := by decide +kernel
theorem d_X5_step_14 : decode b_X5_step 14 = .ok (.getstatic 131, 3) := by decide +kernel
theorem d_X5_step_17 : decode b_X5_step 17 = .ok (.iload_n 2, 1) := by decide +kernel
theorem d_X5_step_18 : decode b_X5_step 18 = .ok (.invokestatic 127, 3) := by decide +kernel
theorem d_X5_step_21 : decode b_X5_step 21 = .ok (.istore_n 3, 1) := by decide +kernel
theorem d_X5_step_22 : decode b_X5_step 22 = .ok (.iload_n 3, 1) := by decide +kernel
theorem d_X5_step_23 : decode b_X5_step 23 = .ok (.ifCond .eq 27, 3) := by decide +kernel
theorem d_X5_step_26 : decode b_X5_step 26 = .ok (.aload_n 0, 1) := by decide +kernel
theorem d_X5_step_27 : decode b_X5_step 27 = .ok (.getfield 118, 3) := by decide +kernel
theorem d_X5_step_30 : decode b_X5_step 30 = .ok (.bipush 8, 2) := by decide +kernel
theorem d_X5_step_32 : decode b_X5_step 32 = .ok (.if_icmp .lt 18, 3) := by decide +kernel
theorem d_X5_step_35 : decode b_X5_step 35 = .ok (.aload_n 0, 1) := by decide +kernel
theorem d_X5_step_36 : decode b_X5_step 36 = .ok (.getfield 118, 3) := by decide +kernel
theorem d_X5_step_39 : decode b_X5_step 39 = .ok (.aload_n 0, 1) := by decide +kernel
theorem d_X5_step_40 : decode b_X5_step 40 = .ok (.getfield 17, 3) := by decide +kernel
theorem d_X5_step_43 : decode b_X5_step 43 = .ok (.arraylength, 1) := by decide +kernel
theorem d_X5_step_44 : decode b_X5_step 44 = .ok (.bipush 8, 2) := by decide +kernel
theorem d_X5_step_46 : decode b_X5_step 46 = .ok (.isub, 1) := by decide +kernel
theorem d_X5_step_47 : decode b_X5_step 47 = .ok (.if_icmp .lt 8, 3) := by decide +kernel
theorem d_X5_step_50 : decode b_X5_step 50 = .ok (.aload_n 0, 1) := by decide +kernel
theorem d_X5_step_51 : decode b_X5_step 51 = .ok (.invokevirtual 93, 3) := by decide +kernel
theorem d_X5_step_54 : decode b_X5_step 54 = .ok (.return_, 1) := by decide +kernel
theorem d_X5_step_55 : decode b_X5_step 55 = .ok (.aload_n 0, 1) := by decide +kernel
theorem d_X5_step_56 : decode b_X5_step 56 = .ok (.iload_n 1, 1) := by decide +kernel
theorem d_X5_step_57 : decode b_X5_step 57 = .ok (.iload_n 3, 1) := by decide +kernel
theorem d_X5_step_58 : decode b_X5_step 58 = .ok (.iadd, 1) := by decide +kernel
theorem d_X5_step_59 : decode b_X5_step 59 = .ok (.putfield 115, 3) := by decide +kernel
theorem d_X5_step_62 : decode b_X5_step 62 = .ok (.iload_n 2, 1) := by decide +kernel
theorem d_X5_step_63 : decode b_X5_step 63 = .ok (.bipush 41, 2) := by decide +kernel
theorem d_X5_step_65 : decode b_X5_step 65 = .ok (.if_icmp .lt 12, 3) := by decide +kernel
theorem d_X5_step_77 : decode b_X5_step 77 = .ok (.iload_n 2, 1) := by decide +kernel
theorem d_X5_step_78 : decode b_X5_step 78 = .ok (.bipush 26, 2) := by decide +kernel
theorem d_X5_step_80 : decode b_X5_step 80 = .ok (.if_icmp .lt 12, 3) := by decide +kernel
theorem d_X5_step_83 : decode b_X5_step 83 = .ok (.aload_n 0, 1) := by decide +kernel
theorem d_X5_step_84 : decode b_X5_step 84 = .ok (.iload_n 2, 1) := by decide +kernel
theorem d_X5_step_85 : decode b_X5_step 85 = .ok (.iload_n 1, 1) := by decide +kernel
theorem d_X5_step_86 : decode b_X5_step 86 = .ok (.invokevirtual 137, 3) := by decide +kernel
theorem d_X5_step_92 : decode b_X5_step 92 = .ok (.iload_n 2, 1) := by decide +kernel
theorem d_X5_step_93 : decode b_X5_step 93 = .ok (.bipush 22, 2) := by decide +kernel
theorem d_X5_step_95 : decode b_X5_step 95 = .ok (.if_icmp .lt 18, 3) := by decide +kernel
theorem d_X5_step_98 : decode b_X5_step 98 = .ok (.aload_n 0, 1) := by decide +kernel
theorem d_X5_step_99 : decode b_X5_step 99 = .ok (.iload_n 2, 1) := by decide +kernel
theorem d_X5_step_100 : decode b_X5_step 100 = .ok (.aload_n 0, 1) := by decide +kernel
theorem d_X5_step_101 : decode b_X5_step 101 = .ok (.invokevirtual 140, 3) := by decide +kernel
theorem d_X5_step_104 : decode b_X5_step 104 = .ok (.invokestatic 144, 3) := by decide +kernel
theorem d_X5_step_107 : decode b_X5_step 107 = .ok (.invokevirtual 148, 3) := by decide +kernel
theorem d_X5_step_110 : decode b_X5_step 110 = .ok (.goto 39, 3) := by decide +kernel
theorem d_X5_step_113 : decode b_X5_step 113 = .ok (.iload_n 2, 1) := by decide +kernel
theorem d_X5_step_114 : decode b_X5_step 114 = .ok (.bipush 18, 2) := by decide +kernel
theorem d_X5_step_116 : decode b_X5_step 116 = .ok (.if_icmp .lt 12, 3) := by decide +kernel
theorem d_X5_step_119 : decode b_X5_step 119 = .ok (.aload_n 0, 1) := by decide +kernel
theorem d_X5_step_120 : decode b_X5_step 120 = .ok (.iload_n 2, 1) := by decide +kernel
theorem d_X5_step_121 : decode b_X5_step 121 = .ok (.iload_n 1, 1) := by decide +kernel
theorem d_X5_step_122 : decode b_X5_step 122 = .ok (.invokevirtual 151, 3) := by decide +kernel
theorem d_X5_step_125 : decode b_X5_step 125 = .ok (.goto 24, 3) := by decide +kernel
theorem d_X5_step_128 : decode b_X5_step 128 = .ok (.iload_n 2, 1) := by decide +kernel
theorem d_X5_step_129 : decode b_X5_step 129 = .ok (.bipush 11, 2) := by decide +kernel
theorem d_X5_step_131 : decode b_X5_step 131 = .ok (.if_icmp .lt 12, 3) := by decide +kernel
theorem d_X5_step_134 : decode b_X5_step 134 = .ok (.aload_n 0, 1) := by decide +kernel
theorem d_X5_step_135 : decode b_X5_step 135 = .ok (.iload_n 2, 1) := by decide +kernel
theorem d_X5_step_136 : decode b_X5_step 136 = .ok (.iload_n 1, 1) := by decide +kernel
theorem d_X5_step_137 : decode b_X5_step 137 = .ok (.invokevirtual 154, 3) := by decide +kernel
theorem d_X5_step_140 : decode b_X5_step 140 = .ok (.goto 9, 3) := by decide +kernel
theorem d_X5_step_143 : decode b_X5_step 143 = .ok (.aload_n 0, 1) := by decide +kernel
theorem d_X5_step_144 : decode b_X5_step 144 = .ok (.iload_n 2, 1) := by decide +kernel
theorem d_X5_step_145 : decode b_X5_step 145 = .ok (.iload_n 1, 1) := by decide +kernel
theorem d_X5_step_146 : decode b_X5_step 146 = .ok (.invokevirtual 157, 3) := by decide +kernel
theorem d_X5_step_149 : decode b_X5_step 149 = .ok (.return_, 1) := by decide +kernel
theorem d_X5_stray_0 : decode b_X5_stray 0 = .ok (.aload_n 0, 1) := by decide +kernel
theorem d_X5_stray_1 : decode b_X5_stray 1 = .ok (.dup, 1) := by decide +kernel
theorem d_X5_stray_2 : decode b_X5_stray 2 = .ok (.getfield 36, 3) := by decide +kernel
theorem d_X5_stray_5 : decode b_X5_stray 5 = .ok (.iconst 1, 1) := by decide +kernel
theorem d_X5_stray_6 : decode b_X5_stray 6 = .ok (.iadd, 1) := by decide +kernel
theorem d_X5_stray_7 : decode b_X5_stray 7 = .ok (.putfield 36, 3) := by decide +kernel
theorem d_X5_stray_10 : decode b_X5_stray 10 = .ok (.aload_n 0, 1) := by decide +kernel
theorem d_X5_stray_11 : decode b_X5_stray 11 = .ok (.iconst 0, 1) := by decide +kernel
theorem d_X5_stray_12 : decode b_X5_stray 12 = .ok (.putfield 87, 3) := by decide +kernel
theorem d_X5_stray_15 : decode b_X5_stray 15 = .ok (.return_, 1) := by decide +kernel
theorem d_X5_calculate_0 : decode b_X5_calculate 0 = .ok (.aload_n 0, 1) := by decide +kernel
theorem d_X5_calculate_1 : decode b_X5_calculate 1 = .ok (.invokevirtual 140, 3) := by decide +kernel
theorem d_X5_calculate_4 : decode b_X5_calculate 4 = .ok (.istore_n 3, 1) := by decide +kernel
theorem d_X5_calculate_5 : decode b_X5_calculate 5 = .ok (.aload_n 0, 1) := by decide +kernel
theorem d_X5_calculate_6 : decode b_X5_calculate 6 = .ok (.invokevirtual 140, 3) := by decide +kernel
theorem d_X5_calculate_9 : decode b_X5_calculate 9 = .ok (.istore 4, 2) := by decide +kernel
theorem d_X5_calculate_11 : decode b_X5_calculate 11 = .ok (.iload_n 1, 1) := by decide +kernel
theorem d_X5_calculate_12 : decode b_X5_calculate 12 = .ok (.bipush 46, 2) := by decide +kernel
theorem d_X5_calculate_14 : decode b_X5_calculate 14 = .ok (.if_icmp .eq 9, 3) := by decide +kernel
theorem d_X5_calculate_23 : decode b_X5_calculate 23 = .ok (.iload_n 3, 1) := by decide +kernel
theorem d_X5_calculate_24 : decode b_X5_calculate 24 = .ok (.ifCond .ne 21, 3) := by decide +kernel
theorem d_X5_calculate_45 : decode b_X5_calculate 45 = .ok (.aload_n 0, 1) := by decide +kernel
theorem d_X5_calculate_46 : decode b_X5_calculate 46 = .ok (.iload_n 1, 1) := by decide +kernel
theorem d_X5_calculate_47 : decode b_X5_calculate 47 = .ok (.iload 4, 2) := by decide +kernel
theorem d_X5_calculate_49 : decode b_X5_calculate 49 = .ok (.iload_n 3, 1) := by decide +kernel
theorem d_X5_calculate_50 : decode b_X5_calculate 50 = .ok (.invokestatic 176, 3) := by decide +kernel
theorem d_X5_pop_0 : decode b_X5_pop 0 = .ok (.aload_n 0, 1) := by decide +kernel
theorem d_X5_pop_1 : decode b_X5_pop 1 = .ok (.dup, 1) := by decide +kernel
theorem d_X5_pop_2 : decode b_X5_pop 2 = .ok (.getfield 118, 3) := by decide +kernel
theorem d_X5_pop_5 : decode b_X5_pop 5 = .ok (.iconst 1, 1) := by decide +kernel
theorem d_X5_pop_6 : decode b_X5_pop 6 = .ok (.isub, 1) := by decide +kernel
theorem d_X5_pop_7 : decode b_X5_pop 7 = .ok (.putfield 118, 3) := by decide +kernel
theorem d_X5_pop_10 : decode b_X5_pop 10 = .ok (.aload_n 0, 1) := by decide +kernel
theorem d_X5_pop_11 : decode b_X5_pop 11 = .ok (.getfield 17, 3) := by decide +kernel
theorem d_X5_pop_14 : decode b_X5_pop 14 = .ok (.aload_n 0, 1) := by decide +kernel
theorem d_X5_pop_15 : decode b_X5_pop 15 = .ok (.getfield 118, 3) := by decide +kernel
theorem d_X5_pop_18 : decode b_X5_pop 18 = .ok (.invokestatic 127, 3) := by decide +kernel
theorem d_X5_pop_21 : decode b_X5_pop 21 = .ok (.ireturn, 1) := by decide +kernel
theorem d_X5_push_0 : decode b_X5_push 0 = .ok (.aload_n 0, 1) := by decide +kernel
theorem d_X5_push_1 : decode b_X5_push 1 = .ok (.getfield 17, 3) := by decide +kernel
theorem d_X5_push_4 : decode b_X5_push 4 = .ok (.aload_n 0, 1) := by decide +kernel
theorem d_X5_push_5 : decode b_X5_push 5 = .ok (.getfield 118, 3) := by decide +kernel
theorem d_X5_push_8 : decode b_X5_push 8 = .ok (.iload_n 1, 1) := by decide +kernel
theorem d_X5_push_9 : decode b_X5_push 9 = .ok (.invokestatic 160, 3) := by decide +kernel
theorem d_X5_push_12 : decode b_X5_push 12 = .ok (.aload_n 0, 1) := by decide +kernel
theorem d_X5_push_13 : decode b_X5_push 13 = .ok (.dup, 1) := by decide +kernel
theorem d_X5_push_14 : decode b_X5_push 14 = .ok (.getfield 118, 3) := by decide +kernel
theorem d_X5_push_17 : decode b_X5_push 17 = .ok (.iconst 1, 1) := by decide +kernel
theorem d_X5_push_18 : decode b_X5_push 18 = .ok (.iadd, 1) := by decide +kernel
theorem d_X5_push_19 : decode b_X5_push 19 = .ok (.putfield 118, 3) := by decide +kernel
theorem d_X5_push_22 : decode b_X5_push 22 = .ok (.return_, 1) := by decide +kernel
theorem d_X5_lead_0 : decode b_X5_lead 0 = .ok (.aload_n 0, 1) := by decide +kernel
theorem d_X5_lead_1 : decode b_X5_lead 1 = .ok (.getfield 65, 3) := by decide +kernel
theorem d_X5_lead_4 : decode b_X5_lead 4 = .ok (.iload_n 2, 1) := by decide +kernel
theorem d_X5_lead_5 : decode b_X5_lead 5 = .ok (.iconst 1, 1) := by decide +kernel
theorem d_X5_lead_6 : decode b_X5_lead 6 = .ok (.iadd, 1) := by decide +kernel
theorem d_X5_lead_7 : decode b_X5_lead 7 = .ok (.invokestatic 127, 3) := by decide +kernel
theorem d_X5_lead_10 : decode b_X5_lead 10 = .ok (.istore_n 3, 1) := by decide +kernel
theorem d_X5_lead_11 : decode b_X5_lead 11 = .ok (.iload_n 1, 1) := by decide +kernel
theorem d_X5_lead_12 : decode b_X5_lead 12 = .ok (.tableswitch 152 26 32 #[44, 52, 74, 96, 96, 115, 124], 44) := by decide +kernel
theorem d_X5_lead_56 : decode b_X5_lead 56 = .ok (.aload_n 0, 1) := by decide +kernel
theorem d_X5_lead_57 : decode b_X5_lead 57 = .ok (.iload_n 3, 1) := by decide +kernel
theorem d_X5_lead_58 : decode b_X5_lead 58 = .ok (.putfield 115, 3) := by decide +kernel
theorem d_X5_lead_61 : decode b_X5_lead 61 = .ok (.goto 107, 3) := by decide +kernel
theorem d_X5_lead_64 : decode b_X5_lead 64 = .ok (.aload_n 0, 1) := by decide +kernel
theorem d_X5_lead_65 : decode b_X5_lead 65 = .ok (.aload_n 0, 1) := by decide +kernel
theorem d_X5_lead_66 : decode b_X5_lead 66 = .ok (.invokevirtual 140, 3) := by decide +kernel
theorem d_X5_lead_69 : decode b_X5_lead 69 = .ok (.ifCond .ne 7, 3) := by decide +kernel
theorem d_X5_lead_72 : decode b_X5_lead 72 = .ok (.iload_n 3, 1) := by decide +kernel
theorem d_X5_lead_73 : decode b_X5_lead 73 = .ok (.goto 7, 3) := by decide +kernel
theorem d_X5_lead_76 : decode b_X5_lead 76 = .ok (.aload_n 0, 1) := by decide +kernel
theorem d_X5_lead_77 : decode b_X5_lead 77 = .ok (.getfield 115, 3) := by decide +kernel
theorem d_X5_lead_80 : decode b_X5_lead 80 = .ok (.putfield 115, 3) := by decide +kernel
theorem d_X5_lead_83 : decode b_X5_lead 83 = .ok (.goto 85, 3) := by decide +kernel
theorem d_X5_lead_86 : decode b_X5_lead 86 = .ok (.aload_n 0, 1) := by decide +kernel
theorem d_X5_lead_87 : decode b_X5_lead 87 = .ok (.aload_n 0, 1) := by decide +kernel
theorem d_X5_lead_88 : decode b_X5_lead 88 = .ok (.invokevirtual 140, 3) := by decide +kernel
theorem d_X5_lead_91 : decode b_X5_lead 91 = .ok (.ifCond .eq 7, 3) := by decide +kernel
theorem d_X5_lead_94 : decode b_X5_lead 94 = .ok (.iload_n 3, 1) := by decide +kernel
theorem d_X5_lead_95 : decode b_X5_lead 95 = .ok (.goto 7, 3) := by decide +kernel
theorem d_X5_lead_98 : decode b_X5_lead 98 = .ok (.aload_n 0, 1) := by decide +kernel
theorem d_X5_lead_99 : decode b_X5_lead 99 = .ok (.getfield 115, 3) := by decide +kernel
theorem d_X5_lead_102 : decode b_X5_lead 102 = .ok (.putfield 115, 3) := by decide +kernel
theorem d_X5_lead_105 : decode b_X5_lead 105 = .ok (.goto 63, 3) := by decide +kernel
theorem d_X5_lead_108 : decode b_X5_lead 108 = .ok (.aload_n 0, 1) := by decide +kernel
theorem d_X5_lead_109 : decode b_X5_lead 109 = .ok (.iload_n 1, 1) := by decide +kernel
theorem d_X5_lead_110 : decode b_X5_lead 110 = .ok (.bipush 30, 2) := by decide +kernel
theorem d_X5_lead_112 : decode b_X5_lead 112 = .ok (.if_icmp .ne 7, 3) := by decide +kernel
theorem d_X5_lead_115 : decode b_X5_lead 115 = .ok (.iconst 1, 1) := by decide +kernel
theorem d_X5_lead_116 : decode b_X5_lead 116 = .ok (.goto 4, 3) := by decide +kernel
theorem d_X5_lead_119 : decode b_X5_lead 119 = .ok (.iconst 0, 1) := by decide +kernel
theorem d_X5_lead_120 : decode b_X5_lead 120 = .ok (.iload_n 3, 1) := by decide +kernel
theorem d_X5_lead_121 : decode b_X5_lead 121 = .ok (.invokevirtual 196, 3) := by decide +kernel
theorem d_X5_lead_124 : decode b_X5_lead 124 = .ok (.goto 44, 3) := by decide +kernel
theorem d_X5_lead_127 : decode b_X5_lead 127 = .ok (.aload_n 0, 1) := by decide +kernel
theorem d_X5_lead_128 : decode b_X5_lead 128 = .ok (.iload_n 3, 1) := by decide +kernel
theorem d_X5_lead_129 : decode b_X5_lead 129 = .ok (.invokevirtual 200, 3) := by decide +kernel
theorem d_X5_lead_132 : decode b_X5_lead 132 = .ok (.pop, 1) := by decide +kernel
theorem d_X5_lead_133 : decode b_X5_lead 133 = .ok (.goto 35, 3) := by decide +kernel
theorem d_X5_lead_136 : decode b_X5_lead 136 = .ok (.aload_n 0, 1) := by decide +kernel
theorem d_X5_lead_137 : decode b_X5_lead 137 = .ok (.aload_n 0, 1) := by decide +kernel
theorem d_X5_lead_138 : decode b_X5_lead 138 = .ok (.getfield 39, 3) := by decide +kernel
theorem d_X5_lead_141 : decode b_X5_lead 141 = .ok (.getfield 183, 3) := by decide +kernel
theorem d_X5_lead_144 : decode b_X5_lead 144 = .ok (.iload_n 3, 1) := by decide +kernel
theorem d_X5_lead_145 : decode b_X5_lead 145 = .ok (.invokestatic 127, 3) := by decide +kernel
theorem d_X5_lead_148 : decode b_X5_lead 148 = .ok (.aload_n 0, 1) := by decide +kernel
theorem d_X5_lead_149 : decode b_X5_lead 149 = .ok (.getfield 65, 3) := by decide +kernel
theorem d_X5_lead_152 : decode b_X5_lead 152 = .ok (.iload_n 2, 1) := by decide +kernel
theorem d_X5_lead_153 : decode b_X5_lead 153 = .ok (.iconst 2, 1) := by decide +kernel
theorem d_X5_lead_154 : decode b_X5_lead 154 = .ok (.iadd, 1) := by decide +kernel
theorem d_X5_lead_155 : decode b_X5_lead 155 = .ok (.invokestatic 127, 3) := by decide +kernel
theorem d_X5_lead_158 : decode b_X5_lead 158 = .ok (.invokevirtual 203, 3) := by decide +kernel
theorem d_X5_lead_168 : decode b_X5_lead 168 = .ok (.return_, 1) := by decide +kernel
theorem d_X5_decide_0 : decode b_X5_decide 0 = .ok (.aload_n 0, 1) := by decide +kernel
theorem d_X5_decide_1 : decode b_X5_decide 1 = .ok (.invokevirtual 140, 3) := by decide +kernel
theorem d_X5_decide_4 : decode b_X5_decide 4 = .ok (.ifCond .eq 7, 3) := by decide +kernel
theorem d_X5_decide_7 : decode b_X5_decide 7 = .ok (.iconst 1, 1) := by decide +kernel
theorem d_X5_decide_8 : decode b_X5_decide 8 = .ok (.goto 4, 3) := by decide +kernel
theorem d_X5_decide_11 : decode b_X5_decide 11 = .ok (.iconst 0, 1) := by decide +kernel
theorem d_X5_decide_12 : decode b_X5_decide 12 = .ok (.iload_n 1, 1) := by decide +kernel
theorem d_X5_decide_13 : decode b_X5_decide 13 = .ok (.if_icmp .ne 21, 3) := by decide +kernel
theorem d_X5_decide_16 : decode b_X5_decide 16 = .ok (.aload_n 0, 1) := by decide +kernel
theorem d_X5_decide_17 : decode b_X5_decide 17 = .ok (.iload_n 1, 1) := by decide +kernel
theorem d_X5_decide_18 : decode b_X5_decide 18 = .ok (.ifCond .eq 7, 3) := by decide +kernel
theorem d_X5_decide_21 : decode b_X5_decide 21 = .ok (.iconst 1, 1) := by decide +kernel
theorem d_X5_decide_22 : decode b_X5_decide 22 = .ok (.goto 4, 3) := by decide +kernel
theorem d_X5_decide_25 : decode b_X5_decide 25 = .ok (.iconst 0, 1) := by decide +kernel
theorem d_X5_decide_26 : decode b_X5_decide 26 = .ok (.invokevirtual 148, 3) := by decide +kernel
theorem d_X5_decide_29 : decode b_X5_decide 29 = .ok (.aload_n 0, 1) := by decide +kernel
theorem d_X5_decide_30 : decode b_X5_decide 30 = .ok (.iload_n 2, 1) := by decide +kernel
theorem d_X5_decide_31 : decode b_X5_decide 31 = .ok (.putfield 115, 3) := by decide +kernel
theorem d_X5_decide_34 : decode b_X5_decide 34 = .ok (.return_, 1) := by decide +kernel
theorem d_X5_call_0 : decode b_X5_call 0 = .ok (.iload_n 1, 1) := by decide +kernel
theorem d_X5_call_1 : decode b_X5_call 1 = .ok (.ifCond .lt 12, 3) := by decide +kernel
theorem d_X5_call_13 : decode b_X5_call 13 = .ok (.aload_n 0, 1) := by decide +kernel
theorem d_X5_call_14 : decode b_X5_call 14 = .ok (.iconst (-1), 1) := by decide +kernel
theorem d_X5_call_15 : decode b_X5_call 15 = .ok (.iload_n 1, 1) := by decide +kernel
theorem d_X5_call_16 : decode b_X5_call 16 = .ok (.isub, 1) := by decide +kernel
theorem d_X5_call_17 : decode b_X5_call 17 = .ok (.iload_n 2, 1) := by decide +kernel
theorem d_X5_call_18 : decode b_X5_call 18 = .ok (.invokevirtual 209, 3) := by decide +kernel
theorem d_X5_useLibrary_0 : decode b_X5_useLibrary 0 = .ok (.iload_n 1, 1) := by decide +kernel
theorem d_X5_useLibrary_1 : decode b_X5_useLibrary 1 = .ok (.ifCond .ne 7, 3) := by decide +kernel
theorem d_X5_useLibrary_8 : decode b_X5_useLibrary 8 = .ok (.aload_n 0, 1) := by decide +kernel
theorem d_X5_useLibrary_9 : decode b_X5_useLibrary 9 = .ok (.invokevirtual 140, 3) := by decide +kernel
theorem d_X5_useLibrary_12 : decode b_X5_useLibrary 12 = .ok (.istore_n 3, 1) := by decide +kernel
theorem d_X5_useLibrary_13 : decode b_X5_useLibrary 13 = .ok (.aload_n 0, 1) := by decide +kernel
theorem d_X5_useLibrary_14 : decode b_X5_useLibrary 14 = .ok (.iload_n 1, 1) := by decide +kernel
theorem d_X5_useLibrary_15 : decode b_X5_useLibrary 15 = .ok (.ifCond .ne 13, 3) := by decide +kernel
theorem d_X5_useLibrary_28 : decode b_X5_useLibrary 28 = .ok (.iconst 0, 1) := by decide +kernel
theorem d_X5_useLibrary_29 : decode b_X5_useLibrary 29 = .ok (.invokevirtual 148, 3) := by decide +kernel
theorem d_X5_useLibrary_32 : decode b_X5_useLibrary 32 = .ok (.iload_n 1, 1) := by decide +kernel
theorem d_X5_useLibrary_33 : decode b_X5_useLibrary 33 = .ok (.iconst 1, 1) := by decide +kernel
theorem d_X5_useLibrary_34 : decode b_X5_useLibrary 34 = .ok (.if_icmp .ne 14, 3) := by decide +kernel
theorem d_X5_useLibrary_48 : decode b_X5_useLibrary 48 = .ok (.iload_n 1, 1) := by decide +kernel
theorem d_X5_useLibrary_49 : decode b_X5_useLibrary 49 = .ok (.iconst 2, 1) := by decide +kernel
theorem d_X5_useLibrary_50 : decode b_X5_useLibrary 50 = .ok (.if_icmp .ne 24, 3) := by decide +kernel
theorem d_X5_useLibrary_53 : decode b_X5_useLibrary 53 = .ok (.aload_n 0, 1) := by decide +kernel
theorem d_X5_useLibrary_54 : decode b_X5_useLibrary 54 = .ok (.getfield 50, 3) := by decide +kernel
theorem d_X5_useLibrary_57 : decode b_X5_useLibrary 57 = .ok (.iload_n 3, 1) := by decide +kernel
theorem d_X5_useLibrary_58 : decode b_X5_useLibrary 58 = .ok (.invokevirtual 217, 3) := by decide +kernel
theorem d_X5_useLibrary_74 : decode b_X5_useLibrary 74 = .ok (.iload_n 1, 1) := by decide +kernel
theorem d_X5_useLibrary_75 : decode b_X5_useLibrary 75 = .ok (.iconst 3, 1) := by decide +kernel
theorem d_X5_useLibrary_76 : decode b_X5_useLibrary 76 = .ok (.if_icmp .ne 13, 3) := by decide +kernel
theorem d_X5_useLibrary_79 : decode b_X5_useLibrary 79 = .ok (.aload_n 0, 1) := by decide +kernel
theorem d_X5_useLibrary_80 : decode b_X5_useLibrary 80 = .ok (.iload_n 3, 1) := by decide +kernel
theorem d_X5_useLibrary_81 : decode b_X5_useLibrary 81 = .ok (.putfield 27, 3) := by decide +kernel
theorem d_X5_useLibrary_84 : decode b_X5_useLibrary 84 = .ok (.aload_n 0, 1) := by decide +kernel
theorem d_X5_useLibrary_85 : decode b_X5_useLibrary 85 = .ok (.iconst 5, 1) := by decide +kernel
theorem d_X5_useLibrary_86 : decode b_X5_useLibrary 86 = .ok (.putfield 87, 3) := by decide +kernel
theorem d_X5_useLibrary_89 : decode b_X5_useLibrary 89 = .ok (.return_, 1) := by decide +kernel
theorem d_X9_next_0 : decode b_X9_next 0 = .ok (.aload_n 0, 1) := by decide +kernel
theorem d_X9_next_1 : decode b_X9_next 1 = .ok (.getfield 13, 3) := by decide +kernel
theorem d_X9_next_4 : decode b_X9_next 4 = .ok (.ifCond .lt 26, 3) := by decide +kernel
theorem d_X9_next_7 : decode b_X9_next 7 = .ok (.aload_n 0, 1) := by decide +kernel
theorem d_X9_next_8 : decode b_X9_next 8 = .ok (.getfield 13, 3) := by decide +kernel
theorem d_X9_next_11 : decode b_X9_next 11 = .ok (.aload_n 0, 1) := by decide +kernel
theorem d_X9_next_12 : decode b_X9_next 12 = .ok (.getfield 7, 3) := by decide +kernel
theorem d_X9_next_15 : decode b_X9_next 15 = .ok (.if_icmp .ge 15, 3) := by decide +kernel
theorem d_X9_next_18 : decode b_X9_next 18 = .ok (.aload_n 0, 1) := by decide +kernel
theorem d_X9_next_19 : decode b_X9_next 19 = .ok (.getfield 13, 3) := by decide +kernel
theorem d_X9_next_22 : decode b_X9_next 22 = .ok (.aload_n 0, 1) := by decide +kernel
theorem d_X9_next_23 : decode b_X9_next 23 = .ok (.getfield 19, 3) := by decide +kernel
theorem d_X9_next_26 : decode b_X9_next 26 = .ok (.arraylength, 1) := by decide +kernel
theorem d_X9_next_27 : decode b_X9_next 27 = .ok (.if_icmp .lt 5, 3) := by decide +kernel
theorem d_X9_next_30 : decode b_X9_next 30 = .ok (.iconst (-1), 1) := by decide +kernel
theorem d_X9_next_31 : decode b_X9_next 31 = .ok (.ireturn, 1) := by decide +kernel
theorem d_X9_next_32 : decode b_X9_next 32 = .ok (.aload_n 0, 1) := by decide +kernel
theorem d_X9_next_33 : decode b_X9_next 33 = .ok (.dup, 1) := by decide +kernel
theorem d_X9_next_34 : decode b_X9_next 34 = .ok (.getfield 13, 3) := by decide +kernel
theorem d_X9_next_37 : decode b_X9_next 37 = .ok (.iconst 1, 1) := by decide +kernel
theorem d_X9_next_38 : decode b_X9_next 38 = .ok (.iadd, 1) := by decide +kernel
theorem d_X9_next_39 : decode b_X9_next 39 = .ok (.putfield 13, 3) := by decide +kernel
theorem d_X9_next_42 : decode b_X9_next 42 = .ok (.aload_n 0, 1) := by decide +kernel
theorem d_X9_next_43 : decode b_X9_next 43 = .ok (.getfield 19, 3) := by decide +kernel
theorem d_X9_next_46 : decode b_X9_next 46 = .ok (.aload_n 0, 1) := by decide +kernel
theorem d_X9_next_47 : decode b_X9_next 47 = .ok (.getfield 13, 3) := by decide +kernel
theorem d_X9_next_50 : decode b_X9_next 50 = .ok (.iconst 1, 1) := by decide +kernel
theorem d_X9_next_51 : decode b_X9_next 51 = .ok (.isub, 1) := by decide +kernel
theorem d_X9_next_52 : decode b_X9_next 52 = .ok (.baload, 1) := by decide +kernel
theorem d_X9_next_53 : decode b_X9_next 53 = .ok (.sipush 255, 3) := by decide +kernel
theorem d_X9_next_56 : decode b_X9_next 56 = .ok (.iand, 1) := by decide +kernel
theorem d_X9_next_57 : decode b_X9_next 57 = .ok (.ireturn, 1) := by decide +kernel
theorem d_X9_put_0 : decode b_X9_put 0 = .ok (.aload_n 0, 1) := by decide +kernel
theorem d_X9_put_1 : decode b_X9_put 1 = .ok (.getfield 16, 3) := by decide +kernel
theorem d_X9_put_4 : decode b_X9_put 4 = .ok (.ifCond .lt 15, 3) := by decide +kernel
theorem d_X9_put_7 : decode b_X9_put 7 = .ok (.aload_n 0, 1) := by decide +kernel
theorem d_X9_put_8 : decode b_X9_put 8 = .ok (.getfield 16, 3) := by decide +kernel
theorem d_X9_put_11 : decode b_X9_put 11 = .ok (.aload_n 0, 1) := by decide +kernel
theorem d_X9_put_12 : decode b_X9_put 12 = .ok (.getfield 23, 3) := by decide +kernel
theorem d_X9_put_15 : decode b_X9_put 15 = .ok (.arraylength, 1) := by decide +kernel
theorem d_X9_put_16 : decode b_X9_put 16 = .ok (.if_icmp .lt 5, 3) := by decide +kernel
theorem d_X9_put_19 : decode b_X9_put 19 = .ok (.iconst 0, 1) := by decide +kernel
theorem d_X9_put_20 : decode b_X9_put 20 = .ok (.ireturn, 1) := by decide +kernel
theorem d_X9_put_21 : decode b_X9_put 21 = .ok (.aload_n 0, 1) := by decide +kernel
theorem d_X9_put_22 : decode b_X9_put 22 = .ok (.getfield 23, 3) := by decide +kernel
theorem d_X9_put_25 : decode b_X9_put 25 = .ok (.aload_n 0, 1) := by decide +kernel
theorem d_X9_put_26 : decode b_X9_put 26 = .ok (.getfield 16, 3) := by decide +kernel
theorem d_X9_put_29 : decode b_X9_put 29 = .ok (.iload_n 1, 1) := by decide +kernel
theorem d_X9_put_30 : decode b_X9_put 30 = .ok (.i2b, 1) := by decide +kernel
theorem d_X9_put_31 : decode b_X9_put 31 = .ok (.bastore, 1) := by decide +kernel
theorem d_X9_put_32 : decode b_X9_put 32 = .ok (.aload_n 0, 1) := by decide +kernel
theorem d_X9_put_33 : decode b_X9_put 33 = .ok (.dup, 1) := by decide +kernel
theorem d_X9_put_34 : decode b_X9_put 34 = .ok (.getfield 16, 3) := by decide +kernel
theorem d_X9_put_37 : decode b_X9_put 37 = .ok (.iconst 1, 1) := by decide +kernel
theorem d_X9_put_38 : decode b_X9_put 38 = .ok (.iadd, 1) := by decide +kernel
theorem d_X9_put_39 : decode b_X9_put 39 = .ok (.putfield 16, 3) := by decide +kernel
theorem d_X9_put_42 : decode b_X9_put 42 = .ok (.iconst 1, 1) := by decide +kernel
theorem d_X9_put_43 : decode b_X9_put 43 = .ok (.ireturn, 1) := by decide +kernel
theorem d_X5_giveBack_0 : decode b_X5_giveBack 0 = .ok (.aload_n 0, 1) := by decide +kernel
theorem d_X5_giveBack_1 : decode b_X5_giveBack 1 = .ok (.invokevirtual 140, 3) := by decide +kernel
theorem d_X5_giveBack_4 : decode b_X5_giveBack 4 = .ok (.istore_n 1, 1) := by decide +kernel
theorem d_X5_giveBack_5 : decode b_X5_giveBack 5 = .ok (.aload_n 0, 1) := by decide +kernel
theorem d_X5_giveBack_6 : decode b_X5_giveBack 6 = .ok (.dup, 1) := by decide +kernel
theorem d_X5_giveBack_7 : decode b_X5_giveBack 7 = .ok (.getfield 112, 3) := by decide +kernel
theorem d_X5_giveBack_10 : decode b_X5_giveBack 10 = .ok (.iconst 1, 1) := by decide +kernel
theorem d_X5_giveBack_11 : decode b_X5_giveBack 11 = .ok (.isub, 1) := by decide +kernel
theorem d_X5_giveBack_12 : decode b_X5_giveBack 12 = .ok (.putfield 112, 3) := by decide +kernel
theorem d_X5_giveBack_15 : decode b_X5_giveBack 15 = .ok (.aload_n 0, 1) := by decide +kernel
theorem d_X5_giveBack_16 : decode b_X5_giveBack 16 = .ok (.aload_n 0, 1) := by decide +kernel
theorem d_X5_giveBack_17 : decode b_X5_giveBack 17 = .ok (.getfield 121, 3) := by decide +kernel
theorem d_X5_giveBack_20 : decode b_X5_giveBack 20 = .ok (.putfield 118, 3) := by decide +kernel
theorem d_X5_giveBack_23 : decode b_X5_giveBack 23 = .ok (.aload_n 0, 1) := by decide +kernel
theorem d_X5_giveBack_24 : decode b_X5_giveBack 24 = .ok (.aload_n 0, 1) := by decide +kernel
theorem d_X5_giveBack_25 : decode b_X5_giveBack 25 = .ok (.getfield 20, 3) := by decide +kernel
theorem d_X5_giveBack_28 : decode b_X5_giveBack 28 = .ok (.iconst 3, 1) := by decide +kernel
theorem d_X5_giveBack_29 : decode b_X5_giveBack 29 = .ok (.aload_n 0, 1) := by decide +kernel
theorem d_X5_giveBack_30 : decode b_X5_giveBack 30 = .ok (.getfield 112, 3) := by decide +kernel
theorem d_X5_giveBack_33 : decode b_X5_giveBack 33 = .ok (.imul, 1) := by decide +kernel
theorem d_X5_giveBack_34 : decode b_X5_giveBack 34 = .ok (.invokestatic 127, 3) := by decide +kernel
theorem d_X5_giveBack_37 : decode b_X5_giveBack 37 = .ok (.putfield 115, 3) := by decide +kernel
theorem d_X5_giveBack_40 : decode b_X5_giveBack 40 = .ok (.aload_n 0, 1) := by decide +kernel
theorem d_X5_giveBack_41 : decode b_X5_giveBack 41 = .ok (.aload_n 0, 1) := by decide +kernel
theorem d_X5_giveBack_42 : decode b_X5_giveBack 42 = .ok (.getfield 20, 3) := by decide +kernel
theorem d_X5_giveBack_45 : decode b_X5_giveBack 45 = .ok (.iconst 3, 1) := by decide +kernel
theorem d_X5_giveBack_46 : decode b_X5_giveBack 46 = .ok (.aload_n 0, 1) := by decide +kernel
theorem d_X5_giveBack_47 : decode b_X5_giveBack 47 = .ok (.getfield 112, 3) := by decide +kernel
theorem d_X5_giveBack_50 : decode b_X5_giveBack 50 = .ok (.imul, 1) := by decide +kernel
theorem d_X5_giveBack_51 : decode b_X5_giveBack 51 = .ok (.iconst 1, 1) := by decide +kernel
theorem d_X5_giveBack_52 : decode b_X5_giveBack 52 = .ok (.iadd, 1) := by decide +kernel
theorem d_X5_giveBack_53 : decode b_X5_giveBack 53 = .ok (.invokestatic 127, 3) := by decide +kernel
theorem d_X5_giveBack_56 : decode b_X5_giveBack 56 = .ok (.putfield 121, 3) := by decide +kernel
theorem d_X5_giveBack_59 : decode b_X5_giveBack 59 = .ok (.aload_n 0, 1) := by decide +kernel
theorem d_X5_giveBack_60 : decode b_X5_giveBack 60 = .ok (.aload_n 0, 1) := by decide +kernel
theorem d_X5_giveBack_61 : decode b_X5_giveBack 61 = .ok (.getfield 20, 3) := by decide +kernel
theorem d_X5_giveBack_64 : decode b_X5_giveBack 64 = .ok (.iconst 3, 1) := by decide +kernel
theorem d_X5_giveBack_65 : decode b_X5_giveBack 65 = .ok (.aload_n 0, 1) := by decide +kernel
theorem d_X5_giveBack_66 : decode b_X5_giveBack 66 = .ok (.getfield 112, 3) := by decide +kernel
theorem d_X5_giveBack_69 : decode b_X5_giveBack 69 = .ok (.imul, 1) := by decide +kernel
theorem d_X5_giveBack_70 : decode b_X5_giveBack 70 = .ok (.iconst 2, 1) := by decide +kernel
theorem d_X5_giveBack_71 : decode b_X5_giveBack 71 = .ok (.iadd, 1) := by decide +kernel
theorem d_X5_giveBack_72 : decode b_X5_giveBack 72 = .ok (.invokestatic 127, 3) := by decide +kernel
theorem d_X5_giveBack_75 : decode b_X5_giveBack 75 = .ok (.putfield 124, 3) := by decide +kernel
theorem d_X5_giveBack_78 : decode b_X5_giveBack 78 = .ok (.aload_n 0, 1) := by decide +kernel
theorem d_X5_giveBack_79 : decode b_X5_giveBack 79 = .ok (.getfield 112, 3) := by decide +kernel
theorem d_X5_giveBack_82 : decode b_X5_giveBack 82 = .ok (.ifCond .gt 16, 3) := by decide +kernel
theorem d_X5_giveBack_85 : decode b_X5_giveBack 85 = .ok (.aload_n 0, 1) := by decide +kernel
theorem d_X5_giveBack_86 : decode b_X5_giveBack 86 = .ok (.iload_n 1, 1) := by decide +kernel
theorem d_X5_giveBack_87 : decode b_X5_giveBack 87 = .ok (.putfield 27, 3) := by decide +kernel
theorem d_X5_giveBack_90 : decode b_X5_giveBack 90 = .ok (.aload_n 0, 1) := by decide +kernel
theorem d_X5_giveBack_91 : decode b_X5_giveBack 91 = .ok (.iconst 0, 1) := by decide +kernel
theorem d_X5_giveBack_92 : decode b_X5_giveBack 92 = .ok (.putfield 87, 3) := by decide +kernel
theorem d_X5_giveBack_95 : decode b_X5_giveBack 95 = .ok (.goto 8, 3) := by decide +kernel
theorem d_X5_giveBack_98 : decode b_X5_giveBack 98 = .ok (.aload_n 0, 1) := by decide +kernel
theorem d_X5_giveBack_99 : decode b_X5_giveBack 99 = .ok (.iload_n 1, 1) := by decide +kernel
theorem d_X5_giveBack_100 : decode b_X5_giveBack 100 = .ok (.invokevirtual 148, 3) := by decide +kernel
theorem d_X5_giveBack_103 : decode b_X5_giveBack 103 = .ok (.return_, 1) := by decide +kernel
theorem d_X5_reach_0 : decode b_X5_reach 0 = .ok (.aload_n 0, 1) := by decide +kernel
theorem d_X5_reach_1 : decode b_X5_reach 1 = .ok (.getfield 65, 3) := by decide +kernel
theorem d_X5_reach_4 : decode b_X5_reach 4 = .ok (.iload_n 2, 1) := by decide +kernel
theorem d_X5_reach_5 : decode b_X5_reach 5 = .ok (.iconst 1, 1) := by decide +kernel
theorem d_X5_reach_6 : decode b_X5_reach 6 = .ok (.iadd, 1) := by decide +kernel
theorem d_X5_reach_7 : decode b_X5_reach 7 = .ok (.invokestatic 127, 3) := by decide +kernel
theorem d_X5_reach_10 : decode b_X5_reach 10 = .ok (.istore_n 3, 1) := by decide +kernel
theorem d_X5_reach_11 : decode b_X5_reach 11 = .ok (.iload_n 1, 1) := by decide +kernel
theorem d_X5_reach_12 : decode b_X5_reach 12 = .ok (.bipush 19, 2) := by decide +kernel
theorem d_X5_reach_14 : decode b_X5_reach 14 = .ok (.if_icmp .ne 10, 3) := by decide +kernel
theorem d_X5_reach_17 : decode b_X5_reach 17 = .ok (.aload_n 0, 1) := by decide +kernel
theorem d_X5_reach_18 : decode b_X5_reach 18 = .ok (.invokevirtual 140, 3) := by decide +kernel
theorem d_X5_reach_21 : decode b_X5_reach 21 = .ok (.goto 4, 3) := by decide +kernel
theorem d_X5_reach_24 : decode b_X5_reach 24 = .ok (.iconst 0, 1) := by decide +kernel
theorem d_X5_reach_25 : decode b_X5_reach 25 = .ok (.istore 4, 2) := by decide +kernel
theorem d_X5_reach_27 : decode b_X5_reach 27 = .ok (.aload_n 0, 1) := by decide +kernel
theorem d_X5_reach_28 : decode b_X5_reach 28 = .ok (.invokevirtual 140, 3) := by decide +kernel
theorem d_X5_reach_31 : decode b_X5_reach 31 = .ok (.istore 5, 2) := by decide +kernel
theorem d_X5_reach_33 : decode b_X5_reach 33 = .ok (.iload 5, 2) := by decide +kernel
theorem d_X5_reach_35 : decode b_X5_reach 35 = .ok (.invokestatic 192, 3) := by decide +kernel
theorem d_X5_reach_38 : decode b_X5_reach 38 = .ok (.ifCond .ne 12, 3) := by decide +kernel
theorem d_X5_reach_41 : decode b_X5_reach 41 = .ok (.aload_n 0, 1) := by decide +kernel
theorem d_X5_reach_42 : decode b_X5_reach 42 = .ok (.iconst 2, 1) := by decide +kernel
theorem d_X5_reach_43 : decode b_X5_reach 43 = .ok (.iload_n 3, 1) := by decide +kernel
theorem d_X5_reach_44 : decode b_X5_reach 44 = .ok (.invokevirtual 173, 3) := by decide +kernel
theorem d_X5_reach_47 : decode b_X5_reach 47 = .ok (.goto 90, 3) := by decide +kernel
theorem d_X5_reach_50 : decode b_X5_reach 50 = .ok (.iload_n 1, 1) := by decide +kernel
theorem d_X5_reach_51 : decode b_X5_reach 51 = .ok (.bipush 18, 2) := by decide +kernel
theorem d_X5_reach_53 : decode b_X5_reach 53 = .ok (.if_icmp .ne 19, 3) := by decide +kernel
theorem d_X5_reach_56 : decode b_X5_reach 56 = .ok (.aload_n 0, 1) := by decide +kernel
theorem d_X5_reach_57 : decode b_X5_reach 57 = .ok (.aload_n 0, 1) := by decide +kernel
theorem d_X5_reach_58 : decode b_X5_reach 58 = .ok (.getfield 12, 3) := by decide +kernel
theorem d_X5_reach_61 : decode b_X5_reach 61 = .ok (.iload 5, 2) := by decide +kernel
theorem d_X5_reach_63 : decode b_X5_reach 63 = .ok (.invokestatic 127, 3) := by decide +kernel
theorem d_X5_reach_66 : decode b_X5_reach 66 = .ok (.invokevirtual 148, 3) := by decide +kernel
theorem d_X5_reach_69 : decode b_X5_reach 69 = .ok (.goto 68, 3) := by decide +kernel
theorem d_X5_reach_72 : decode b_X5_reach 72 = .ok (.iload_n 1, 1) := by decide +kernel
theorem d_X5_reach_73 : decode b_X5_reach 73 = .ok (.bipush 19, 2) := by decide +kernel
theorem d_X5_reach_75 : decode b_X5_reach 75 = .ok (.if_icmp .ne 23, 3) := by decide +kernel
theorem d_X5_reach_78 : decode b_X5_reach 78 = .ok (.aload_n 0, 1) := by decide +kernel
theorem d_X5_reach_79 : decode b_X5_reach 79 = .ok (.getfield 12, 3) := by decide +kernel
theorem d_X5_reach_82 : decode b_X5_reach 82 = .ok (.iload 5, 2) := by decide +kernel
theorem d_X5_reach_84 : decode b_X5_reach 84 = .ok (.iload 4, 2) := by decide +kernel
theorem d_X5_reach_86 : decode b_X5_reach 86 = .ok (.invokestatic 160, 3) := by decide +kernel
theorem d_X5_reach_89 : decode b_X5_reach 89 = .ok (.aload_n 0, 1) := by decide +kernel
theorem d_X5_reach_90 : decode b_X5_reach 90 = .ok (.iload 4, 2) := by decide +kernel
theorem d_X5_reach_92 : decode b_X5_reach 92 = .ok (.invokevirtual 148, 3) := by decide +kernel
theorem d_X5_reach_95 : decode b_X5_reach 95 = .ok (.goto 42, 3) := by decide +kernel
theorem d_X5_reach_98 : decode b_X5_reach 98 = .ok (.iload_n 1, 1) := by decide +kernel
theorem d_X5_reach_99 : decode b_X5_reach 99 = .ok (.bipush 20, 2) := by decide +kernel
theorem d_X5_reach_101 : decode b_X5_reach 101 = .ok (.if_icmp .ne 17, 3) := by decide +kernel
theorem d_X5_reach_104 : decode b_X5_reach 104 = .ok (.aload_n 0, 1) := by decide +kernel
theorem d_X5_reach_105 : decode b_X5_reach 105 = .ok (.aload_n 0, 1) := by decide +kernel
theorem d_X5_reach_106 : decode b_X5_reach 106 = .ok (.getfield 12, 3) := by decide +kernel
theorem d_X5_reach_109 : decode b_X5_reach 109 = .ok (.iload 5, 2) := by decide +kernel
theorem d_X5_reach_111 : decode b_X5_reach 111 = .ok (.iload_n 2, 1) := by decide +kernel
theorem d_X5_reach_112 : decode b_X5_reach 112 = .ok (.invokevirtual 189, 3) := by decide +kernel
theorem d_X5_reach_115 : decode b_X5_reach 115 = .ok (.goto 22, 3) := by decide +kernel
theorem d_X5_reach_118 : decode b_X5_reach 118 = .ok (.aload_n 0, 1) := by decide +kernel
theorem d_X5_reach_119 : decode b_X5_reach 119 = .ok (.iload 5, 2) := by decide +kernel
theorem d_X5_reach_121 : decode b_X5_reach 121 = .ok (.invokevirtual 148, 3) := by decide +kernel
theorem d_X5_reach_124 : decode b_X5_reach 124 = .ok (.aload_n 0, 1) := by decide +kernel
theorem d_X5_reach_125 : decode b_X5_reach 125 = .ok (.aload_n 0, 1) := by decide +kernel
theorem d_X5_reach_126 : decode b_X5_reach 126 = .ok (.getfield 12, 3) := by decide +kernel
theorem d_X5_reach_129 : decode b_X5_reach 129 = .ok (.iload 5, 2) := by decide +kernel
theorem d_X5_reach_131 : decode b_X5_reach 131 = .ok (.invokestatic 127, 3) := by decide +kernel
theorem d_X5_reach_134 : decode b_X5_reach 134 = .ok (.invokevirtual 148, 3) := by decide +kernel
theorem d_X5_reach_137 : decode b_X5_reach 137 = .ok (.return_, 1) := by decide +kernel
theorem d_X5_isCell_0 : decode b_X5_isCell 0 = .ok (.iload_n 0, 1) := by decide +kernel
theorem d_X5_isCell_1 : decode b_X5_isCell 1 = .ok (.bipush 16, 2) := by decide +kernel
theorem d_X5_isCell_3 : decode b_X5_isCell 3 = .ok (.if_icmp .lt 13, 3) := by decide +kernel
theorem d_X5_isCell_6 : decode b_X5_isCell 6 = .ok (.iload_n 0, 1) := by decide +kernel
theorem d_X5_isCell_7 : decode b_X5_isCell 7 = .ok (.ldc 11, 2) := by decide +kernel
theorem d_X5_isCell_9 : decode b_X5_isCell 9 = .ok (.if_icmp .ge 7, 3) := by decide +kernel
theorem d_X5_isCell_12 : decode b_X5_isCell 12 = .ok (.iconst 1, 1) := by decide +kernel
theorem d_X5_isCell_13 : decode b_X5_isCell 13 = .ok (.goto 4, 3) := by decide +kernel
theorem d_X5_isCell_16 : decode b_X5_isCell 16 = .ok (.iconst 0, 1) := by decide +kernel
theorem d_X5_isCell_17 : decode b_X5_isCell 17 = .ok (.ireturn, 1) := by decide +kernel
theorem d_X5_inFrame_0 : decode b_X5_inFrame 0 = .ok (.aload_n 0, 1) := by decide +kernel
theorem d_X5_inFrame_1 : decode b_X5_inFrame 1 = .ok (.getfield 124, 3) := by decide +kernel
theorem d_X5_inFrame_4 : decode b_X5_inFrame 4 = .ok (.aload_n 0, 1) := by decide +kernel
theorem d_X5_inFrame_5 : decode b_X5_inFrame 5 = .ok (.getfield 65, 3) := by decide +kernel
theorem d_X5_inFrame_8 : decode b_X5_inFrame 8 = .ok (.iload_n 2, 1) := by decide +kernel
theorem d_X5_inFrame_9 : decode b_X5_inFrame 9 = .ok (.iconst 1, 1) := by decide +kernel
theorem d_X5_inFrame_10 : decode b_X5_inFrame 10 = .ok (.iadd, 1) := by decide +kernel
theorem d_X5_inFrame_11 : decode b_X5_inFrame 11 = .ok (.invokestatic 127, 3) := by decide +kernel
theorem d_X5_inFrame_14 : decode b_X5_inFrame 14 = .ok (.iadd, 1) := by decide +kernel
theorem d_X5_inFrame_15 : decode b_X5_inFrame 15 = .ok (.istore_n 3, 1) := by decide +kernel
theorem d_X5_inFrame_16 : decode b_X5_inFrame 16 = .ok (.aload_n 0, 1) := by decide +kernel
theorem d_X5_inFrame_17 : decode b_X5_inFrame 17 = .ok (.getfield 65, 3) := by decide +kernel
theorem d_X5_inFrame_20 : decode b_X5_inFrame 20 = .ok (.iload_n 2, 1) := by decide +kernel
theorem d_X5_inFrame_21 : decode b_X5_inFrame 21 = .ok (.iconst 2, 1) := by decide +kernel
theorem d_X5_inFrame_22 : decode b_X5_inFrame 22 = .ok (.iadd, 1) := by decide +kernel
theorem d_X5_inFrame_23 : decode b_X5_inFrame 23 = .ok (.invokestatic 127, 3) := by decide +kernel
theorem d_X5_inFrame_26 : decode b_X5_inFrame 26 = .ok (.istore 4, 2) := by decide +kernel
theorem d_X5_inFrame_28 : decode b_X5_inFrame 28 = .ok (.iload_n 1, 1) := by decide +kernel
theorem d_X5_inFrame_29 : decode b_X5_inFrame 29 = .ok (.tableswitch 146 11 16 #[39, 54, 69, 82, 90, 128], 39) := by decide +kernel
theorem d_X5_inFrame_68 : decode b_X5_inFrame 68 = .ok (.aload_n 0, 1) := by decide +kernel
theorem d_X5_inFrame_69 : decode b_X5_inFrame 69 = .ok (.aload_n 0, 1) := by decide +kernel
theorem d_X5_inFrame_70 : decode b_X5_inFrame 70 = .ok (.getfield 12, 3) := by decide +kernel
theorem d_X5_inFrame_73 : decode b_X5_inFrame 73 = .ok (.iload_n 3, 1) := by decide +kernel
theorem d_X5_inFrame_74 : decode b_X5_inFrame 74 = .ok (.invokestatic 127, 3) := by decide +kernel
theorem d_X5_inFrame_77 : decode b_X5_inFrame 77 = .ok (.invokevirtual 148, 3) := by decide +kernel
theorem d_X5_inFrame_80 : decode b_X5_inFrame 80 = .ok (.goto 116, 3) := by decide +kernel
theorem d_X5_inFrame_83 : decode b_X5_inFrame 83 = .ok (.aload_n 0, 1) := by decide +kernel
theorem d_X5_inFrame_84 : decode b_X5_inFrame 84 = .ok (.getfield 12, 3) := by decide +kernel
theorem d_X5_inFrame_87 : decode b_X5_inFrame 87 = .ok (.iload_n 3, 1) := by decide +kernel
theorem d_X5_inFrame_88 : decode b_X5_inFrame 88 = .ok (.aload_n 0, 1) := by decide +kernel
theorem d_X5_inFrame_89 : decode b_X5_inFrame 89 = .ok (.invokevirtual 186, 3) := by decide +kernel
theorem d_X5_inFrame_92 : decode b_X5_inFrame 92 = .ok (.invokestatic 160, 3) := by decide +kernel
theorem d_X5_inFrame_95 : decode b_X5_inFrame 95 = .ok (.goto 101, 3) := by decide +kernel
theorem d_X5_inFrame_98 : decode b_X5_inFrame 98 = .ok (.aload_n 0, 1) := by decide +kernel
theorem d_X5_inFrame_99 : decode b_X5_inFrame 99 = .ok (.aload_n 0, 1) := by decide +kernel
theorem d_X5_inFrame_100 : decode b_X5_inFrame 100 = .ok (.getfield 12, 3) := by decide +kernel
theorem d_X5_inFrame_103 : decode b_X5_inFrame 103 = .ok (.iload_n 3, 1) := by decide +kernel
theorem d_X5_inFrame_104 : decode b_X5_inFrame 104 = .ok (.iload_n 2, 1) := by decide +kernel
theorem d_X5_inFrame_105 : decode b_X5_inFrame 105 = .ok (.invokevirtual 189, 3) := by decide +kernel
theorem d_X5_inFrame_108 : decode b_X5_inFrame 108 = .ok (.goto 88, 3) := by decide +kernel
theorem d_X5_inFrame_111 : decode b_X5_inFrame 111 = .ok (.aload_n 0, 1) := by decide +kernel
theorem d_X5_inFrame_112 : decode b_X5_inFrame 112 = .ok (.iload_n 3, 1) := by decide +kernel
theorem d_X5_inFrame_113 : decode b_X5_inFrame 113 = .ok (.invokevirtual 148, 3) := by decide +kernel
theorem d_X5_inFrame_116 : decode b_X5_inFrame 116 = .ok (.goto 80, 3) := by decide +kernel
theorem d_X5_inFrame_119 : decode b_X5_inFrame 119 = .ok (.iconst 0, 1) := by decide +kernel
theorem d_X5_inFrame_120 : decode b_X5_inFrame 120 = .ok (.istore 5, 2) := by decide +kernel
theorem d_X5_inFrame_122 : decode b_X5_inFrame 122 = .ok (.iload 5, 2) := by decide +kernel
theorem d_X5_inFrame_124 : decode b_X5_inFrame 124 = .ok (.iload 4, 2) := by decide +kernel
theorem d_X5_inFrame_126 : decode b_X5_inFrame 126 = .ok (.if_icmp .ge 28, 3) := by decide +kernel
theorem d_X5_inFrame_129 : decode b_X5_inFrame 129 = .ok (.iload 5, 2) := by decide +kernel
theorem d_X5_inFrame_131 : decode b_X5_inFrame 131 = .ok (.ldc 11, 2) := by decide +kernel
theorem d_X5_inFrame_133 : decode b_X5_inFrame 133 = .ok (.if_icmp .ge 21, 3) := by decide +kernel
theorem d_X5_inFrame_136 : decode b_X5_inFrame 136 = .ok (.aload_n 0, 1) := by decide +kernel
theorem d_X5_inFrame_137 : decode b_X5_inFrame 137 = .ok (.getfield 12, 3) := by decide +kernel
theorem d_X5_inFrame_140 : decode b_X5_inFrame 140 = .ok (.iload_n 3, 1) := by decide +kernel
theorem d_X5_inFrame_141 : decode b_X5_inFrame 141 = .ok (.iload 5, 2) := by decide +kernel
theorem d_X5_inFrame_143 : decode b_X5_inFrame 143 = .ok (.iadd, 1) := by decide +kernel
theorem d_X5_inFrame_144 : decode b_X5_inFrame 144 = .ok (.iconst 0, 1) := by decide +kernel
theorem d_X5_inFrame_145 : decode b_X5_inFrame 145 = .ok (.invokestatic 160, 3) := by decide +kernel
theorem d_X5_inFrame_148 : decode b_X5_inFrame 148 = .ok (.iinc 5 1, 3) := by decide +kernel
theorem d_X5_inFrame_151 : decode b_X5_inFrame 151 = .ok (.goto (-29), 3) := by decide +kernel
theorem d_X5_inFrame_154 : decode b_X5_inFrame 154 = .ok (.goto 42, 3) := by decide +kernel
theorem d_X5_inFrame_157 : decode b_X5_inFrame 157 = .ok (.aload_n 0, 1) := by decide +kernel
theorem d_X5_inFrame_158 : decode b_X5_inFrame 158 = .ok (.getfield 12, 3) := by decide +kernel
theorem d_X5_inFrame_161 : decode b_X5_inFrame 161 = .ok (.iload_n 3, 1) := by decide +kernel
theorem d_X5_inFrame_162 : decode b_X5_inFrame 162 = .ok (.iload 4, 2) := by decide +kernel
theorem d_X5_inFrame_164 : decode b_X5_inFrame 164 = .ok (.iadd, 1) := by decide +kernel
theorem d_X5_inFrame_165 : decode b_X5_inFrame 165 = .ok (.aload_n 0, 1) := by decide +kernel
theorem d_X5_inFrame_166 : decode b_X5_inFrame 166 = .ok (.invokevirtual 140, 3) := by decide +kernel
theorem d_X5_inFrame_169 : decode b_X5_inFrame 169 = .ok (.invokestatic 160, 3) := by decide +kernel
theorem d_X5_inFrame_172 : decode b_X5_inFrame 172 = .ok (.goto 24, 3) := by decide +kernel
theorem d_X5_inFrame_175 : decode b_X5_inFrame 175 = .ok (.aload_n 0, 1) := by decide +kernel
theorem d_X5_inFrame_176 : decode b_X5_inFrame 176 = .ok (.getfield 12, 3) := by decide +kernel
theorem d_X5_inFrame_179 : decode b_X5_inFrame 179 = .ok (.iload_n 3, 1) := by decide +kernel
theorem d_X5_inFrame_180 : decode b_X5_inFrame 180 = .ok (.iload 4, 2) := by decide +kernel
theorem d_X5_inFrame_182 : decode b_X5_inFrame 182 = .ok (.iadd, 1) := by decide +kernel
theorem d_X5_inFrame_183 : decode b_X5_inFrame 183 = .ok (.aload_n 0, 1) := by decide +kernel
theorem d_X5_inFrame_184 : decode b_X5_inFrame 184 = .ok (.getfield 65, 3) := by decide +kernel
theorem d_X5_inFrame_187 : decode b_X5_inFrame 187 = .ok (.iload_n 2, 1) := by decide +kernel
theorem d_X5_inFrame_188 : decode b_X5_inFrame 188 = .ok (.iconst 3, 1) := by decide +kernel
theorem d_X5_inFrame_189 : decode b_X5_inFrame 189 = .ok (.iadd, 1) := by decide +kernel
theorem d_X5_inFrame_190 : decode b_X5_inFrame 190 = .ok (.invokestatic 127, 3) := by decide +kernel
theorem d_X5_inFrame_193 : decode b_X5_inFrame 193 = .ok (.invokestatic 160, 3) := by decide +kernel
theorem d_X5_inFrame_196 : decode b_X5_inFrame 196 = .ok (.return_, 1) := by decide +kernel
theorem d_X5_peeked_0 : decode b_X5_peeked 0 = .ok (.aload_n 0, 1) := by decide +kernel
theorem d_X5_peeked_1 : decode b_X5_peeked 1 = .ok (.getfield 17, 3) := by decide +kernel
theorem d_X5_peeked_4 : decode b_X5_peeked 4 = .ok (.aload_n 0, 1) := by decide +kernel
theorem d_X5_peeked_5 : decode b_X5_peeked 5 = .ok (.getfield 118, 3) := by decide +kernel
theorem d_X5_peeked_8 : decode b_X5_peeked 8 = .ok (.iconst 1, 1) := by decide +kernel
theorem d_X5_peeked_9 : decode b_X5_peeked 9 = .ok (.isub, 1) := by decide +kernel
theorem d_X5_peeked_10 : decode b_X5_peeked 10 = .ok (.invokestatic 127, 3) := by decide +kernel
theorem d_X5_peeked_13 : decode b_X5_peeked 13 = .ok (.ireturn, 1) := by decide +kernel
theorem d_X5_plain_0 : decode b_X5_plain 0 = .ok (.aload_n 0, 1) := by decide +kernel
theorem d_X5_plain_1 : decode b_X5_plain 1 = .ok (.getfield 65, 3) := by decide +kernel
theorem d_X5_plain_4 : decode b_X5_plain 4 = .ok (.iload_n 2, 1) := by decide +kernel
theorem d_X5_plain_5 : decode b_X5_plain 5 = .ok (.iconst 1, 1) := by decide +kernel
theorem d_X5_plain_6 : decode b_X5_plain 6 = .ok (.iadd, 1) := by decide +kernel
theorem d_X5_plain_7 : decode b_X5_plain 7 = .ok (.invokestatic 127, 3) := by decide +kernel
theorem d_X5_plain_10 : decode b_X5_plain 10 = .ok (.istore_n 3, 1) := by decide +kernel
theorem d_X5_plain_11 : decode b_X5_plain 11 = .ok (.aload_n 0, 1) := by decide +kernel
theorem d_X5_plain_12 : decode b_X5_plain 12 = .ok (.getfield 65, 3) := by decide +kernel
theorem d_X5_plain_15 : decode b_X5_plain 15 = .ok (.iload_n 2, 1) := by decide +kernel
theorem d_X5_plain_16 : decode b_X5_plain 16 = .ok (.iconst 2, 1) := by decide +kernel
theorem d_X5_plain_17 : decode b_X5_plain 17 = .ok (.iadd, 1) := by decide +kernel
theorem d_X5_plain_18 : decode b_X5_plain 18 = .ok (.invokestatic 127, 3) := by decide +kernel
theorem d_X5_plain_21 : decode b_X5_plain 21 = .ok (.istore 4, 2) := by decide +kernel
theorem d_X5_plain_23 : decode b_X5_plain 23 = .ok (.iload_n 1, 1) := by decide +kernel
theorem d_X5_plain_24 : decode b_X5_plain 24 = .ok (.tableswitch 220 1 9 #[52, 60, 68, 89, 107, 132, 157, 180, 200], 52) := by decide +kernel
theorem d_X5_plain_76 : decode b_X5_plain 76 = .ok (.aload_n 0, 1) := by decide +kernel
theorem d_X5_plain_77 : decode b_X5_plain 77 = .ok (.iload_n 3, 1) := by decide +kernel
theorem d_X5_plain_78 : decode b_X5_plain 78 = .ok (.invokevirtual 148, 3) := by decide +kernel
theorem d_X5_plain_81 : decode b_X5_plain 81 = .ok (.goto 178, 3) := by decide +kernel
theorem d_X5_plain_84 : decode b_X5_plain 84 = .ok (.aload_n 0, 1) := by decide +kernel
theorem d_X5_plain_85 : decode b_X5_plain 85 = .ok (.invokevirtual 140, 3) := by decide +kernel
theorem d_X5_plain_88 : decode b_X5_plain 88 = .ok (.pop, 1) := by decide +kernel
theorem d_X5_plain_89 : decode b_X5_plain 89 = .ok (.goto 170, 3) := by decide +kernel
theorem d_X5_plain_92 : decode b_X5_plain 92 = .ok (.aload_n 0, 1) := by decide +kernel
theorem d_X5_plain_93 : decode b_X5_plain 93 = .ok (.aload_n 0, 1) := by decide +kernel
theorem d_X5_plain_94 : decode b_X5_plain 94 = .ok (.getfield 39, 3) := by decide +kernel
theorem d_X5_plain_97 : decode b_X5_plain 97 = .ok (.getfield 180, 3) := by decide +kernel
theorem d_X5_plain_100 : decode b_X5_plain 100 = .ok (.iload_n 3, 1) := by decide +kernel
theorem d_X5_plain_101 : decode b_X5_plain 101 = .ok (.invokestatic 127, 3) := by decide +kernel
theorem d_X5_plain_104 : decode b_X5_plain 104 = .ok (.iload 4, 2) := by decide +kernel
theorem d_X5_plain_106 : decode b_X5_plain 106 = .ok (.iadd, 1) := by decide +kernel
theorem d_X5_plain_107 : decode b_X5_plain 107 = .ok (.invokevirtual 148, 3) := by decide +kernel
theorem d_X5_plain_110 : decode b_X5_plain 110 = .ok (.goto 149, 3) := by decide +kernel
theorem d_X5_plain_113 : decode b_X5_plain 113 = .ok (.aload_n 0, 1) := by decide +kernel
theorem d_X5_plain_114 : decode b_X5_plain 114 = .ok (.aload_n 0, 1) := by decide +kernel
theorem d_X5_plain_115 : decode b_X5_plain 115 = .ok (.getfield 39, 3) := by decide +kernel
theorem d_X5_plain_118 : decode b_X5_plain 118 = .ok (.getfield 183, 3) := by decide +kernel
theorem d_X5_plain_121 : decode b_X5_plain 121 = .ok (.iload_n 3, 1) := by decide +kernel
theorem d_X5_plain_122 : decode b_X5_plain 122 = .ok (.invokestatic 127, 3) := by decide +kernel
theorem d_X5_plain_125 : decode b_X5_plain 125 = .ok (.invokevirtual 148, 3) := by decide +kernel
theorem d_X5_plain_128 : decode b_X5_plain 128 = .ok (.goto 131, 3) := by decide +kernel
theorem d_X5_plain_131 : decode b_X5_plain 131 = .ok (.aload_n 0, 1) := by decide +kernel
theorem d_X5_plain_132 : decode b_X5_plain 132 = .ok (.aload_n 0, 1) := by decide +kernel
theorem d_X5_plain_133 : decode b_X5_plain 133 = .ok (.getfield 12, 3) := by decide +kernel
theorem d_X5_plain_136 : decode b_X5_plain 136 = .ok (.aload_n 0, 1) := by decide +kernel
theorem d_X5_plain_137 : decode b_X5_plain 137 = .ok (.getfield 39, 3) := by decide +kernel
theorem d_X5_plain_140 : decode b_X5_plain 140 = .ok (.getfield 183, 3) := by decide +kernel
theorem d_X5_plain_143 : decode b_X5_plain 143 = .ok (.iload_n 3, 1) := by decide +kernel
theorem d_X5_plain_144 : decode b_X5_plain 144 = .ok (.invokestatic 127, 3) := by decide +kernel
theorem d_X5_plain_147 : decode b_X5_plain 147 = .ok (.invokestatic 127, 3) := by decide +kernel
theorem d_X5_plain_150 : decode b_X5_plain 150 = .ok (.invokevirtual 148, 3) := by decide +kernel
theorem d_X5_plain_153 : decode b_X5_plain 153 = .ok (.goto 106, 3) := by decide +kernel
theorem d_X5_plain_156 : decode b_X5_plain 156 = .ok (.aload_n 0, 1) := by decide +kernel
theorem d_X5_plain_157 : decode b_X5_plain 157 = .ok (.getfield 12, 3) := by decide +kernel
theorem d_X5_plain_160 : decode b_X5_plain 160 = .ok (.aload_n 0, 1) := by decide +kernel
theorem d_X5_plain_161 : decode b_X5_plain 161 = .ok (.getfield 39, 3) := by decide +kernel
theorem d_X5_plain_164 : decode b_X5_plain 164 = .ok (.getfield 183, 3) := by decide +kernel
theorem d_X5_plain_167 : decode b_X5_plain 167 = .ok (.iload_n 3, 1) := by decide +kernel
theorem d_X5_plain_168 : decode b_X5_plain 168 = .ok (.invokestatic 127, 3) := by decide +kernel
theorem d_X5_plain_171 : decode b_X5_plain 171 = .ok (.aload_n 0, 1) := by decide +kernel
theorem d_X5_plain_172 : decode b_X5_plain 172 = .ok (.invokevirtual 186, 3) := by decide +kernel
theorem d_X5_plain_175 : decode b_X5_plain 175 = .ok (.invokestatic 160, 3) := by decide +kernel
theorem d_X5_plain_178 : decode b_X5_plain 178 = .ok (.goto 81, 3) := by decide +kernel
theorem d_X5_plain_181 : decode b_X5_plain 181 = .ok (.aload_n 0, 1) := by decide +kernel
theorem d_X5_plain_182 : decode b_X5_plain 182 = .ok (.aload_n 0, 1) := by decide +kernel
theorem d_X5_plain_183 : decode b_X5_plain 183 = .ok (.getfield 12, 3) := by decide +kernel
theorem d_X5_plain_186 : decode b_X5_plain 186 = .ok (.aload_n 0, 1) := by decide +kernel
theorem d_X5_plain_187 : decode b_X5_plain 187 = .ok (.getfield 39, 3) := by decide +kernel
theorem d_X5_plain_190 : decode b_X5_plain 190 = .ok (.getfield 183, 3) := by decide +kernel
theorem d_X5_plain_193 : decode b_X5_plain 193 = .ok (.iload_n 3, 1) := by decide +kernel
theorem d_X5_plain_194 : decode b_X5_plain 194 = .ok (.invokestatic 127, 3) := by decide +kernel
theorem d_X5_plain_197 : decode b_X5_plain 197 = .ok (.iload_n 2, 1) := by decide +kernel
theorem d_X5_plain_198 : decode b_X5_plain 198 = .ok (.invokevirtual 189, 3) := by decide +kernel
theorem d_X5_plain_201 : decode b_X5_plain 201 = .ok (.goto 58, 3) := by decide +kernel
theorem d_X5_plain_204 : decode b_X5_plain 204 = .ok (.aload_n 0, 1) := by decide +kernel
theorem d_X5_plain_205 : decode b_X5_plain 205 = .ok (.aload_n 0, 1) := by decide +kernel
theorem d_X5_plain_206 : decode b_X5_plain 206 = .ok (.getfield 17, 3) := by decide +kernel
theorem d_X5_plain_209 : decode b_X5_plain 209 = .ok (.aload_n 0, 1) := by decide +kernel
theorem d_X5_plain_210 : decode b_X5_plain 210 = .ok (.getfield 121, 3) := by decide +kernel
theorem d_X5_plain_213 : decode b_X5_plain 213 = .ok (.iload_n 3, 1) := by decide +kernel
theorem d_X5_plain_214 : decode b_X5_plain 214 = .ok (.iadd, 1) := by decide +kernel
theorem d_X5_plain_215 : decode b_X5_plain 215 = .ok (.invokestatic 127, 3) := by decide +kernel
theorem d_X5_plain_218 : decode b_X5_plain 218 = .ok (.invokevirtual 148, 3) := by decide +kernel
theorem d_X5_plain_221 : decode b_X5_plain 221 = .ok (.goto 38, 3) := by decide +kernel
theorem d_X5_plain_224 : decode b_X5_plain 224 = .ok (.aload_n 0, 1) := by decide +kernel
theorem d_X5_plain_225 : decode b_X5_plain 225 = .ok (.getfield 17, 3) := by decide +kernel
theorem d_X5_plain_228 : decode b_X5_plain 228 = .ok (.aload_n 0, 1) := by decide +kernel
theorem d_X5_plain_229 : decode b_X5_plain 229 = .ok (.getfield 121, 3) := by decide +kernel
theorem d_X5_plain_232 : decode b_X5_plain 232 = .ok (.iload_n 3, 1) := by decide +kernel
theorem d_X5_plain_233 : decode b_X5_plain 233 = .ok (.iadd, 1) := by decide +kernel
theorem d_X5_plain_234 : decode b_X5_plain 234 = .ok (.aload_n 0, 1) := by decide +kernel
theorem d_X5_plain_235 : decode b_X5_plain 235 = .ok (.invokevirtual 186, 3) := by decide +kernel
theorem d_X5_plain_238 : decode b_X5_plain 238 = .ok (.invokestatic 160, 3) := by decide +kernel
theorem d_X5_plain_241 : decode b_X5_plain 241 = .ok (.goto 18, 3) := by decide +kernel
theorem d_X5_plain_244 : decode b_X5_plain 244 = .ok (.aload_n 0, 1) := by decide +kernel
theorem d_X5_plain_245 : decode b_X5_plain 245 = .ok (.aload_n 0, 1) := by decide +kernel
theorem d_X5_plain_246 : decode b_X5_plain 246 = .ok (.getfield 17, 3) := by decide +kernel
theorem d_X5_plain_249 : decode b_X5_plain 249 = .ok (.aload_n 0, 1) := by decide +kernel
theorem d_X5_plain_250 : decode b_X5_plain 250 = .ok (.getfield 121, 3) := by decide +kernel
theorem d_X5_plain_253 : decode b_X5_plain 253 = .ok (.iload_n 3, 1) := by decide +kernel
theorem d_X5_plain_254 : decode b_X5_plain 254 = .ok (.iadd, 1) := by decide +kernel
theorem d_X5_plain_255 : decode b_X5_plain 255 = .ok (.iload_n 2, 1) := by decide +kernel
theorem d_X5_plain_256 : decode b_X5_plain 256 = .ok (.invokevirtual 189, 3) := by decide +kernel
theorem d_X5_plain_259 : decode b_X5_plain 259 = .ok (.return_, 1) := by decide +kernel
theorem d_X9_useUp_0 : decode b_X9_useUp 0 = .ok (.aload_n 0, 1) := by decide +kernel
theorem d_X9_useUp_1 : decode b_X9_useUp 1 = .ok (.iconst 0, 1) := by decide +kernel
theorem d_X9_useUp_2 : decode b_X9_useUp 2 = .ok (.putfield 7, 3) := by decide +kernel
theorem d_X9_useUp_5 : decode b_X9_useUp 5 = .ok (.return_, 1) := by decide +kernel
theorem d_X8_objectAt_0 : decode b_X8_objectAt 0 = .ok (.iconst 1, 1) := by decide +kernel
theorem d_X8_objectAt_1 : decode b_X8_objectAt 1 = .ok (.istore_n 2, 1) := by decide +kernel
theorem d_X8_objectAt_2 : decode b_X8_objectAt 2 = .ok (.iload_n 2, 1) := by decide +kernel
theorem d_X8_objectAt_3 : decode b_X8_objectAt 3 = .ok (.aload_n 0, 1) := by decide +kernel
theorem d_X8_objectAt_4 : decode b_X8_objectAt 4 = .ok (.getfield 52, 3) := by decide +kernel
theorem d_X8_objectAt_7 : decode b_X8_objectAt 7 = .ok (.if_icmp .gt 27, 3) := by decide +kernel
theorem d_X8_objectAt_10 : decode b_X8_objectAt 10 = .ok (.iload_n 1, 1) := by decide +kernel
theorem d_X8_objectAt_11 : decode b_X8_objectAt 11 = .ok (.ifCond .lt 23, 3) := by decide +kernel
theorem d_X8_objectAt_14 : decode b_X8_objectAt 14 = .ok (.iload_n 1, 1) := by decide +kernel
theorem d_X8_objectAt_15 : decode b_X8_objectAt 15 = .ok (.aload_n 0, 1) := by decide +kernel
theorem d_X8_objectAt_16 : decode b_X8_objectAt 16 = .ok (.getfield 61, 3) := by decide +kernel
theorem d_X8_objectAt_19 : decode b_X8_objectAt 19 = .ok (.iload_n 2, 1) := by decide +kernel
theorem d_X8_objectAt_20 : decode b_X8_objectAt 20 = .ok (.invokestatic 88, 3) := by decide +kernel
theorem d_X8_objectAt_23 : decode b_X8_objectAt 23 = .ok (.if_icmp .ge 5, 3) := by decide +kernel
theorem d_X8_objectAt_26 : decode b_X8_objectAt 26 = .ok (.iload_n 2, 1) := by decide +kernel
theorem d_X8_objectAt_27 : decode b_X8_objectAt 27 = .ok (.ireturn, 1) := by decide +kernel
theorem d_X8_objectAt_28 : decode b_X8_objectAt 28 = .ok (.iinc 2 1, 3) := by decide +kernel
theorem d_X8_objectAt_31 : decode b_X8_objectAt 31 = .ok (.goto (-29), 3) := by decide +kernel
theorem d_X8_objectAt_34 : decode b_X8_objectAt 34 = .ok (.iconst 0, 1) := by decide +kernel
theorem d_X8_objectAt_35 : decode b_X8_objectAt 35 = .ok (.ireturn, 1) := by decide +kernel
theorem d_X9_byteAt_0 : decode b_X9_byteAt 0 = .ok (.iload_n 1, 1) := by decide +kernel
theorem d_X9_byteAt_1 : decode b_X9_byteAt 1 = .ok (.ifCond .lt 33, 3) := by decide +kernel
theorem d_X9_byteAt_4 : decode b_X9_byteAt 4 = .ok (.iload_n 1, 1) := by decide +kernel
theorem d_X9_byteAt_5 : decode b_X9_byteAt 5 = .ok (.aload_n 0, 1) := by decide +kernel
theorem d_X9_byteAt_6 : decode b_X9_byteAt 6 = .ok (.getfield 16, 3) := by decide +kernel
theorem d_X9_byteAt_9 : decode b_X9_byteAt 9 = .ok (.if_icmp .ge 25, 3) := by decide +kernel
theorem d_X9_byteAt_12 : decode b_X9_byteAt 12 = .ok (.iload_n 1, 1) := by decide +kernel
theorem d_X9_byteAt_13 : decode b_X9_byteAt 13 = .ok (.aload_n 0, 1) := by decide +kernel
theorem d_X9_byteAt_14 : decode b_X9_byteAt 14 = .ok (.getfield 23, 3) := by decide +kernel
theorem d_X9_byteAt_17 : decode b_X9_byteAt 17 = .ok (.arraylength, 1) := by decide +kernel
theorem d_X9_byteAt_18 : decode b_X9_byteAt 18 = .ok (.if_icmp .ge 16, 3) := by decide +kernel
theorem d_X9_byteAt_21 : decode b_X9_byteAt 21 = .ok (.aload_n 0, 1) := by decide +kernel
theorem d_X9_byteAt_22 : decode b_X9_byteAt 22 = .ok (.getfield 23, 3) := by decide +kernel
theorem d_X9_byteAt_25 : decode b_X9_byteAt 25 = .ok (.iload_n 1, 1) := by decide +kernel
theorem d_X9_byteAt_26 : decode b_X9_byteAt 26 = .ok (.baload, 1) := by decide +kernel
theorem d_X9_byteAt_27 : decode b_X9_byteAt 27 = .ok (.sipush 255, 3) := by decide +kernel
theorem d_X9_byteAt_30 : decode b_X9_byteAt 30 = .ok (.iand, 1) := by decide +kernel
theorem d_X9_byteAt_31 : decode b_X9_byteAt 31 = .ok (.goto 4, 3) := by decide +kernel
theorem d_X9_byteAt_34 : decode b_X9_byteAt 34 = .ok (.iconst (-1), 1) := by decide +kernel
theorem d_X9_byteAt_35 : decode b_X9_byteAt 35 = .ok (.ireturn, 1) := by decide +kernel
theorem d_X8_declare_0 : decode b_X8_declare 0 = .ok (.aload_n 0, 1) := by decide +kernel
theorem d_X8_declare_1 : decode b_X8_declare 1 = .ok (.getfield 9, 3) := by decide +kernel
theorem d_X8_declare_4 : decode b_X8_declare 4 = .ok (.istore 4, 2) := by decide +kernel
theorem d_X8_declare_6 : decode b_X8_declare 6 = .ok (.iload 4, 2) := by decide +kernel
theorem d_X8_declare_8 : decode b_X8_declare 8 = .ok (.aload_n 0, 1) := by decide +kernel
theorem d_X8_declare_9 : decode b_X8_declare 9 = .ok (.getfield 28, 3) := by decide +kernel
theorem d_X8_declare_12 : decode b_X8_declare 12 = .ok (.arraylength, 1) := by decide +kernel
theorem d_X8_declare_13 : decode b_X8_declare 13 = .ok (.if_icmp .ge 33, 3) := by decide +kernel
theorem d_X8_declare_16 : decode b_X8_declare 16 = .ok (.iload_n 2, 1) := by decide +kernel
theorem d_X8_declare_17 : decode b_X8_declare 17 = .ok (.ifCond .lt 29, 3) := by decide +kernel
theorem d_X8_declare_20 : decode b_X8_declare 20 = .ok (.iload_n 3, 1) := by decide +kernel
theorem d_X8_declare_21 : decode b_X8_declare 21 = .ok (.ifCond .lt 25, 3) := by decide +kernel
theorem d_X8_declare_24 : decode b_X8_declare 24 = .ok (.iload_n 2, 1) := by decide +kernel
theorem d_X8_declare_25 : decode b_X8_declare 25 = .ok (.iload_n 3, 1) := by decide +kernel
theorem d_X8_declare_26 : decode b_X8_declare 26 = .ok (.iadd, 1) := by decide +kernel
theorem d_X8_declare_27 : decode b_X8_declare 27 = .ok (.aload_n 1, 1) := by decide +kernel
theorem d_X8_declare_28 : decode b_X8_declare 28 = .ok (.arraylength, 1) := by decide +kernel
theorem d_X8_declare_29 : decode b_X8_declare 29 = .ok (.if_icmp .gt 17, 3) := by decide +kernel
theorem d_X8_declare_32 : decode b_X8_declare 32 = .ok (.aload_n 0, 1) := by decide +kernel
theorem d_X8_declare_33 : decode b_X8_declare 33 = .ok (.getfield 31, 3) := by decide +kernel
theorem d_X8_declare_36 : decode b_X8_declare 36 = .ok (.iload_n 3, 1) := by decide +kernel
theorem d_X8_declare_37 : decode b_X8_declare 37 = .ok (.iadd, 1) := by decide +kernel
theorem d_X8_declare_38 : decode b_X8_declare 38 = .ok (.aload_n 0, 1) := by decide +kernel
theorem d_X8_declare_39 : decode b_X8_declare 39 = .ok (.getfield 35, 3) := by decide +kernel
theorem d_X8_declare_42 : decode b_X8_declare 42 = .ok (.arraylength, 1) := by decide +kernel
theorem d_X8_declare_43 : decode b_X8_declare 43 = .ok (.if_icmp .le 5, 3) := by decide +kernel
theorem d_X8_declare_46 : decode b_X8_declare 46 = .ok (.iconst (-1), 1) := by decide +kernel
theorem d_X8_declare_47 : decode b_X8_declare 47 = .ok (.ireturn, 1) := by decide +kernel
theorem d_X8_declare_48 : decode b_X8_declare 48 = .ok (.aload_n 1, 1) := by decide +kernel
theorem d_X8_declare_49 : decode b_X8_declare 49 = .ok (.iload_n 2, 1) := by decide +kernel
theorem d_X8_declare_50 : decode b_X8_declare 50 = .ok (.aload_n 0, 1) := by decide +kernel
theorem d_X8_declare_51 : decode b_X8_declare 51 = .ok (.getfield 35, 3) := by decide +kernel
theorem d_X8_declare_54 : decode b_X8_declare 54 = .ok (.aload_n 0, 1) := by decide +kernel
theorem d_X8_declare_55 : decode b_X8_declare 55 = .ok (.getfield 31, 3) := by decide +kernel
theorem d_X8_declare_58 : decode b_X8_declare 58 = .ok (.iload_n 3, 1) := by decide +kernel
theorem d_X8_declare_59 : decode b_X8_declare 59 = .ok (.invokestatic 106, 3) := by decide +kernel
theorem d_X0_settle_8 : decode b_X0_settle 8 = .ok (.iload 4, 2) := by decide +kernel
theorem d_X0_settle_10 : decode b_X0_settle 10 = .ok (.ifCond .le 130, 3) := by decide +kernel
theorem d_X0_settle_13 : decode b_X0_settle 13 = .ok (.iload_n 3, 1) := by decide +kernel
theorem d_X0_settle_14 : decode b_X0_settle 14 = .ok (.aload_n 0, 1) := by decide +kernel
theorem d_X0_settle_15 : decode b_X0_settle 15 = .ok (.getfield 18, 3) := by decide +kernel
theorem d_X0_settle_18 : decode b_X0_settle 18 = .ok (.if_icmp .ge 122, 3) := by decide +kernel
theorem d_X0_settle_21 : decode b_X0_settle 21 = .ok (.aload_n 0, 1) := by decide +kernel
theorem d_X0_settle_22 : decode b_X0_settle 22 = .ok (.getfield 14, 3) := by decide +kernel
theorem d_X0_settle_25 : decode b_X0_settle 25 = .ok (.iload_n 3, 1) := by decide +kernel
theorem d_X0_settle_26 : decode b_X0_settle 26 = .ok (.invokestatic 31, 3) := by decide +kernel
theorem d_X0_settle_29 : decode b_X0_settle 29 = .ok (.istore 5, 2) := by decide +kernel
theorem d_X0_settle_31 : decode b_X0_settle 31 = .ok (.aload_n 2, 1) := by decide +kernel
theorem d_X0_settle_32 : decode b_X0_settle 32 = .ok (.aload_n 0, 1) := by decide +kernel
theorem d_X0_settle_33 : decode b_X0_settle 33 = .ok (.getfield 14, 3) := by decide +kernel
theorem d_X0_settle_36 : decode b_X0_settle 36 = .ok (.iload_n 3, 1) := by decide +kernel
theorem d_X0_settle_37 : decode b_X0_settle 37 = .ok (.iconst 1, 1) := by decide +kernel
theorem d_X0_settle_38 : decode b_X0_settle 38 = .ok (.iadd, 1) := by decide +kernel
theorem d_X0_settle_39 : decode b_X0_settle 39 = .ok (.invokestatic 31, 3) := by decide +kernel
theorem d_X0_settle_42 : decode b_X0_settle 42 = .ok (.invokestatic 31, 3) := by decide +kernel
theorem d_X0_settle_45 : decode b_X0_settle 45 = .ok (.istore 6, 2) := by decide +kernel
theorem d_X0_settle_47 : decode b_X0_settle 47 = .ok (.iload 5, 2) := by decide +kernel
theorem d_X0_settle_49 : decode b_X0_settle 49 = .ok (.bipush 8, 2) := by decide +kernel
theorem d_X0_settle_51 : decode b_X0_settle 51 = .ok (.if_icmp .lt 42, 3) := by decide +kernel
theorem d_X0_settle_93 : decode b_X0_settle 93 = .ok (.iload 5, 2) := by decide +kernel
theorem d_X0_settle_95 : decode b_X0_settle 95 = .ok (.bipush 14, 2) := by decide +kernel
theorem d_X0_settle_97 : decode b_X0_settle 97 = .ok (.if_icmp .lt 22, 3) := by decide +kernel
theorem d_X0_settle_119 : decode b_X0_settle 119 = .ok (.iload_n 3, 1) := by decide +kernel
theorem d_X0_settle_120 : decode b_X0_settle 120 = .ok (.getstatic 22, 3) := by decide +kernel
theorem d_X0_settle_123 : decode b_X0_settle 123 = .ok (.iload 5, 2) := by decide +kernel
theorem d_X0_settle_125 : decode b_X0_settle 125 = .ok (.invokestatic 31, 3) := by decide +kernel
theorem d_X0_settle_128 : decode b_X0_settle 128 = .ok (.iconst 1, 1) := by decide +kernel
theorem d_X0_settle_129 : decode b_X0_settle 129 = .ok (.invokestatic 39, 3) := by decide +kernel
theorem d_X0_settle_140 : decode b_X0_settle 140 = .ok (.return_, 1) := by decide +kernel
theorem d_X4_find_0 : decode b_X4_find 0 = .ok (.iconst 0, 1) := by decide +kernel
theorem d_X4_find_1 : decode b_X4_find 1 = .ok (.istore 6, 2) := by decide +kernel
theorem d_X4_find_3 : decode b_X4_find 3 = .ok (.iload 6, 2) := by decide +kernel
theorem d_X4_find_5 : decode b_X4_find 5 = .ok (.iload_n 2, 1) := by decide +kernel
theorem d_X4_find_6 : decode b_X4_find 6 = .ok (.if_icmp .ge 97, 3) := by decide +kernel
theorem d_X4_find_9 : decode b_X4_find 9 = .ok (.aload_n 1, 1) := by decide +kernel
theorem d_X4_find_10 : decode b_X4_find 10 = .ok (.iload 6, 2) := by decide +kernel
theorem d_X4_find_12 : decode b_X4_find 12 = .ok (.invokestatic 54, 3) := by decide +kernel
theorem d_X4_find_15 : decode b_X4_find 15 = .ok (.istore 7, 2) := by decide +kernel
theorem d_X4_find_17 : decode b_X4_find 17 = .ok (.aload_n 0, 1) := by decide +kernel
theorem d_X4_find_18 : decode b_X4_find 18 = .ok (.getfield 50, 3) := by decide +kernel
theorem d_X4_find_21 : decode b_X4_find 21 = .ok (.iload 7, 2) := by decide +kernel
theorem d_X4_find_23 : decode b_X4_find 23 = .ok (.invokevirtual 93, 3) := by decide +kernel
theorem d_X4_find_26 : decode b_X4_find 26 = .ok (.istore 8, 2) := by decide +kernel
theorem d_X4_find_28 : decode b_X4_find 28 = .ok (.iload 8, 2) := by decide +kernel
theorem d_X4_find_30 : decode b_X4_find 30 = .ok (.aload_n 0, 1) := by decide +kernel
theorem d_X4_find_31 : decode b_X4_find 31 = .ok (.getfield 50, 3) := by decide +kernel
theorem d_X4_find_34 : decode b_X4_find 34 = .ok (.getfield 96, 3) := by decide +kernel
theorem d_X4_find_37 : decode b_X4_find 37 = .ok (.iload 7, 2) := by decide +kernel
theorem d_X4_find_39 : decode b_X4_find 39 = .ok (.invokestatic 54, 3) := by decide +kernel
theorem d_X4_find_42 : decode b_X4_find 42 = .ok (.if_icmp .ge 55, 3) := by decide +kernel
theorem d_X4_find_45 : decode b_X4_find 45 = .ok (.aload_n 0, 1) := by decide +kernel
theorem d_X4_find_46 : decode b_X4_find 46 = .ok (.getfield 50, 3) := by decide +kernel
theorem d_X4_find_49 : decode b_X4_find 49 = .ok (.iload 8, 2) := by decide +kernel
theorem d_X4_find_51 : decode b_X4_find 51 = .ok (.iconst 4, 1) := by decide +kernel
theorem d_X4_find_52 : decode b_X4_find 52 = .ok (.invokevirtual 81, 3) := by decide +kernel
theorem d_X4_find_55 : decode b_X4_find 55 = .ok (.ifCond .eq 36, 3) := by decide +kernel
theorem d_X4_find_58 : decode b_X4_find 58 = .ok (.aload_n 0, 1) := by decide +kernel
theorem d_X4_find_59 : decode b_X4_find 59 = .ok (.getfield 50, 3) := by decide +kernel
theorem d_X4_find_62 : decode b_X4_find 62 = .ok (.iload 8, 2) := by decide +kernel
theorem d_X4_find_64 : decode b_X4_find 64 = .ok (.iconst 2, 1) := by decide +kernel
theorem d_X4_find_65 : decode b_X4_find 65 = .ok (.invokevirtual 81, 3) := by decide +kernel
theorem d_X4_find_68 : decode b_X4_find 68 = .ok (.ifCond .ne 23, 3) := by decide +kernel
theorem d_X4_find_71 : decode b_X4_find 71 = .ok (.aload_n 0, 1) := by decide +kernel
theorem d_X4_find_72 : decode b_X4_find 72 = .ok (.getfield 50, 3) := by decide +kernel
theorem d_X4_find_75 : decode b_X4_find 75 = .ok (.iload 8, 2) := by decide +kernel
theorem d_X4_find_77 : decode b_X4_find 77 = .ok (.aload_n 3, 1) := by decide +kernel
theorem d_X4_find_78 : decode b_X4_find 78 = .ok (.iload 4, 2) := by decide +kernel
theorem d_X4_find_80 : decode b_X4_find 80 = .ok (.iload 5, 2) := by decide +kernel
theorem d_X4_find_82 : decode b_X4_find 82 = .ok (.invokevirtual 119, 3) := by decide +kernel
theorem d_X4_find_85 : decode b_X4_find 85 = .ok (.ifCond .eq 6, 3) := by decide +kernel
theorem d_X4_find_88 : decode b_X4_find 88 = .ok (.iload 8, 2) := by decide +kernel
theorem d_X4_find_90 : decode b_X4_find 90 = .ok (.ireturn, 1) := by decide +kernel
theorem d_X4_find_91 : decode b_X4_find 91 = .ok (.iinc 8 1, 3) := by decide +kernel
theorem d_X4_find_94 : decode b_X4_find 94 = .ok (.goto (-66), 3) := by decide +kernel
theorem d_X4_find_97 : decode b_X4_find 97 = .ok (.iinc 6 1, 3) := by decide +kernel
theorem d_X4_find_100 : decode b_X4_find 100 = .ok (.goto (-97), 3) := by decide +kernel
theorem d_X4_find_103 : decode b_X4_find 103 = .ok (.iconst (-1), 1) := by decide +kernel
theorem d_X4_find_104 : decode b_X4_find 104 = .ok (.ireturn, 1) := by decide +kernel
theorem d_Arrays_fill_0 : decode b_Arrays_fill 0 = .ok (.iconst 0, 1) := by decide +kernel
theorem d_Arrays_fill_1 : decode b_Arrays_fill 1 = .ok (.istore_n 2, 1) := by decide +kernel
theorem d_Arrays_fill_2 : decode b_Arrays_fill 2 = .ok (.aload_n 0, 1) := by decide +kernel
theorem d_Arrays_fill_3 : decode b_Arrays_fill 3 = .ok (.arraylength, 1) := by decide +kernel
theorem d_Arrays_fill_4 : decode b_Arrays_fill 4 = .ok (.istore_n 3, 1) := by decide +kernel
theorem d_Arrays_fill_5 : decode b_Arrays_fill 5 = .ok (.iload_n 2, 1) := by decide +kernel
theorem d_Arrays_fill_6 : decode b_Arrays_fill 6 = .ok (.iload_n 3, 1) := by decide +kernel
theorem d_Arrays_fill_7 : decode b_Arrays_fill 7 = .ok (.if_icmp .ge 13, 3) := by decide +kernel
theorem d_Arrays_fill_10 : decode b_Arrays_fill 10 = .ok (.aload_n 0, 1) := by decide +kernel
theorem d_Arrays_fill_11 : decode b_Arrays_fill 11 = .ok (.iload_n 2, 1) := by decide +kernel
theorem d_Arrays_fill_12 : decode b_Arrays_fill 12 = .ok (.iload_n 1, 1) := by decide +kernel
theorem d_Arrays_fill_13 : decode b_Arrays_fill 13 = .ok (.iastore, 1) := by decide +kernel
theorem d_Arrays_fill_14 : decode b_Arrays_fill 14 = .ok (.iinc 2 1, 3) := by decide +kernel
theorem d_Arrays_fill_17 : decode b_Arrays_fill 17 = .ok (.goto (-12), 3) := by decide +kernel
theorem d_Arrays_fill_20 : decode b_Arrays_fill 20 = .ok (.return_, 1) := by decide +kernel
theorem d_X5_stepped_0 : decode b_X5_stepped 0 = .ok (.aload_n 1, 1) := by decide +kernel
theorem d_X5_stepped_1 : decode b_X5_stepped 1 = .ok (.iload_n 2, 1) := by decide +kernel
theorem d_X5_stepped_2 : decode b_X5_stepped 2 = .ok (.invokestatic 127, 3) := by decide +kernel
theorem d_X5_stepped_5 : decode b_X5_stepped 5 = .ok (.aload_n 0, 1) := by decide +kernel
theorem d_X5_stepped_6 : decode b_X5_stepped 6 = .ok (.getfield 65, 3) := by decide +kernel
theorem d_X5_stepped_9 : decode b_X5_stepped 9 = .ok (.iload_n 3, 1) := by decide +kernel
theorem d_X5_stepped_10 : decode b_X5_stepped 10 = .ok (.iconst 2, 1) := by decide +kernel
theorem d_X5_stepped_11 : decode b_X5_stepped 11 = .ok (.iadd, 1) := by decide +kernel
theorem d_X5_stepped_12 : decode b_X5_stepped 12 = .ok (.invokestatic 127, 3) := by decide +kernel
theorem d_X5_stepped_15 : decode b_X5_stepped 15 = .ok (.iadd, 1) := by decide +kernel
theorem d_X5_stepped_16 : decode b_X5_stepped 16 = .ok (.istore 4, 2) := by decide +kernel
theorem d_X5_stepped_18 : decode b_X5_stepped 18 = .ok (.aload_n 1, 1) := by decide +kernel
theorem d_X5_stepped_19 : decode b_X5_stepped 19 = .ok (.iload_n 2, 1) := by decide +kernel
theorem d_X5_stepped_20 : decode b_X5_stepped 20 = .ok (.iload 4, 2) := by decide +kernel
theorem d_X5_stepped_22 : decode b_X5_stepped 22 = .ok (.invokestatic 160, 3) := by decide +kernel
theorem d_X5_stepped_25 : decode b_X5_stepped 25 = .ok (.aload_n 0, 1) := by decide +kernel
theorem d_X5_stepped_26 : decode b_X5_stepped 26 = .ok (.iload 4, 2) := by decide +kernel
theorem d_X5_stepped_28 : decode b_X5_stepped 28 = .ok (.aload_n 0, 1) := by decide +kernel
theorem d_X5_stepped_29 : decode b_X5_stepped 29 = .ok (.getfield 65, 3) := by decide +kernel
theorem d_X5_stepped_32 : decode b_X5_stepped 32 = .ok (.iload_n 3, 1) := by decide +kernel
theorem d_X5_stepped_33 : decode b_X5_stepped 33 = .ok (.iconst 3, 1) := by decide +kernel
theorem d_X5_stepped_34 : decode b_X5_stepped 34 = .ok (.iadd, 1) := by decide +kernel
theorem d_X5_stepped_35 : decode b_X5_stepped 35 = .ok (.invokestatic 127, 3) := by decide +kernel
theorem d_X5_stepped_38 : decode b_X5_stepped 38 = .ok (.isub, 1) := by decide +kernel
theorem d_X5_stepped_39 : decode b_X5_stepped 39 = .ok (.invokevirtual 148, 3) := by decide +kernel
theorem d_X5_stepped_42 : decode b_X5_stepped 42 = .ok (.return_, 1) := by decide +kernel
theorem d_X8_isNamed_0 : decode b_X8_isNamed 0 = .ok (.aload_n 0, 1) := by decide +kernel
theorem d_X8_isNamed_1 : decode b_X8_isNamed 1 = .ok (.getfield 28, 3) := by decide +kernel
theorem d_X8_isNamed_4 : decode b_X8_isNamed 4 = .ok (.iload_n 1, 1) := by decide +kernel
theorem d_X8_isNamed_5 : decode b_X8_isNamed 5 = .ok (.iconst 1, 1) := by decide +kernel
theorem d_X8_isNamed_6 : decode b_X8_isNamed 6 = .ok (.isub, 1) := by decide +kernel
theorem d_X8_isNamed_7 : decode b_X8_isNamed 7 = .ok (.invokestatic 88, 3) := by decide +kernel
theorem d_X8_isNamed_10 : decode b_X8_isNamed 10 = .ok (.istore 5, 2) := by decide +kernel
theorem d_X8_isNamed_12 : decode b_X8_isNamed 12 = .ok (.aload_n 0, 1) := by decide +kernel
theorem d_X8_isNamed_13 : decode b_X8_isNamed 13 = .ok (.getfield 28, 3) := by decide +kernel
theorem d_X8_isNamed_16 : decode b_X8_isNamed 16 = .ok (.iload_n 1, 1) := by decide +kernel
theorem d_X8_isNamed_17 : decode b_X8_isNamed 17 = .ok (.invokestatic 88, 3) := by decide +kernel
theorem d_X8_isNamed_20 : decode b_X8_isNamed 20 = .ok (.iload 5, 2) := by decide +kernel
theorem d_X8_isNamed_22 : decode b_X8_isNamed 22 = .ok (.isub, 1) := by decide +kernel
theorem d_X8_isNamed_23 : decode b_X8_isNamed 23 = .ok (.iload 4, 2) := by decide +kernel
theorem d_X8_isNamed_25 : decode b_X8_isNamed 25 = .ok (.if_icmp .eq 5, 3) := by decide +kernel
theorem d_X8_isNamed_28 : decode b_X8_isNamed 28 = .ok (.iconst 0, 1) := by decide +kernel
theorem d_X8_isNamed_29 : decode b_X8_isNamed 29 = .ok (.ireturn, 1) := by decide +kernel
theorem d_X8_isNamed_30 : decode b_X8_isNamed 30 = .ok (.iconst 0, 1) := by decide +kernel
theorem d_X8_isNamed_31 : decode b_X8_isNamed 31 = .ok (.istore 6, 2) := by decide +kernel
theorem d_X8_isNamed_33 : decode b_X8_isNamed 33 = .ok (.iload 6, 2) := by decide +kernel
theorem d_X8_isNamed_35 : decode b_X8_isNamed 35 = .ok (.iload 4, 2) := by decide +kernel
theorem d_X8_isNamed_37 : decode b_X8_isNamed 37 = .ok (.if_icmp .ge 56, 3) := by decide +kernel
theorem d_X8_isNamed_40 : decode b_X8_isNamed 40 = .ok (.iload 5, 2) := by decide +kernel
theorem d_X8_isNamed_42 : decode b_X8_isNamed 42 = .ok (.iload 6, 2) := by decide +kernel
theorem d_X8_isNamed_44 : decode b_X8_isNamed 44 = .ok (.iadd, 1) := by decide +kernel
theorem d_X8_isNamed_45 : decode b_X8_isNamed 45 = .ok (.aload_n 0, 1) := by decide +kernel
theorem d_X8_isNamed_46 : decode b_X8_isNamed 46 = .ok (.getfield 35, 3) := by decide +kernel
theorem d_X8_isNamed_49 : decode b_X8_isNamed 49 = .ok (.arraylength, 1) := by decide +kernel
theorem d_X8_isNamed_50 : decode b_X8_isNamed 50 = .ok (.if_icmp .ge 35, 3) := by decide +kernel
theorem d_X8_isNamed_53 : decode b_X8_isNamed 53 = .ok (.iload_n 3, 1) := by decide +kernel
theorem d_X8_isNamed_54 : decode b_X8_isNamed 54 = .ok (.ifCond .lt 31, 3) := by decide +kernel
theorem d_X8_isNamed_57 : decode b_X8_isNamed 57 = .ok (.iload_n 3, 1) := by decide +kernel
theorem d_X8_isNamed_58 : decode b_X8_isNamed 58 = .ok (.iload 6, 2) := by decide +kernel
theorem d_X8_isNamed_60 : decode b_X8_isNamed 60 = .ok (.iadd, 1) := by decide +kernel
theorem d_X8_isNamed_61 : decode b_X8_isNamed 61 = .ok (.aload_n 2, 1) := by decide +kernel
theorem d_X8_isNamed_62 : decode b_X8_isNamed 62 = .ok (.arraylength, 1) := by decide +kernel
theorem d_X8_isNamed_63 : decode b_X8_isNamed 63 = .ok (.if_icmp .ge 22, 3) := by decide +kernel
theorem d_X8_isNamed_66 : decode b_X8_isNamed 66 = .ok (.aload_n 0, 1) := by decide +kernel
theorem d_X8_isNamed_67 : decode b_X8_isNamed 67 = .ok (.getfield 35, 3) := by decide +kernel
theorem d_X8_isNamed_70 : decode b_X8_isNamed 70 = .ok (.iload 5, 2) := by decide +kernel
theorem d_X8_isNamed_72 : decode b_X8_isNamed 72 = .ok (.iload 6, 2) := by decide +kernel
theorem d_X8_isNamed_74 : decode b_X8_isNamed 74 = .ok (.iadd, 1) := by decide +kernel
theorem d_X8_isNamed_75 : decode b_X8_isNamed 75 = .ok (.baload, 1) := by decide +kernel
theorem d_X8_isNamed_76 : decode b_X8_isNamed 76 = .ok (.aload_n 2, 1) := by decide +kernel
theorem d_X8_isNamed_77 : decode b_X8_isNamed 77 = .ok (.iload_n 3, 1) := by decide +kernel
theorem d_X8_isNamed_78 : decode b_X8_isNamed 78 = .ok (.iload 6, 2) := by decide +kernel
theorem d_X8_isNamed_80 : decode b_X8_isNamed 80 = .ok (.iadd, 1) := by decide +kernel
theorem d_X8_isNamed_81 : decode b_X8_isNamed 81 = .ok (.baload, 1) := by decide +kernel
theorem d_X8_isNamed_82 : decode b_X8_isNamed 82 = .ok (.if_icmp .eq 5, 3) := by decide +kernel
theorem d_X8_isNamed_85 : decode b_X8_isNamed 85 = .ok (.iconst 0, 1) := by decide +kernel
theorem d_X8_isNamed_86 : decode b_X8_isNamed 86 = .ok (.ireturn, 1) := by decide +kernel
theorem d_X8_isNamed_87 : decode b_X8_isNamed 87 = .ok (.iinc 6 1, 3) := by decide +kernel
theorem d_X8_isNamed_90 : decode b_X8_isNamed 90 = .ok (.goto (-57), 3) := by decide +kernel
theorem d_X8_isNamed_93 : decode b_X8_isNamed 93 = .ok (.iconst 1, 1) := by decide +kernel
theorem d_X8_isNamed_94 : decode b_X8_isNamed 94 = .ok (.ireturn, 1) := by decide +kernel
theorem d_X4_fill_0 : decode b_X4_fill 0 = .ok (.iconst 1, 1) := by decide +kernel
theorem d_X4_fill_1 : decode b_X4_fill 1 = .ok (.istore_n 2, 1) := by decide +kernel
theorem d_X4_fill_2 : decode b_X4_fill 2 = .ok (.iload_n 2, 1) := by decide +kernel
theorem d_X4_fill_3 : decode b_X4_fill 3 = .ok (.aload_n 0, 1) := by decide +kernel
theorem d_X4_fill_4 : decode b_X4_fill 4 = .ok (.getfield 33, 3) := by decide +kernel
theorem d_X4_fill_7 : decode b_X4_fill 7 = .ok (.if_icmp .ge 152, 3) := by decide +kernel
theorem d_X4_fill_10 : decode b_X4_fill 10 = .ok (.aload_n 0, 1) := by decide +kernel
theorem d_X4_fill_11 : decode b_X4_fill 11 = .ok (.getfield 36, 3) := by decide +kernel
theorem d_X4_fill_14 : decode b_X4_fill 14 = .ok (.iload_n 2, 1) := by decide +kernel
theorem d_X4_fill_15 : decode b_X4_fill 15 = .ok (.invokestatic 54, 3) := by decide +kernel
theorem d_X4_fill_18 : decode b_X4_fill 18 = .ok (.istore_n 3, 1) := by decide +kernel
theorem d_X4_fill_19 : decode b_X4_fill 19 = .ok (.aload_n 0, 1) := by decide +kernel
theorem d_X4_fill_20 : decode b_X4_fill 20 = .ok (.getfield 50, 3) := by decide +kernel
theorem d_X4_fill_23 : decode b_X4_fill 23 = .ok (.getfield 130, 3) := by decide +kernel
theorem d_X4_fill_26 : decode b_X4_fill 26 = .ok (.iload_n 3, 1) := by decide +kernel
theorem d_X4_fill_27 : decode b_X4_fill 27 = .ok (.iconst 1, 1) := by decide +kernel
theorem d_X4_fill_28 : decode b_X4_fill 28 = .ok (.isub, 1) := by decide +kernel
theorem d_X4_fill_29 : decode b_X4_fill 29 = .ok (.invokestatic 54, 3) := by decide +kernel
theorem d_X4_fill_32 : decode b_X4_fill 32 = .ok (.istore 4, 2) := by decide +kernel
theorem d_X4_fill_34 : decode b_X4_fill 34 = .ok (.iload 4, 2) := by decide +kernel
theorem d_X4_fill_36 : decode b_X4_fill 36 = .ok (.aload_n 0, 1) := by decide +kernel
theorem d_X4_fill_37 : decode b_X4_fill 37 = .ok (.getfield 50, 3) := by decide +kernel
theorem d_X4_fill_40 : decode b_X4_fill 40 = .ok (.getfield 130, 3) := by decide +kernel
theorem d_X4_fill_43 : decode b_X4_fill 43 = .ok (.iload_n 3, 1) := by decide +kernel
theorem d_X4_fill_44 : decode b_X4_fill 44 = .ok (.invokestatic 54, 3) := by decide +kernel
theorem d_X4_fill_47 : decode b_X4_fill 47 = .ok (.if_icmp .ge 106, 3) := by decide +kernel
theorem d_X4_fill_50 : decode b_X4_fill 50 = .ok (.aload_n 0, 1) := by decide +kernel
theorem d_X4_fill_51 : decode b_X4_fill 51 = .ok (.getfield 50, 3) := by decide +kernel
theorem d_X4_fill_54 : decode b_X4_fill 54 = .ok (.getfield 133, 3) := by decide +kernel
theorem d_X4_fill_57 : decode b_X4_fill 57 = .ok (.iload 4, 2) := by decide +kernel
theorem d_X4_fill_59 : decode b_X4_fill 59 = .ok (.invokestatic 54, 3) := by decide +kernel
theorem d_X4_fill_62 : decode b_X4_fill 62 = .ok (.istore 5, 2) := by decide +kernel
theorem d_X4_fill_64 : decode b_X4_fill 64 = .ok (.iload 5, 2) := by decide +kernel
theorem d_X4_fill_66 : decode b_X4_fill 66 = .ok (.bipush (-2), 2) := by decide +kernel
theorem d_X4_fill_68 : decode b_X4_fill 68 = .ok (.if_icmp .ne 7, 3) := by decide +kernel
theorem d_X4_fill_71 : decode b_X4_fill 71 = .ok (.iconst 0, 1) := by decide +kernel
theorem d_X4_fill_72 : decode b_X4_fill 72 = .ok (.goto 29, 3) := by decide +kernel
theorem d_X4_fill_75 : decode b_X4_fill 75 = .ok (.iload 5, 2) := by decide +kernel
theorem d_X4_fill_77 : decode b_X4_fill 77 = .ok (.iconst (-1), 1) := by decide +kernel
theorem d_X4_fill_78 : decode b_X4_fill 78 = .ok (.if_icmp .ne 14, 3) := by decide +kernel
theorem d_X4_fill_81 : decode b_X4_fill 81 = .ok (.aload_n 0, 1) := by decide +kernel
theorem d_X4_fill_82 : decode b_X4_fill 82 = .ok (.getfield 39, 3) := by decide +kernel
theorem d_X4_fill_85 : decode b_X4_fill 85 = .ok (.iload_n 3, 1) := by decide +kernel
theorem d_X4_fill_86 : decode b_X4_fill 86 = .ok (.invokestatic 54, 3) := by decide +kernel
theorem d_X4_fill_89 : decode b_X4_fill 89 = .ok (.goto 12, 3) := by decide +kernel
theorem d_X4_fill_92 : decode b_X4_fill 92 = .ok (.aload_n 0, 1) := by decide +kernel
theorem d_X4_fill_93 : decode b_X4_fill 93 = .ok (.getfield 44, 3) := by decide +kernel
theorem d_X4_fill_96 : decode b_X4_fill 96 = .ok (.iload 5, 2) := by decide +kernel
theorem d_X4_fill_98 : decode b_X4_fill 98 = .ok (.invokestatic 54, 3) := by decide +kernel
theorem d_X4_fill_101 : decode b_X4_fill 101 = .ok (.istore 6, 2) := by decide +kernel
theorem d_X4_fill_103 : decode b_X4_fill 103 = .ok (.aload_n 0, 1) := by decide +kernel
theorem d_X4_fill_104 : decode b_X4_fill 104 = .ok (.getfield 39, 3) := by decide +kernel
theorem d_X4_fill_107 : decode b_X4_fill 107 = .ok (.iload_n 3, 1) := by decide +kernel
theorem d_X4_fill_108 : decode b_X4_fill 108 = .ok (.invokestatic 54, 3) := by decide +kernel
theorem d_X4_fill_111 : decode b_X4_fill 111 = .ok (.aload_n 0, 1) := by decide +kernel
theorem d_X4_fill_112 : decode b_X4_fill 112 = .ok (.getfield 50, 3) := by decide +kernel
theorem d_X4_fill_115 : decode b_X4_fill 115 = .ok (.getfield 136, 3) := by decide +kernel
theorem d_X4_fill_118 : decode b_X4_fill 118 = .ok (.iload 4, 2) := by decide +kernel
theorem d_X4_fill_120 : decode b_X4_fill 120 = .ok (.invokestatic 54, 3) := by decide +kernel
theorem d_X4_fill_123 : decode b_X4_fill 123 = .ok (.iadd, 1) := by decide +kernel
theorem d_X4_fill_124 : decode b_X4_fill 124 = .ok (.istore 7, 2) := by decide +kernel
theorem d_X4_fill_126 : decode b_X4_fill 126 = .ok (.aload_n 1, 1) := by decide +kernel
theorem d_X4_fill_127 : decode b_X4_fill 127 = .ok (.iload 7, 2) := by decide +kernel
theorem d_X4_fill_129 : decode b_X4_fill 129 = .ok (.iload 6, 2) := by decide +kernel
theorem d_X4_fill_131 : decode b_X4_fill 131 = .ok (.aload_n 0, 1) := by decide +kernel
theorem d_X4_fill_132 : decode b_X4_fill 132 = .ok (.getfield 50, 3) := by decide +kernel
theorem d_X4_fill_135 : decode b_X4_fill 135 = .ok (.getfield 139, 3) := by decide +kernel
theorem d_X4_fill_138 : decode b_X4_fill 138 = .ok (.iload 4, 2) := by decide +kernel
theorem d_X4_fill_140 : decode b_X4_fill 140 = .ok (.invokestatic 54, 3) := by decide +kernel
theorem d_X4_fill_143 : decode b_X4_fill 143 = .ok (.iadd, 1) := by decide +kernel
theorem d_X4_fill_144 : decode b_X4_fill 144 = .ok (.invokestatic 58, 3) := by decide +kernel
theorem d_X4_fill_147 : decode b_X4_fill 147 = .ok (.iinc 4 1, 3) := by decide +kernel
theorem d_X4_fill_150 : decode b_X4_fill 150 = .ok (.goto (-116), 3) := by decide +kernel
theorem d_X4_fill_153 : decode b_X4_fill 153 = .ok (.iinc 2 1, 3) := by decide +kernel
theorem d_X4_fill_156 : decode b_X4_fill 156 = .ok (.goto (-154), 3) := by decide +kernel
theorem d_X4_fill_159 : decode b_X4_fill 159 = .ok (.return_, 1) := by decide +kernel
