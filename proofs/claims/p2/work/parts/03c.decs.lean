theorem d_X2_invert_100 : decode b_X2_invert 100 = .ok (.invokevirtual 307, 3) := by decide +kernel
theorem d_X2_invert_103 : decode b_X2_invert 103 = .ok (.return_, 1) := by decide +kernel
theorem d_X5_inverted_0 : decode b_X5_inverted 0 = .ok (.iload_n 0, 1) := by decide +kernel
theorem d_X5_inverted_1 : decode b_X5_inverted 1 = .ok (.tableswitch 44 22 24 #[27, 30, 34], 27) := by decide +kernel
theorem d_X5_inverted_28 : decode b_X5_inverted 28 = .ok (.iload_n 1, 1) := by decide +kernel
theorem d_X5_inverted_29 : decode b_X5_inverted 29 = .ok (.ineg, 1) := by decide +kernel
theorem d_X5_inverted_30 : decode b_X5_inverted 30 = .ok (.ireturn, 1) := by decide +kernel
theorem d_X5_inverted_31 : decode b_X5_inverted 31 = .ok (.iload_n 1, 1) := by decide +kernel
theorem d_X5_inverted_32 : decode b_X5_inverted 32 = .ok (.iconst (-1), 1) := by decide +kernel
theorem d_X5_inverted_33 : decode b_X5_inverted 33 = .ok (.ixor, 1) := by decide +kernel
theorem d_X5_inverted_34 : decode b_X5_inverted 34 = .ok (.ireturn, 1) := by decide +kernel
theorem d_X5_inverted_35 : decode b_X5_inverted 35 = .ok (.iload_n 1, 1) := by decide +kernel
theorem d_X5_inverted_36 : decode b_X5_inverted 36 = .ok (.ifCond .ne 7, 3) := by decide +kernel
theorem d_X5_inverted_39 : decode b_X5_inverted 39 = .ok (.iconst 1, 1) := by decide +kernel
theorem d_X5_inverted_40 : decode b_X5_inverted 40 = .ok (.goto 4, 3) := by decide +kernel
theorem d_X5_inverted_43 : decode b_X5_inverted 43 = .ok (.iconst 0, 1) := by decide +kernel
theorem d_X5_inverted_44 : decode b_X5_inverted 44 = .ok (.ireturn, 1) := by decide +kernel
theorem d_X5_inverted_45 : decode b_X5_inverted 45 = .ok (.iload_n 1, 1) := by decide +kernel
theorem d_X5_inverted_46 : decode b_X5_inverted 46 = .ok (.ifCond .eq 7, 3) := by decide +kernel
theorem d_X5_inverted_49 : decode b_X5_inverted 49 = .ok (.iconst 1, 1) := by decide +kernel
theorem d_X5_inverted_50 : decode b_X5_inverted 50 = .ok (.goto 4, 3) := by decide +kernel
theorem d_X5_inverted_53 : decode b_X5_inverted 53 = .ok (.iconst 0, 1) := by decide +kernel
theorem d_X5_inverted_54 : decode b_X5_inverted 54 = .ok (.ireturn, 1) := by decide +kernel
theorem d_X2_cast_0 : decode b_X2_cast 0 = .ok (.aload_n 0, 1) := by decide +kernel
theorem d_X2_cast_1 : decode b_X2_cast 1 = .ok (.aload_n 0, 1) := by decide +kernel
theorem d_X2_cast_2 : decode b_X2_cast 2 = .ok (.invokevirtual 104, 3) := by decide +kernel
theorem d_X2_cast_5 : decode b_X2_cast 5 = .ok (.invokevirtual 112, 3) := by decide +kernel
theorem d_X2_cast_8 : decode b_X2_cast 8 = .ok (.astore_n 3, 1) := by decide +kernel
theorem d_X2_cast_9 : decode b_X2_cast 9 = .ok (.aload_n 3, 1) := by decide +kernel
theorem d_X2_cast_10 : decode b_X2_cast 10 = .ok (.getfield 233, 3) := by decide +kernel
theorem d_X2_cast_13 : decode b_X2_cast 13 = .ok (.iconst (-1), 1) := by decide +kernel
theorem d_X2_cast_14 : decode b_X2_cast 14 = .ok (.if_icmp .ne 8, 3) := by decide +kernel
theorem d_X2_cast_17 : decode b_X2_cast 17 = .ok (.aload_n 0, 1) := by decide +kernel
theorem d_X2_cast_18 : decode b_X2_cast 18 = .ok (.iload_n 1, 1) := by decide +kernel
theorem d_X2_cast_19 : decode b_X2_cast 19 = .ok (.invokevirtual 219, 3) := by decide +kernel
theorem d_X2_cast_22 : decode b_X2_cast 22 = .ok (.aload_n 3, 1) := by decide +kernel
theorem d_X2_cast_23 : decode b_X2_cast 23 = .ok (.iload_n 2, 1) := by decide +kernel
theorem d_X2_cast_24 : decode b_X2_cast 24 = .ok (.iconst 0, 1) := by decide +kernel
theorem d_X2_cast_25 : decode b_X2_cast 25 = .ok (.invokevirtual 199, 3) := by decide +kernel
theorem d_X2_cast_28 : decode b_X2_cast 28 = .ok (.aload_n 0, 1) := by decide +kernel
theorem d_X2_cast_29 : decode b_X2_cast 29 = .ok (.aload_n 3, 1) := by decide +kernel
theorem d_X2_cast_30 : decode b_X2_cast 30 = .ok (.iconst 1, 1) := by decide +kernel
theorem d_X2_cast_31 : decode b_X2_cast 31 = .ok (.aload_n 3, 1) := by decide +kernel
theorem d_X2_cast_32 : decode b_X2_cast 32 = .ok (.getfield 161, 3) := by decide +kernel
theorem d_X2_cast_35 : decode b_X2_cast 35 = .ok (.iadd, 1) := by decide +kernel
theorem d_X2_cast_36 : decode b_X2_cast 36 = .ok (.iload_n 1, 1) := by decide +kernel
theorem d_X2_cast_37 : decode b_X2_cast 37 = .ok (.invokevirtual 281, 3) := by decide +kernel
theorem d_X2_cast_40 : decode b_X2_cast 40 = .ok (.return_, 1) := by decide +kernel
theorem d_X2_unless_0 : decode b_X2_unless 0 = .ok (.aload_n 0, 1) := by decide +kernel
theorem d_X2_unless_1 : decode b_X2_unless 1 = .ok (.getfield 37, 3) := by decide +kernel
theorem d_X2_unless_4 : decode b_X2_unless 4 = .ok (.getfield 319, 3) := by decide +kernel
theorem d_X2_unless_7 : decode b_X2_unless 7 = .ok (.iconst 2, 1) := by decide +kernel
theorem d_X2_unless_8 : decode b_X2_unless 8 = .ok (.if_icmp .le 45, 3) := by decide +kernel
theorem d_X2_unless_11 : decode b_X2_unless 11 = .ok (.aload_n 1, 1) := by decide +kernel
theorem d_X2_unless_12 : decode b_X2_unless 12 = .ok (.invokevirtual 310, 3) := by decide +kernel
theorem d_X2_unless_15 : decode b_X2_unless 15 = .ok (.ifCond .eq 38, 3) := by decide +kernel
theorem d_X2_unless_18 : decode b_X2_unless 18 = .ok (.aload_n 0, 1) := by decide +kernel
theorem d_X2_unless_19 : decode b_X2_unless 19 = .ok (.getfield 46, 3) := by decide +kernel
theorem d_X2_unless_22 : decode b_X2_unless 22 = .ok (.aload_n 1, 1) := by decide +kernel
theorem d_X2_unless_23 : decode b_X2_unless 23 = .ok (.getfield 322, 3) := by decide +kernel
theorem d_X2_unless_26 : decode b_X2_unless 26 = .ok (.invokevirtual 325, 3) := by decide +kernel
theorem d_X2_unless_29 : decode b_X2_unless 29 = .ok (.aload_n 1, 1) := by decide +kernel
theorem d_X2_unless_30 : decode b_X2_unless 30 = .ok (.getfield 176, 3) := by decide +kernel
theorem d_X2_unless_33 : decode b_X2_unless 33 = .ok (.ifCond .eq 7, 3) := by decide +kernel
theorem d_X2_unless_36 : decode b_X2_unless 36 = .ok (.iload_n 2, 1) := by decide +kernel
theorem d_X2_unless_37 : decode b_X2_unless 37 = .ok (.goto 15, 3) := by decide +kernel
theorem d_X2_unless_40 : decode b_X2_unless 40 = .ok (.aload_n 0, 1) := by decide +kernel
theorem d_X2_unless_41 : decode b_X2_unless 41 = .ok (.getfield 46, 3) := by decide +kernel
theorem d_X2_unless_44 : decode b_X2_unless 44 = .ok (.bipush 26, 2) := by decide +kernel
theorem d_X2_unless_46 : decode b_X2_unless 46 = .ok (.iload_n 2, 1) := by decide +kernel
theorem d_X2_unless_47 : decode b_X2_unless 47 = .ok (.iconst 0, 1) := by decide +kernel
theorem d_X2_unless_48 : decode b_X2_unless 48 = .ok (.iconst 0, 1) := by decide +kernel
theorem d_X2_unless_49 : decode b_X2_unless 49 = .ok (.invokevirtual 155, 3) := by decide +kernel
theorem d_X2_unless_52 : decode b_X2_unless 52 = .ok (.ireturn, 1) := by decide +kernel
theorem d_X2_unless_53 : decode b_X2_unless 53 = .ok (.aload_n 0, 1) := by decide +kernel
theorem d_X2_unless_54 : decode b_X2_unless 54 = .ok (.getfield 46, 3) := by decide +kernel
theorem d_X2_unless_57 : decode b_X2_unless 57 = .ok (.bipush 27, 2) := by decide +kernel
theorem d_X2_unless_59 : decode b_X2_unless 59 = .ok (.iload_n 2, 1) := by decide +kernel
theorem d_X2_unless_60 : decode b_X2_unless 60 = .ok (.iconst 0, 1) := by decide +kernel
theorem d_X2_unless_61 : decode b_X2_unless 61 = .ok (.iconst 0, 1) := by decide +kernel
theorem d_X2_unless_62 : decode b_X2_unless 62 = .ok (.invokevirtual 155, 3) := by decide +kernel
theorem d_X2_unless_65 : decode b_X2_unless 65 = .ok (.ireturn, 1) := by decide +kernel
theorem d_X2_colon_0 : decode b_X2_colon 0 = .ok (.aload_n 0, 1) := by decide +kernel
theorem d_X2_colon_1 : decode b_X2_colon 1 = .ok (.aload_n 0, 1) := by decide +kernel
theorem d_X2_colon_2 : decode b_X2_colon 2 = .ok (.invokevirtual 104, 3) := by decide +kernel
theorem d_X2_colon_5 : decode b_X2_colon 5 = .ok (.invokevirtual 112, 3) := by decide +kernel
theorem d_X2_colon_8 : decode b_X2_colon 8 = .ok (.pop, 1) := by decide +kernel
theorem d_X2_colon_9 : decode b_X2_colon 9 = .ok (.aload_n 0, 1) := by decide +kernel
theorem d_X2_colon_10 : decode b_X2_colon 10 = .ok (.getfield 22, 3) := by decide +kernel
theorem d_X2_colon_13 : decode b_X2_colon 13 = .ok (.iconst 1, 1) := by decide +kernel
theorem d_X2_colon_14 : decode b_X2_colon 14 = .ok (.if_icmp .le 29, 3) := by decide +kernel
theorem d_X2_colon_17 : decode b_X2_colon 17 = .ok (.aload_n 0, 1) := by decide +kernel
theorem d_X2_colon_18 : decode b_X2_colon 18 = .ok (.getfield 22, 3) := by decide +kernel
theorem d_X2_colon_21 : decode b_X2_colon 21 = .ok (.aload_n 0, 1) := by decide +kernel
theorem d_X2_colon_22 : decode b_X2_colon 22 = .ok (.getfield 13, 3) := by decide +kernel
theorem d_X2_colon_25 : decode b_X2_colon 25 = .ok (.arraylength, 1) := by decide +kernel
theorem d_X2_colon_26 : decode b_X2_colon 26 = .ok (.if_icmp .gt 17, 3) := by decide +kernel
theorem d_X2_colon_29 : decode b_X2_colon 29 = .ok (.aload_n 0, 1) := by decide +kernel
theorem d_X2_colon_30 : decode b_X2_colon 30 = .ok (.getfield 13, 3) := by decide +kernel
theorem d_X2_colon_33 : decode b_X2_colon 33 = .ok (.aload_n 0, 1) := by decide +kernel
theorem d_X2_colon_34 : decode b_X2_colon 34 = .ok (.getfield 22, 3) := by decide +kernel
theorem d_X2_colon_37 : decode b_X2_colon 37 = .ok (.iconst 2, 1) := by decide +kernel
theorem d_X2_colon_38 : decode b_X2_colon 38 = .ok (.isub, 1) := by decide +kernel
theorem d_X2_colon_39 : decode b_X2_colon 39 = .ok (.aaload, 1) := by decide +kernel
theorem d_X2_colon_40 : decode b_X2_colon 40 = .ok (.goto 7, 3) := by decide +kernel
theorem d_X2_colon_43 : decode b_X2_colon 43 = .ok (.aload_n 0, 1) := by decide +kernel
theorem d_X2_colon_44 : decode b_X2_colon 44 = .ok (.getfield 18, 3) := by decide +kernel
theorem d_X2_colon_47 : decode b_X2_colon 47 = .ok (.astore_n 1, 1) := by decide +kernel
theorem d_X2_colon_48 : decode b_X2_colon 48 = .ok (.aload_n 0, 1) := by decide +kernel
theorem d_X2_colon_49 : decode b_X2_colon 49 = .ok (.getfield 46, 3) := by decide +kernel
theorem d_X2_colon_52 : decode b_X2_colon 52 = .ok (.bipush 26, 2) := by decide +kernel
theorem d_X2_colon_54 : decode b_X2_colon 54 = .ok (.iconst (-1), 1) := by decide +kernel
theorem d_X2_colon_55 : decode b_X2_colon 55 = .ok (.iconst 0, 1) := by decide +kernel
theorem d_X2_colon_56 : decode b_X2_colon 56 = .ok (.iconst 0, 1) := by decide +kernel
theorem d_X2_colon_57 : decode b_X2_colon 57 = .ok (.invokevirtual 155, 3) := by decide +kernel
theorem d_X2_colon_60 : decode b_X2_colon 60 = .ok (.istore_n 2, 1) := by decide +kernel
theorem d_X2_colon_61 : decode b_X2_colon 61 = .ok (.aload_n 0, 1) := by decide +kernel
theorem d_X2_colon_62 : decode b_X2_colon 62 = .ok (.getfield 46, 3) := by decide +kernel
theorem d_X2_colon_65 : decode b_X2_colon 65 = .ok (.aload_n 1, 1) := by decide +kernel
theorem d_X2_colon_66 : decode b_X2_colon 66 = .ok (.getfield 120, 3) := by decide +kernel
theorem d_X2_colon_69 : decode b_X2_colon 69 = .ok (.aload_n 0, 1) := by decide +kernel
theorem d_X2_colon_70 : decode b_X2_colon 70 = .ok (.getfield 46, 3) := by decide +kernel
theorem d_X2_colon_73 : decode b_X2_colon 73 = .ok (.getfield 137, 3) := by decide +kernel
theorem d_X2_colon_76 : decode b_X2_colon 76 = .ok (.invokevirtual 296, 3) := by decide +kernel
theorem d_X2_colon_79 : decode b_X2_colon 79 = .ok (.aload_n 1, 1) := by decide +kernel
theorem d_X2_colon_80 : decode b_X2_colon 80 = .ok (.iload_n 2, 1) := by decide +kernel
theorem d_X2_colon_81 : decode b_X2_colon 81 = .ok (.putfield 120, 3) := by decide +kernel
theorem d_X2_colon_84 : decode b_X2_colon 84 = .ok (.return_, 1) := by decide +kernel
theorem d_X2_choice_0 : decode b_X2_choice 0 = .ok (.aload_n 0, 1) := by decide +kernel
theorem d_X2_choice_1 : decode b_X2_choice 1 = .ok (.invokevirtual 259, 3) := by decide +kernel
theorem d_X2_choice_4 : decode b_X2_choice 4 = .ok (.astore_n 2, 1) := by decide +kernel
theorem d_X2_choice_5 : decode b_X2_choice 5 = .ok (.aload_n 0, 1) := by decide +kernel
theorem d_X2_choice_6 : decode b_X2_choice 6 = .ok (.invokevirtual 259, 3) := by decide +kernel
theorem d_X2_choice_9 : decode b_X2_choice 9 = .ok (.astore_n 3, 1) := by decide +kernel
theorem d_X2_choice_10 : decode b_X2_choice 10 = .ok (.aload_n 0, 1) := by decide +kernel
theorem d_X2_choice_11 : decode b_X2_choice 11 = .ok (.invokevirtual 104, 3) := by decide +kernel
theorem d_X2_choice_14 : decode b_X2_choice 14 = .ok (.astore 4, 2) := by decide +kernel
theorem d_X2_choice_16 : decode b_X2_choice 16 = .ok (.aload_n 0, 1) := by decide +kernel
theorem d_X2_choice_17 : decode b_X2_choice 17 = .ok (.getfield 46, 3) := by decide +kernel
theorem d_X2_choice_20 : decode b_X2_choice 20 = .ok (.aload 4, 2) := by decide +kernel
theorem d_X2_choice_22 : decode b_X2_choice 22 = .ok (.getfield 120, 3) := by decide +kernel
theorem d_X2_choice_25 : decode b_X2_choice 25 = .ok (.aload_n 0, 1) := by decide +kernel
theorem d_X2_choice_26 : decode b_X2_choice 26 = .ok (.getfield 46, 3) := by decide +kernel
theorem d_X2_choice_29 : decode b_X2_choice 29 = .ok (.getfield 137, 3) := by decide +kernel
theorem d_X2_choice_32 : decode b_X2_choice 32 = .ok (.invokevirtual 296, 3) := by decide +kernel
theorem d_X2_choice_35 : decode b_X2_choice 35 = .ok (.aload 4, 2) := by decide +kernel
theorem d_X2_choice_37 : decode b_X2_choice 37 = .ok (.getfield 233, 3) := by decide +kernel
theorem d_X2_choice_40 : decode b_X2_choice 40 = .ok (.iconst (-1), 1) := by decide +kernel
theorem d_X2_choice_41 : decode b_X2_choice 41 = .ok (.if_icmp .eq 25, 3) := by decide +kernel
theorem d_X2_choice_44 : decode b_X2_choice 44 = .ok (.aload_n 2, 1) := by decide +kernel
theorem d_X2_choice_45 : decode b_X2_choice 45 = .ok (.aload_n 3, 1) := by decide +kernel
theorem d_X2_choice_46 : decode b_X2_choice 46 = .ok (.getfield 233, 3) := by decide +kernel
theorem d_X2_choice_49 : decode b_X2_choice 49 = .ok (.invokevirtual 271, 3) := by decide +kernel
theorem d_X2_choice_52 : decode b_X2_choice 52 = .ok (.ifCond .ne 19, 3) := by decide +kernel
theorem d_X2_choice_55 : decode b_X2_choice 55 = .ok (.aload_n 3, 1) := by decide +kernel
theorem d_X2_choice_56 : decode b_X2_choice 56 = .ok (.aload_n 2, 1) := by decide +kernel
theorem d_X2_choice_57 : decode b_X2_choice 57 = .ok (.getfield 233, 3) := by decide +kernel
theorem d_X2_choice_60 : decode b_X2_choice 60 = .ok (.invokevirtual 271, 3) := by decide +kernel
theorem d_X2_choice_63 : decode b_X2_choice 63 = .ok (.ifCond .ne 8, 3) := by decide +kernel
theorem d_X2_choice_66 : decode b_X2_choice 66 = .ok (.aload_n 0, 1) := by decide +kernel
theorem d_X2_choice_67 : decode b_X2_choice 67 = .ok (.iload_n 1, 1) := by decide +kernel
theorem d_X2_choice_68 : decode b_X2_choice 68 = .ok (.invokevirtual 219, 3) := by decide +kernel
theorem d_X2_choice_71 : decode b_X2_choice 71 = .ok (.aload 4, 2) := by decide +kernel
theorem d_X2_choice_73 : decode b_X2_choice 73 = .ok (.getfield 161, 3) := by decide +kernel
theorem d_X2_choice_76 : decode b_X2_choice 76 = .ok (.aload_n 3, 1) := by decide +kernel
theorem d_X2_choice_77 : decode b_X2_choice 77 = .ok (.getfield 161, 3) := by decide +kernel
theorem d_X2_choice_80 : decode b_X2_choice 80 = .ok (.aload_n 2, 1) := by decide +kernel
theorem d_X2_choice_81 : decode b_X2_choice 81 = .ok (.getfield 161, 3) := by decide +kernel
theorem d_X2_choice_84 : decode b_X2_choice 84 = .ok (.invokestatic 222, 3) := by decide +kernel
theorem d_X2_choice_87 : decode b_X2_choice 87 = .ok (.invokestatic 222, 3) := by decide +kernel
theorem d_X2_choice_90 : decode b_X2_choice 90 = .ok (.istore 5, 2) := by decide +kernel
theorem d_X2_choice_92 : decode b_X2_choice 92 = .ok (.aload 4, 2) := by decide +kernel
theorem d_X2_choice_94 : decode b_X2_choice 94 = .ok (.aload_n 3, 1) := by decide +kernel
theorem d_X2_choice_95 : decode b_X2_choice 95 = .ok (.getfield 233, 3) := by decide +kernel
theorem d_X2_choice_98 : decode b_X2_choice 98 = .ok (.aload_n 2, 1) := by decide +kernel
theorem d_X2_choice_99 : decode b_X2_choice 99 = .ok (.getfield 233, 3) := by decide +kernel
theorem d_X2_choice_102 : decode b_X2_choice 102 = .ok (.invokestatic 222, 3) := by decide +kernel
theorem d_X2_choice_105 : decode b_X2_choice 105 = .ok (.iconst 0, 1) := by decide +kernel
theorem d_X2_choice_106 : decode b_X2_choice 106 = .ok (.invokevirtual 199, 3) := by decide +kernel
theorem d_X2_choice_109 : decode b_X2_choice 109 = .ok (.aload_n 0, 1) := by decide +kernel
theorem d_X2_choice_110 : decode b_X2_choice 110 = .ok (.aload 4, 2) := by decide +kernel
theorem d_X2_choice_112 : decode b_X2_choice 112 = .ok (.iconst 1, 1) := by decide +kernel
theorem d_X2_choice_113 : decode b_X2_choice 113 = .ok (.iload 5, 2) := by decide +kernel
theorem d_X2_choice_115 : decode b_X2_choice 115 = .ok (.iadd, 1) := by decide +kernel
theorem d_X2_choice_116 : decode b_X2_choice 116 = .ok (.iload_n 1, 1) := by decide +kernel
theorem d_X2_choice_117 : decode b_X2_choice 117 = .ok (.invokevirtual 281, 3) := by decide +kernel
theorem d_X2_choice_120 : decode b_X2_choice 120 = .ok (.return_, 1) := by decide +kernel
theorem d_X7_take_0 : decode b_X7_take 0 = .ok (.aload_n 0, 1) := by decide +kernel
theorem d_X7_take_1 : decode b_X7_take 1 = .ok (.getfield 30, 3) := by decide +kernel
theorem d_X7_take_4 : decode b_X7_take 4 = .ok (.getfield 130, 3) := by decide +kernel
theorem d_X7_take_7 : decode b_X7_take 7 = .ok (.iload_n 2, 1) := by decide +kernel
theorem d_X7_take_8 : decode b_X7_take 8 = .ok (.invokestatic 80, 3) := by decide +kernel
theorem d_X7_take_11 : decode b_X7_take 11 = .ok (.istore_n 3, 1) := by decide +kernel
theorem d_X7_take_12 : decode b_X7_take 12 = .ok (.aload_n 0, 1) := by decide +kernel
theorem d_X7_take_13 : decode b_X7_take 13 = .ok (.getfield 30, 3) := by decide +kernel
theorem d_X7_take_16 : decode b_X7_take 16 = .ok (.getfield 91, 3) := by decide +kernel
theorem d_X7_take_19 : decode b_X7_take 19 = .ok (.iload_n 2, 1) := by decide +kernel
theorem d_X7_take_20 : decode b_X7_take 20 = .ok (.invokestatic 80, 3) := by decide +kernel
theorem d_X7_take_23 : decode b_X7_take 23 = .ok (.ifCond .eq 7, 3) := by decide +kernel
theorem d_X7_take_26 : decode b_X7_take 26 = .ok (.iconst 1, 1) := by decide +kernel
theorem d_X7_take_27 : decode b_X7_take 27 = .ok (.goto 4, 3) := by decide +kernel
theorem d_X7_take_30 : decode b_X7_take 30 = .ok (.iconst 0, 1) := by decide +kernel
theorem d_X7_take_31 : decode b_X7_take 31 = .ok (.istore 4, 2) := by decide +kernel
theorem d_X7_take_33 : decode b_X7_take 33 = .ok (.iload_n 1, 1) := by decide +kernel
theorem d_X7_take_34 : decode b_X7_take 34 = .ok (.tableswitch 195 20 38 #[90, 100, 110, 133, 133, 133, 177, 177, 177, 186, 186, 186, 195, 195, 195, 195, 142, 142, 167], 90) := by decide +kernel
theorem d_X7_take_124 : decode b_X7_take 124 = .ok (.aload_n 0, 1) := by decide +kernel
theorem d_X7_take_125 : decode b_X7_take 125 = .ok (.getfield 34, 3) := by decide +kernel
theorem d_X7_take_128 : decode b_X7_take 128 = .ok (.invokevirtual 133, 3) := by decide +kernel
theorem d_X7_take_131 : decode b_X7_take 131 = .ok (.goto 106, 3) := by decide +kernel
theorem d_X7_take_134 : decode b_X7_take 134 = .ok (.aload_n 0, 1) := by decide +kernel
theorem d_X7_take_135 : decode b_X7_take 135 = .ok (.getfield 34, 3) := by decide +kernel
theorem d_X7_take_138 : decode b_X7_take 138 = .ok (.invokevirtual 135, 3) := by decide +kernel
theorem d_X7_take_141 : decode b_X7_take 141 = .ok (.goto 96, 3) := by decide +kernel
theorem d_X7_take_144 : decode b_X7_take 144 = .ok (.aload_n 0, 1) := by decide +kernel
theorem d_X7_take_145 : decode b_X7_take 145 = .ok (.getfield 49, 3) := by decide +kernel
theorem d_X7_take_148 : decode b_X7_take 148 = .ok (.invokevirtual 138, 3) := by decide +kernel
theorem d_X7_take_151 : decode b_X7_take 151 = .ok (.pop, 1) := by decide +kernel
theorem d_X7_take_152 : decode b_X7_take 152 = .ok (.aload_n 0, 1) := by decide +kernel
theorem d_X7_take_153 : decode b_X7_take 153 = .ok (.getfield 44, 3) := by decide +kernel
theorem d_X7_take_156 : decode b_X7_take 156 = .ok (.iconst 2, 1) := by decide +kernel
theorem d_X7_take_157 : decode b_X7_take 157 = .ok (.iconst 0, 1) := by decide +kernel
theorem d_X7_take_158 : decode b_X7_take 158 = .ok (.iconst 0, 1) := by decide +kernel
theorem d_X7_take_159 : decode b_X7_take 159 = .ok (.iconst 0, 1) := by decide +kernel
theorem d_X7_take_160 : decode b_X7_take 160 = .ok (.invokevirtual 141, 3) := by decide +kernel
theorem d_X7_take_163 : decode b_X7_take 163 = .ok (.pop, 1) := by decide +kernel
theorem d_X7_take_164 : decode b_X7_take 164 = .ok (.goto 73, 3) := by decide +kernel
theorem d_X7_take_167 : decode b_X7_take 167 = .ok (.aload_n 0, 1) := by decide +kernel
theorem d_X7_take_168 : decode b_X7_take 168 = .ok (.iload_n 1, 1) := by decide +kernel
theorem d_X7_take_169 : decode b_X7_take 169 = .ok (.iload_n 3, 1) := by decide +kernel
theorem d_X7_take_170 : decode b_X7_take 170 = .ok (.invokevirtual 145, 3) := by decide +kernel
theorem d_X7_take_173 : decode b_X7_take 173 = .ok (.goto 64, 3) := by decide +kernel
theorem d_X7_take_176 : decode b_X7_take 176 = .ok (.aload_n 0, 1) := by decide +kernel
theorem d_X7_take_177 : decode b_X7_take 177 = .ok (.iload_n 3, 1) := by decide +kernel
theorem d_X7_take_178 : decode b_X7_take 178 = .ok (.iload_n 1, 1) := by decide +kernel
theorem d_X7_take_179 : decode b_X7_take 179 = .ok (.bipush 36, 2) := by decide +kernel
theorem d_X7_take_181 : decode b_X7_take 181 = .ok (.if_icmp .ne 10, 3) := by decide +kernel
theorem d_X7_take_184 : decode b_X7_take 184 = .ok (.aload_n 0, 1) := by decide +kernel
theorem d_X7_take_185 : decode b_X7_take 185 = .ok (.getfield 18, 3) := by decide +kernel
theorem d_X7_take_188 : decode b_X7_take 188 = .ok (.goto 7, 3) := by decide +kernel
theorem d_X7_take_191 : decode b_X7_take 191 = .ok (.aload_n 0, 1) := by decide +kernel
theorem d_X7_take_192 : decode b_X7_take 192 = .ok (.getfield 21, 3) := by decide +kernel
theorem d_X7_take_195 : decode b_X7_take 195 = .ok (.invokevirtual 148, 3) := by decide +kernel
theorem d_X7_take_198 : decode b_X7_take 198 = .ok (.goto 39, 3) := by decide +kernel
theorem d_X7_take_201 : decode b_X7_take 201 = .ok (.aload_n 0, 1) := by decide +kernel
theorem d_X7_take_202 : decode b_X7_take 202 = .ok (.iload_n 3, 1) := by decide +kernel
theorem d_X7_take_203 : decode b_X7_take 203 = .ok (.iload 4, 2) := by decide +kernel
theorem d_X7_take_205 : decode b_X7_take 205 = .ok (.invokevirtual 152, 3) := by decide +kernel
theorem d_X7_take_208 : decode b_X7_take 208 = .ok (.goto 29, 3) := by decide +kernel
theorem d_X7_take_211 : decode b_X7_take 211 = .ok (.aload_n 0, 1) := by decide +kernel
theorem d_X7_take_212 : decode b_X7_take 212 = .ok (.iload_n 1, 1) := by decide +kernel
theorem d_X7_take_213 : decode b_X7_take 213 = .ok (.iload_n 3, 1) := by decide +kernel
theorem d_X7_take_214 : decode b_X7_take 214 = .ok (.invokevirtual 156, 3) := by decide +kernel
theorem d_X7_take_217 : decode b_X7_take 217 = .ok (.goto 20, 3) := by decide +kernel
theorem d_X7_take_220 : decode b_X7_take 220 = .ok (.aload_n 0, 1) := by decide +kernel
theorem d_X7_take_221 : decode b_X7_take 221 = .ok (.iload_n 1, 1) := by decide +kernel
theorem d_X7_take_222 : decode b_X7_take 222 = .ok (.iload_n 3, 1) := by decide +kernel
theorem d_X7_take_223 : decode b_X7_take 223 = .ok (.invokevirtual 159, 3) := by decide +kernel
theorem d_X7_take_226 : decode b_X7_take 226 = .ok (.goto 11, 3) := by decide +kernel
theorem d_X7_take_229 : decode b_X7_take 229 = .ok (.aload_n 0, 1) := by decide +kernel
theorem d_X7_take_230 : decode b_X7_take 230 = .ok (.iload_n 1, 1) := by decide +kernel
theorem d_X7_take_231 : decode b_X7_take 231 = .ok (.iload_n 3, 1) := by decide +kernel
theorem d_X7_take_232 : decode b_X7_take 232 = .ok (.iload 4, 2) := by decide +kernel
theorem d_X7_take_234 : decode b_X7_take 234 = .ok (.invokevirtual 162, 3) := by decide +kernel
theorem d_X7_take_237 : decode b_X7_take 237 = .ok (.return_, 1) := by decide +kernel
theorem d_X11_open_0 : decode b_X11_open 0 = .ok (.aload_n 0, 1) := by decide +kernel
theorem d_X11_open_1 : decode b_X11_open 1 = .ok (.getfield 33, 3) := by decide +kernel
theorem d_X11_open_4 : decode b_X11_open 4 = .ok (.aload_n 0, 1) := by decide +kernel
theorem d_X11_open_5 : decode b_X11_open 5 = .ok (.getfield 75, 3) := by decide +kernel
theorem d_X11_open_8 : decode b_X11_open 8 = .ok (.aload_n 0, 1) := by decide +kernel
theorem d_X11_open_9 : decode b_X11_open 9 = .ok (.getfield 72, 3) := by decide +kernel
theorem d_X11_open_12 : decode b_X11_open 12 = .ok (.invokestatic 78, 3) := by decide +kernel
theorem d_X11_open_15 : decode b_X11_open 15 = .ok (.aload_n 0, 1) := by decide +kernel
theorem d_X11_open_16 : decode b_X11_open 16 = .ok (.dup, 1) := by decide +kernel
theorem d_X11_open_17 : decode b_X11_open 17 = .ok (.getfield 75, 3) := by decide +kernel
theorem d_X11_open_20 : decode b_X11_open 20 = .ok (.iconst 1, 1) := by decide +kernel
theorem d_X11_open_21 : decode b_X11_open 21 = .ok (.iadd, 1) := by decide +kernel
theorem d_X11_open_22 : decode b_X11_open 22 = .ok (.putfield 75, 3) := by decide +kernel
theorem d_X11_open_25 : decode b_X11_open 25 = .ok (.return_, 1) := by decide +kernel
theorem d_X11_close_0 : decode b_X11_close 0 = .ok (.aload_n 0, 1) := by decide +kernel
theorem d_X11_close_1 : decode b_X11_close 1 = .ok (.dup, 1) := by decide +kernel
theorem d_X11_close_2 : decode b_X11_close 2 = .ok (.getfield 75, 3) := by decide +kernel
theorem d_X11_close_5 : decode b_X11_close 5 = .ok (.iconst 1, 1) := by decide +kernel
theorem d_X11_close_6 : decode b_X11_close 6 = .ok (.isub, 1) := by decide +kernel
theorem d_X11_close_7 : decode b_X11_close 7 = .ok (.putfield 75, 3) := by decide +kernel
theorem d_X11_close_10 : decode b_X11_close 10 = .ok (.aload_n 0, 1) := by decide +kernel
theorem d_X11_close_11 : decode b_X11_close 11 = .ok (.aload_n 0, 1) := by decide +kernel
theorem d_X11_close_12 : decode b_X11_close 12 = .ok (.getfield 33, 3) := by decide +kernel
theorem d_X11_close_15 : decode b_X11_close 15 = .ok (.aload_n 0, 1) := by decide +kernel
theorem d_X11_close_16 : decode b_X11_close 16 = .ok (.getfield 75, 3) := by decide +kernel
theorem d_X11_close_19 : decode b_X11_close 19 = .ok (.invokestatic 82, 3) := by decide +kernel
theorem d_X11_close_22 : decode b_X11_close 22 = .ok (.putfield 72, 3) := by decide +kernel
theorem d_X11_close_25 : decode b_X11_close 25 = .ok (.return_, 1) := by decide +kernel
theorem d_X7_conditional_0 : decode b_X7_conditional 0 = .ok (.iload_n 1, 1) := by decide +kernel
theorem d_X7_conditional_1 : decode b_X7_conditional 1 = .ok (.bipush 23, 2) := by decide +kernel
theorem d_X7_conditional_3 : decode b_X7_conditional 3 = .ok (.if_icmp .ne 22, 3) := by decide +kernel
theorem d_X7_conditional_6 : decode b_X7_conditional 6 = .ok (.aload_n 0, 1) := by decide +kernel
theorem d_X7_conditional_7 : decode b_X7_conditional 7 = .ok (.iload_n 2, 1) := by decide +kernel
theorem d_X7_conditional_8 : decode b_X7_conditional 8 = .ok (.invokevirtual 192, 3) := by decide +kernel
theorem d_X7_conditional_11 : decode b_X7_conditional 11 = .ok (.astore_n 3, 1) := by decide +kernel
theorem d_X7_conditional_12 : decode b_X7_conditional 12 = .ok (.aload_n 0, 1) := by decide +kernel
theorem d_X7_conditional_13 : decode b_X7_conditional 13 = .ok (.iconst 0, 1) := by decide +kernel
theorem d_X7_conditional_14 : decode b_X7_conditional 14 = .ok (.invokevirtual 196, 3) := by decide +kernel
theorem d_X7_conditional_17 : decode b_X7_conditional 17 = .ok (.aload_n 0, 1) := by decide +kernel
theorem d_X7_conditional_18 : decode b_X7_conditional 18 = .ok (.aload_n 3, 1) := by decide +kernel
theorem d_X7_conditional_19 : decode b_X7_conditional 19 = .ok (.invokevirtual 199, 3) := by decide +kernel
theorem d_X7_conditional_22 : decode b_X7_conditional 22 = .ok (.goto 70, 3) := by decide +kernel
theorem d_X7_conditional_25 : decode b_X7_conditional 25 = .ok (.iload_n 1, 1) := by decide +kernel
theorem d_X7_conditional_26 : decode b_X7_conditional 26 = .ok (.bipush 24, 2) := by decide +kernel
theorem d_X7_conditional_28 : decode b_X7_conditional 28 = .ok (.if_icmp .ne 60, 3) := by decide +kernel
theorem d_X7_conditional_31 : decode b_X7_conditional 31 = .ok (.aload_n 0, 1) := by decide +kernel
theorem d_X7_conditional_32 : decode b_X7_conditional 32 = .ok (.getfield 44, 3) := by decide +kernel
theorem d_X7_conditional_35 : decode b_X7_conditional 35 = .ok (.bipush 26, 2) := by decide +kernel
theorem d_X7_conditional_37 : decode b_X7_conditional 37 = .ok (.iconst (-1), 1) := by decide +kernel
theorem d_X7_conditional_38 : decode b_X7_conditional 38 = .ok (.iconst 0, 1) := by decide +kernel
theorem d_X7_conditional_39 : decode b_X7_conditional 39 = .ok (.iconst 0, 1) := by decide +kernel
theorem d_X7_conditional_40 : decode b_X7_conditional 40 = .ok (.invokevirtual 141, 3) := by decide +kernel
theorem d_X7_conditional_43 : decode b_X7_conditional 43 = .ok (.istore_n 3, 1) := by decide +kernel
theorem d_X7_conditional_44 : decode b_X7_conditional 44 = .ok (.aload_n 0, 1) := by decide +kernel
theorem d_X7_conditional_45 : decode b_X7_conditional 45 = .ok (.getfield 44, 3) := by decide +kernel
theorem d_X7_conditional_48 : decode b_X7_conditional 48 = .ok (.aload_n 0, 1) := by decide +kernel
theorem d_X7_conditional_49 : decode b_X7_conditional 49 = .ok (.getfield 18, 3) := by decide +kernel
theorem d_X7_conditional_52 : decode b_X7_conditional 52 = .ok (.aload_n 0, 1) := by decide +kernel
theorem d_X7_conditional_53 : decode b_X7_conditional 53 = .ok (.getfield 68, 3) := by decide +kernel
theorem d_X7_conditional_56 : decode b_X7_conditional 56 = .ok (.iconst 1, 1) := by decide +kernel
theorem d_X7_conditional_57 : decode b_X7_conditional 57 = .ok (.isub, 1) := by decide +kernel
theorem d_X7_conditional_58 : decode b_X7_conditional 58 = .ok (.invokestatic 80, 3) := by decide +kernel
theorem d_X7_conditional_61 : decode b_X7_conditional 61 = .ok (.aload_n 0, 1) := by decide +kernel
theorem d_X7_conditional_62 : decode b_X7_conditional 62 = .ok (.getfield 44, 3) := by decide +kernel
theorem d_X7_conditional_65 : decode b_X7_conditional 65 = .ok (.getfield 109, 3) := by decide +kernel
theorem d_X7_conditional_68 : decode b_X7_conditional 68 = .ok (.invokevirtual 170, 3) := by decide +kernel
theorem d_X7_conditional_71 : decode b_X7_conditional 71 = .ok (.aload_n 0, 1) := by decide +kernel
theorem d_X7_conditional_72 : decode b_X7_conditional 72 = .ok (.getfield 18, 3) := by decide +kernel
theorem d_X7_conditional_75 : decode b_X7_conditional 75 = .ok (.aload_n 0, 1) := by decide +kernel
theorem d_X7_conditional_76 : decode b_X7_conditional 76 = .ok (.getfield 68, 3) := by decide +kernel
theorem d_X7_conditional_79 : decode b_X7_conditional 79 = .ok (.iconst 1, 1) := by decide +kernel
theorem d_X7_conditional_80 : decode b_X7_conditional 80 = .ok (.isub, 1) := by decide +kernel
theorem d_X7_conditional_81 : decode b_X7_conditional 81 = .ok (.iload_n 3, 1) := by decide +kernel
theorem d_X7_conditional_82 : decode b_X7_conditional 82 = .ok (.invokestatic 166, 3) := by decide +kernel
theorem d_X7_conditional_85 : decode b_X7_conditional 85 = .ok (.goto 7, 3) := by decide +kernel
theorem d_X7_conditional_88 : decode b_X7_conditional 88 = .ok (.aload_n 0, 1) := by decide +kernel
theorem d_X7_conditional_89 : decode b_X7_conditional 89 = .ok (.invokevirtual 203, 3) := by decide +kernel
theorem d_X7_conditional_92 : decode b_X7_conditional 92 = .ok (.return_, 1) := by decide +kernel
theorem d_X7_condition_0 : decode b_X7_condition 0 = .ok (.aload_n 0, 1) := by decide +kernel
theorem d_X7_condition_1 : decode b_X7_condition 1 = .ok (.getfield 49, 3) := by decide +kernel
theorem d_X7_condition_4 : decode b_X7_condition 4 = .ok (.invokevirtual 138, 3) := by decide +kernel
theorem d_X7_condition_7 : decode b_X7_condition 7 = .ok (.astore_n 2, 1) := by decide +kernel
theorem d_X7_condition_8 : decode b_X7_condition 8 = .ok (.aload_n 2, 1) := by decide +kernel
theorem d_X7_condition_9 : decode b_X7_condition 9 = .ok (.getfield 173, 3) := by decide +kernel
theorem d_X7_condition_12 : decode b_X7_condition 12 = .ok (.iconst (-1), 1) := by decide +kernel
theorem d_X7_condition_13 : decode b_X7_condition 13 = .ok (.if_icmp .ne 12, 3) := by decide +kernel
theorem d_X7_condition_16 : decode b_X7_condition 16 = .ok (.aload_n 0, 1) := by decide +kernel
theorem d_X7_condition_17 : decode b_X7_condition 17 = .ok (.getfield 34, 3) := by decide +kernel
theorem d_X7_condition_20 : decode b_X7_condition 20 = .ok (.iconst 2, 1) := by decide +kernel
theorem d_X7_condition_21 : decode b_X7_condition 21 = .ok (.iload_n 1, 1) := by decide +kernel
theorem d_X7_condition_22 : decode b_X7_condition 22 = .ok (.invokevirtual 176, 3) := by decide +kernel
theorem d_X7_condition_25 : decode b_X7_condition 25 = .ok (.aload_n 2, 1) := by decide +kernel
theorem d_X7_condition_26 : decode b_X7_condition 26 = .ok (.areturn, 1) := by decide +kernel
theorem d_X7_begin_0 : decode b_X7_begin 0 = .ok (.aload_n 0, 1) := by decide +kernel
theorem d_X7_begin_1 : decode b_X7_begin 1 = .ok (.getfield 11, 3) := by decide +kernel
theorem d_X7_begin_4 : decode b_X7_begin 4 = .ok (.aload_n 0, 1) := by decide +kernel
theorem d_X7_begin_5 : decode b_X7_begin 5 = .ok (.getfield 68, 3) := by decide +kernel
theorem d_X7_begin_8 : decode b_X7_begin 8 = .ok (.iload_n 1, 1) := by decide +kernel
theorem d_X7_begin_9 : decode b_X7_begin 9 = .ok (.ifCond .eq 7, 3) := by decide +kernel
theorem d_X7_begin_12 : decode b_X7_begin 12 = .ok (.iconst 1, 1) := by decide +kernel
theorem d_X7_begin_13 : decode b_X7_begin 13 = .ok (.goto 4, 3) := by decide +kernel
theorem d_X7_begin_16 : decode b_X7_begin 16 = .ok (.iconst 0, 1) := by decide +kernel
theorem d_X7_begin_17 : decode b_X7_begin 17 = .ok (.invokestatic 166, 3) := by decide +kernel
theorem d_X7_begin_20 : decode b_X7_begin 20 = .ok (.aload_n 0, 1) := by decide +kernel
theorem d_X7_begin_21 : decode b_X7_begin 21 = .ok (.getfield 15, 3) := by decide +kernel
theorem d_X7_begin_24 : decode b_X7_begin 24 = .ok (.aload_n 0, 1) := by decide +kernel
theorem d_X7_begin_25 : decode b_X7_begin 25 = .ok (.getfield 68, 3) := by decide +kernel
theorem d_X7_begin_28 : decode b_X7_begin 28 = .ok (.aload_n 0, 1) := by decide +kernel
theorem d_X7_begin_29 : decode b_X7_begin 29 = .ok (.getfield 44, 3) := by decide +kernel
theorem d_X7_begin_32 : decode b_X7_begin 32 = .ok (.getfield 109, 3) := by decide +kernel
theorem d_X7_begin_35 : decode b_X7_begin 35 = .ok (.invokestatic 166, 3) := by decide +kernel
theorem d_X7_begin_38 : decode b_X7_begin 38 = .ok (.aload_n 0, 1) := by decide +kernel
theorem d_X7_begin_39 : decode b_X7_begin 39 = .ok (.getfield 18, 3) := by decide +kernel
theorem d_X7_begin_42 : decode b_X7_begin 42 = .ok (.aload_n 0, 1) := by decide +kernel
theorem d_X7_begin_43 : decode b_X7_begin 43 = .ok (.getfield 68, 3) := by decide +kernel
theorem d_X7_begin_46 : decode b_X7_begin 46 = .ok (.iconst (-1), 1) := by decide +kernel
theorem d_X7_begin_47 : decode b_X7_begin 47 = .ok (.invokestatic 166, 3) := by decide +kernel
theorem d_X7_begin_50 : decode b_X7_begin 50 = .ok (.aload_n 0, 1) := by decide +kernel
theorem d_X7_begin_51 : decode b_X7_begin 51 = .ok (.getfield 21, 3) := by decide +kernel
theorem d_X7_begin_54 : decode b_X7_begin 54 = .ok (.aload_n 0, 1) := by decide +kernel
theorem d_X7_begin_55 : decode b_X7_begin 55 = .ok (.getfield 68, 3) := by decide +kernel
theorem d_X7_begin_58 : decode b_X7_begin 58 = .ok (.iconst (-1), 1) := by decide +kernel
theorem d_X7_begin_59 : decode b_X7_begin 59 = .ok (.invokestatic 166, 3) := by decide +kernel
theorem d_X7_begin_62 : decode b_X7_begin 62 = .ok (.aload_n 0, 1) := by decide +kernel
theorem d_X7_begin_63 : decode b_X7_begin 63 = .ok (.dup, 1) := by decide +kernel
theorem d_X7_begin_64 : decode b_X7_begin 64 = .ok (.getfield 68, 3) := by decide +kernel
theorem d_X7_begin_67 : decode b_X7_begin 67 = .ok (.iconst 1, 1) := by decide +kernel
theorem d_X7_begin_68 : decode b_X7_begin 68 = .ok (.iadd, 1) := by decide +kernel
theorem d_X7_begin_69 : decode b_X7_begin 69 = .ok (.putfield 68, 3) := by decide +kernel
theorem d_X7_begin_72 : decode b_X7_begin 72 = .ok (.return_, 1) := by decide +kernel
theorem d_X7_exitUnless_0 : decode b_X7_exitUnless 0 = .ok (.aload_n 0, 1) := by decide +kernel
theorem d_X7_exitUnless_1 : decode b_X7_exitUnless 1 = .ok (.getfield 18, 3) := by decide +kernel
theorem d_X7_exitUnless_4 : decode b_X7_exitUnless 4 = .ok (.aload_n 0, 1) := by decide +kernel
theorem d_X7_exitUnless_5 : decode b_X7_exitUnless 5 = .ok (.getfield 68, 3) := by decide +kernel
theorem d_X7_exitUnless_8 : decode b_X7_exitUnless 8 = .ok (.iconst 1, 1) := by decide +kernel
theorem d_X7_exitUnless_9 : decode b_X7_exitUnless 9 = .ok (.isub, 1) := by decide +kernel
theorem d_X7_exitUnless_10 : decode b_X7_exitUnless 10 = .ok (.aload_n 0, 1) := by decide +kernel
theorem d_X7_exitUnless_11 : decode b_X7_exitUnless 11 = .ok (.getfield 49, 3) := by decide +kernel
theorem d_X7_exitUnless_14 : decode b_X7_exitUnless 14 = .ok (.aload_n 1, 1) := by decide +kernel
theorem d_X7_exitUnless_15 : decode b_X7_exitUnless 15 = .ok (.aload_n 0, 1) := by decide +kernel
theorem d_X7_exitUnless_16 : decode b_X7_exitUnless 16 = .ok (.getfield 18, 3) := by decide +kernel
theorem d_X7_exitUnless_19 : decode b_X7_exitUnless 19 = .ok (.aload_n 0, 1) := by decide +kernel
theorem d_X7_exitUnless_20 : decode b_X7_exitUnless 20 = .ok (.getfield 68, 3) := by decide +kernel
theorem d_X7_exitUnless_23 : decode b_X7_exitUnless 23 = .ok (.iconst 1, 1) := by decide +kernel
theorem d_X7_exitUnless_24 : decode b_X7_exitUnless 24 = .ok (.isub, 1) := by decide +kernel
theorem d_X7_exitUnless_25 : decode b_X7_exitUnless 25 = .ok (.invokestatic 80, 3) := by decide +kernel
theorem d_X7_exitUnless_28 : decode b_X7_exitUnless 28 = .ok (.invokevirtual 179, 3) := by decide +kernel
theorem d_X7_exitUnless_31 : decode b_X7_exitUnless 31 = .ok (.invokestatic 166, 3) := by decide +kernel
theorem d_X7_exitUnless_34 : decode b_X7_exitUnless 34 = .ok (.return_, 1) := by decide +kernel
theorem d_X7_finish_0 : decode b_X7_finish 0 = .ok (.aload_n 0, 1) := by decide +kernel
theorem d_X7_finish_1 : decode b_X7_finish 1 = .ok (.dup, 1) := by decide +kernel
theorem d_X7_finish_2 : decode b_X7_finish 2 = .ok (.getfield 68, 3) := by decide +kernel
theorem d_X7_finish_5 : decode b_X7_finish 5 = .ok (.iconst 1, 1) := by decide +kernel
theorem d_X7_finish_6 : decode b_X7_finish 6 = .ok (.isub, 1) := by decide +kernel
theorem d_X7_finish_7 : decode b_X7_finish 7 = .ok (.putfield 68, 3) := by decide +kernel
theorem d_X7_finish_10 : decode b_X7_finish 10 = .ok (.aload_n 0, 1) := by decide +kernel
theorem d_X7_finish_11 : decode b_X7_finish 11 = .ok (.getfield 44, 3) := by decide +kernel
theorem d_X7_finish_14 : decode b_X7_finish 14 = .ok (.aload_n 0, 1) := by decide +kernel
theorem d_X7_finish_15 : decode b_X7_finish 15 = .ok (.getfield 18, 3) := by decide +kernel
theorem d_X7_finish_18 : decode b_X7_finish 18 = .ok (.aload_n 0, 1) := by decide +kernel
theorem d_X7_finish_19 : decode b_X7_finish 19 = .ok (.getfield 68, 3) := by decide +kernel
theorem d_X7_finish_22 : decode b_X7_finish 22 = .ok (.invokestatic 80, 3) := by decide +kernel
theorem d_X7_finish_25 : decode b_X7_finish 25 = .ok (.aload_n 0, 1) := by decide +kernel
theorem d_X7_finish_26 : decode b_X7_finish 26 = .ok (.getfield 44, 3) := by decide +kernel
theorem d_X7_finish_29 : decode b_X7_finish 29 = .ok (.getfield 109, 3) := by decide +kernel
theorem d_X7_finish_32 : decode b_X7_finish 32 = .ok (.invokevirtual 170, 3) := by decide +kernel
theorem d_X7_finish_35 : decode b_X7_finish 35 = .ok (.return_, 1) := by decide +kernel
theorem d_X7_giveBack_0 : decode b_X7_giveBack 0 = .ok (.aload_n 0, 1) := by decide +kernel
theorem d_X7_giveBack_1 : decode b_X7_giveBack 1 = .ok (.getfield 34, 3) := by decide +kernel
theorem d_X7_giveBack_4 : decode b_X7_giveBack 4 = .ok (.getfield 204, 3) := by decide +kernel
theorem d_X7_giveBack_7 : decode b_X7_giveBack 7 = .ok (.getfield 208, 3) := by decide +kernel
theorem d_X7_giveBack_10 : decode b_X7_giveBack 10 = .ok (.aload_n 0, 1) := by decide +kernel
theorem d_X7_giveBack_11 : decode b_X7_giveBack 11 = .ok (.getfield 34, 3) := by decide +kernel
theorem d_X7_giveBack_14 : decode b_X7_giveBack 14 = .ok (.getfield 213, 3) := by decide +kernel
theorem d_X7_giveBack_17 : decode b_X7_giveBack 17 = .ok (.invokestatic 80, 3) := by decide +kernel
theorem d_X7_giveBack_20 : decode b_X7_giveBack 20 = .ok (.istore_n 3, 1) := by decide +kernel
theorem d_X7_giveBack_21 : decode b_X7_giveBack 21 = .ok (.iload_n 3, 1) := by decide +kernel
theorem d_X7_giveBack_22 : decode b_X7_giveBack 22 = .ok (.iconst (-1), 1) := by decide +kernel
theorem d_X7_giveBack_23 : decode b_X7_giveBack 23 = .ok (.if_icmp .ne 7, 3) := by decide +kernel
theorem d_X7_giveBack_26 : decode b_X7_giveBack 26 = .ok (.iconst 1, 1) := by decide +kernel
theorem d_X7_giveBack_27 : decode b_X7_giveBack 27 = .ok (.goto 4, 3) := by decide +kernel
theorem d_X7_giveBack_30 : decode b_X7_giveBack 30 = .ok (.iconst 0, 1) := by decide +kernel
theorem d_X7_giveBack_31 : decode b_X7_giveBack 31 = .ok (.istore 4, 2) := by decide +kernel
theorem d_X7_giveBack_33 : decode b_X7_giveBack 33 = .ok (.iload_n 2, 1) := by decide +kernel
theorem d_X7_giveBack_34 : decode b_X7_giveBack 34 = .ok (.ifCond .eq 19, 3) := by decide +kernel
theorem d_X7_giveBack_37 : decode b_X7_giveBack 37 = .ok (.aload_n 0, 1) := by decide +kernel
theorem d_X7_giveBack_38 : decode b_X7_giveBack 38 = .ok (.getfield 49, 3) := by decide +kernel
theorem d_X7_giveBack_41 : decode b_X7_giveBack 41 = .ok (.invokevirtual 138, 3) := by decide +kernel
theorem d_X7_giveBack_44 : decode b_X7_giveBack 44 = .ok (.iload_n 3, 1) := by decide +kernel
theorem d_X7_giveBack_45 : decode b_X7_giveBack 45 = .ok (.invokevirtual 216, 3) := by decide +kernel
theorem d_X7_giveBack_48 : decode b_X7_giveBack 48 = .ok (.istore 4, 2) := by decide +kernel
theorem d_X7_giveBack_50 : decode b_X7_giveBack 50 = .ok (.goto 15, 3) := by decide +kernel
theorem d_X7_giveBack_53 : decode b_X7_giveBack 53 = .ok (.aload_n 0, 1) := by decide +kernel
theorem d_X7_giveBack_54 : decode b_X7_giveBack 54 = .ok (.getfield 44, 3) := by decide +kernel
theorem d_X7_giveBack_57 : decode b_X7_giveBack 57 = .ok (.iconst 1, 1) := by decide +kernel
theorem d_X7_giveBack_58 : decode b_X7_giveBack 58 = .ok (.iconst 0, 1) := by decide +kernel
theorem d_X7_giveBack_59 : decode b_X7_giveBack 59 = .ok (.iconst 0, 1) := by decide +kernel
theorem d_X7_giveBack_60 : decode b_X7_giveBack 60 = .ok (.iconst 0, 1) := by decide +kernel
theorem d_X7_giveBack_61 : decode b_X7_giveBack 61 = .ok (.invokevirtual 141, 3) := by decide +kernel
theorem d_X7_giveBack_64 : decode b_X7_giveBack 64 = .ok (.pop, 1) := by decide +kernel
theorem d_X7_giveBack_65 : decode b_X7_giveBack 65 = .ok (.aload_n 0, 1) := by decide +kernel
theorem d_X7_giveBack_66 : decode b_X7_giveBack 66 = .ok (.getfield 44, 3) := by decide +kernel
theorem d_X7_giveBack_69 : decode b_X7_giveBack 69 = .ok (.bipush 33, 2) := by decide +kernel
theorem d_X7_giveBack_71 : decode b_X7_giveBack 71 = .ok (.iconst 0, 1) := by decide +kernel
theorem d_X7_giveBack_72 : decode b_X7_giveBack 72 = .ok (.iconst 0, 1) := by decide +kernel
theorem d_X7_giveBack_73 : decode b_X7_giveBack 73 = .ok (.iconst 0, 1) := by decide +kernel
theorem d_X7_giveBack_74 : decode b_X7_giveBack 74 = .ok (.invokevirtual 141, 3) := by decide +kernel
theorem d_X7_giveBack_77 : decode b_X7_giveBack 77 = .ok (.pop, 1) := by decide +kernel
theorem d_X7_giveBack_78 : decode b_X7_giveBack 78 = .ok (.iload 4, 2) := by decide +kernel
theorem d_X7_giveBack_80 : decode b_X7_giveBack 80 = .ok (.ifCond .ne 12, 3) := by decide +kernel
theorem d_X7_giveBack_83 : decode b_X7_giveBack 83 = .ok (.aload_n 0, 1) := by decide +kernel
theorem d_X7_giveBack_84 : decode b_X7_giveBack 84 = .ok (.getfield 34, 3) := by decide +kernel
theorem d_X7_giveBack_87 : decode b_X7_giveBack 87 = .ok (.iconst 2, 1) := by decide +kernel
theorem d_X7_giveBack_88 : decode b_X7_giveBack 88 = .ok (.iload_n 1, 1) := by decide +kernel
theorem d_X7_giveBack_89 : decode b_X7_giveBack 89 = .ok (.invokevirtual 176, 3) := by decide +kernel
theorem d_X7_giveBack_92 : decode b_X7_giveBack 92 = .ok (.return_, 1) := by decide +kernel
theorem d_X7_whileLoop_0 : decode b_X7_whileLoop 0 = .ok (.iload_n 1, 1) := by decide +kernel
theorem d_X7_whileLoop_1 : decode b_X7_whileLoop 1 = .ok (.bipush 26, 2) := by decide +kernel
theorem d_X7_whileLoop_3 : decode b_X7_whileLoop 3 = .ok (.if_icmp .ne 11, 3) := by decide +kernel
theorem d_X7_whileLoop_6 : decode b_X7_whileLoop 6 = .ok (.aload_n 0, 1) := by decide +kernel
theorem d_X7_whileLoop_7 : decode b_X7_whileLoop 7 = .ok (.iconst 1, 1) := by decide +kernel
theorem d_X7_whileLoop_8 : decode b_X7_whileLoop 8 = .ok (.invokevirtual 196, 3) := by decide +kernel
theorem d_X7_whileLoop_11 : decode b_X7_whileLoop 11 = .ok (.goto 80, 3) := by decide +kernel
theorem d_X7_whileLoop_14 : decode b_X7_whileLoop 14 = .ok (.iload_n 1, 1) := by decide +kernel
theorem d_X7_whileLoop_15 : decode b_X7_whileLoop 15 = .ok (.bipush 27, 2) := by decide +kernel
theorem d_X7_whileLoop_17 : decode b_X7_whileLoop 17 = .ok (.if_icmp .ne 20, 3) := by decide +kernel
theorem d_X7_whileLoop_20 : decode b_X7_whileLoop 20 = .ok (.aload_n 0, 1) := by decide +kernel
theorem d_X7_whileLoop_21 : decode b_X7_whileLoop 21 = .ok (.aload_n 0, 1) := by decide +kernel
theorem d_X7_whileLoop_22 : decode b_X7_whileLoop 22 = .ok (.iload_n 2, 1) := by decide +kernel
theorem d_X7_whileLoop_23 : decode b_X7_whileLoop 23 = .ok (.invokevirtual 192, 3) := by decide +kernel
theorem d_X7_whileLoop_26 : decode b_X7_whileLoop 26 = .ok (.invokevirtual 199, 3) := by decide +kernel
theorem d_X7_whileLoop_29 : decode b_X7_whileLoop 29 = .ok (.aload_n 0, 1) := by decide +kernel
theorem d_X7_whileLoop_30 : decode b_X7_whileLoop 30 = .ok (.iload_n 2, 1) := by decide +kernel
theorem d_X7_whileLoop_31 : decode b_X7_whileLoop 31 = .ok (.invokevirtual 220, 3) := by decide +kernel
theorem d_X7_whileLoop_34 : decode b_X7_whileLoop 34 = .ok (.goto 57, 3) := by decide +kernel
theorem d_X7_whileLoop_37 : decode b_X7_whileLoop 37 = .ok (.aload_n 0, 1) := by decide +kernel
theorem d_X7_whileLoop_38 : decode b_X7_whileLoop 38 = .ok (.getfield 44, 3) := by decide +kernel
theorem d_X7_whileLoop_41 : decode b_X7_whileLoop 41 = .ok (.aload_n 0, 1) := by decide +kernel
theorem d_X7_whileLoop_42 : decode b_X7_whileLoop 42 = .ok (.getfield 21, 3) := by decide +kernel
theorem d_X7_whileLoop_45 : decode b_X7_whileLoop 45 = .ok (.aload_n 0, 1) := by decide +kernel
theorem d_X7_whileLoop_46 : decode b_X7_whileLoop 46 = .ok (.getfield 68, 3) := by decide +kernel
theorem d_X7_whileLoop_49 : decode b_X7_whileLoop 49 = .ok (.iconst 1, 1) := by decide +kernel
theorem d_X7_whileLoop_50 : decode b_X7_whileLoop 50 = .ok (.isub, 1) := by decide +kernel
theorem d_X7_whileLoop_51 : decode b_X7_whileLoop 51 = .ok (.invokestatic 80, 3) := by decide +kernel
theorem d_X7_whileLoop_54 : decode b_X7_whileLoop 54 = .ok (.aload_n 0, 1) := by decide +kernel
theorem d_X7_whileLoop_55 : decode b_X7_whileLoop 55 = .ok (.getfield 15, 3) := by decide +kernel
theorem d_X7_whileLoop_58 : decode b_X7_whileLoop 58 = .ok (.aload_n 0, 1) := by decide +kernel
theorem d_X7_whileLoop_59 : decode b_X7_whileLoop 59 = .ok (.getfield 68, 3) := by decide +kernel
theorem d_X7_whileLoop_62 : decode b_X7_whileLoop 62 = .ok (.iconst 1, 1) := by decide +kernel
theorem d_X7_whileLoop_63 : decode b_X7_whileLoop 63 = .ok (.isub, 1) := by decide +kernel
theorem d_X7_whileLoop_64 : decode b_X7_whileLoop 64 = .ok (.invokestatic 80, 3) := by decide +kernel
theorem d_X7_whileLoop_67 : decode b_X7_whileLoop 67 = .ok (.invokevirtual 170, 3) := by decide +kernel
theorem d_X7_whileLoop_70 : decode b_X7_whileLoop 70 = .ok (.aload_n 0, 1) := by decide +kernel
theorem d_X7_whileLoop_71 : decode b_X7_whileLoop 71 = .ok (.aload_n 0, 1) := by decide +kernel
theorem d_X7_whileLoop_72 : decode b_X7_whileLoop 72 = .ok (.getfield 15, 3) := by decide +kernel
theorem d_X7_whileLoop_75 : decode b_X7_whileLoop 75 = .ok (.aload_n 0, 1) := by decide +kernel
theorem d_X7_whileLoop_76 : decode b_X7_whileLoop 76 = .ok (.getfield 68, 3) := by decide +kernel
theorem d_X7_whileLoop_79 : decode b_X7_whileLoop 79 = .ok (.iconst 1, 1) := by decide +kernel
theorem d_X7_whileLoop_80 : decode b_X7_whileLoop 80 = .ok (.isub, 1) := by decide +kernel
theorem d_X7_whileLoop_81 : decode b_X7_whileLoop 81 = .ok (.invokestatic 80, 3) := by decide +kernel
theorem d_X7_whileLoop_84 : decode b_X7_whileLoop 84 = .ok (.invokevirtual 223, 3) := by decide +kernel
theorem d_X7_whileLoop_87 : decode b_X7_whileLoop 87 = .ok (.aload_n 0, 1) := by decide +kernel
theorem d_X7_whileLoop_88 : decode b_X7_whileLoop 88 = .ok (.invokevirtual 203, 3) := by decide +kernel
theorem d_X7_whileLoop_91 : decode b_X7_whileLoop 91 = .ok (.return_, 1) := by decide +kernel
theorem d_X7_turn_0 : decode b_X7_turn 0 = .ok (.aload_n 0, 1) := by decide +kernel
theorem d_X7_turn_1 : decode b_X7_turn 1 = .ok (.getfield 44, 3) := by decide +kernel
theorem d_X7_turn_4 : decode b_X7_turn 4 = .ok (.bipush 31, 2) := by decide +kernel
theorem d_X7_turn_6 : decode b_X7_turn 6 = .ok (.aload_n 0, 1) := by decide +kernel
theorem d_X7_turn_7 : decode b_X7_turn 7 = .ok (.getfield 34, 3) := by decide +kernel
theorem d_X7_turn_10 : decode b_X7_turn 10 = .ok (.getfield 183, 3) := by decide +kernel
theorem d_X7_turn_13 : decode b_X7_turn 13 = .ok (.getfield 187, 3) := by decide +kernel
theorem d_X7_turn_16 : decode b_X7_turn 16 = .ok (.iload_n 1, 1) := by decide +kernel
theorem d_X7_turn_17 : decode b_X7_turn 17 = .ok (.invokestatic 80, 3) := by decide +kernel
theorem d_X7_turn_20 : decode b_X7_turn 20 = .ok (.iconst 0, 1) := by decide +kernel
theorem d_X7_turn_21 : decode b_X7_turn 21 = .ok (.iconst 0, 1) := by decide +kernel
theorem d_X7_turn_22 : decode b_X7_turn 22 = .ok (.invokevirtual 141, 3) := by decide +kernel
theorem d_X7_turn_25 : decode b_X7_turn 25 = .ok (.pop, 1) := by decide +kernel
theorem d_X7_turn_26 : decode b_X7_turn 26 = .ok (.return_, 1) := by decide +kernel
theorem d_X7_jumpBack_0 : decode b_X7_jumpBack 0 = .ok (.aload_n 0, 1) := by decide +kernel
theorem d_X7_jumpBack_1 : decode b_X7_jumpBack 1 = .ok (.getfield 44, 3) := by decide +kernel
theorem d_X7_jumpBack_4 : decode b_X7_jumpBack 4 = .ok (.bipush 26, 2) := by decide +kernel
theorem d_X7_jumpBack_6 : decode b_X7_jumpBack 6 = .ok (.iload_n 1, 1) := by decide +kernel
theorem d_X7_jumpBack_7 : decode b_X7_jumpBack 7 = .ok (.iconst 0, 1) := by decide +kernel
theorem d_X7_jumpBack_8 : decode b_X7_jumpBack 8 = .ok (.iconst 0, 1) := by decide +kernel
theorem d_X7_jumpBack_9 : decode b_X7_jumpBack 9 = .ok (.invokevirtual 141, 3) := by decide +kernel
theorem d_X7_jumpBack_12 : decode b_X7_jumpBack 12 = .ok (.pop, 1) := by decide +kernel
theorem d_X7_jumpBack_13 : decode b_X7_jumpBack 13 = .ok (.return_, 1) := by decide +kernel
theorem d_X7_doLoop_0 : decode b_X7_doLoop 0 = .ok (.iload_n 1, 1) := by decide +kernel
theorem d_X7_doLoop_1 : decode b_X7_doLoop 1 = .ok (.bipush 29, 2) := by decide +kernel
theorem d_X7_doLoop_3 : decode b_X7_doLoop 3 = .ok (.if_icmp .ne 16, 3) := by decide +kernel
theorem d_X7_doLoop_6 : decode b_X7_doLoop 6 = .ok (.aload_n 0, 1) := by decide +kernel
theorem d_X7_doLoop_7 : decode b_X7_doLoop 7 = .ok (.iconst 1, 1) := by decide +kernel
theorem d_X7_doLoop_8 : decode b_X7_doLoop 8 = .ok (.invokevirtual 196, 3) := by decide +kernel
theorem d_X7_doLoop_11 : decode b_X7_doLoop 11 = .ok (.aload_n 0, 1) := by decide +kernel
theorem d_X7_doLoop_12 : decode b_X7_doLoop 12 = .ok (.iload_n 2, 1) := by decide +kernel
theorem d_X7_doLoop_13 : decode b_X7_doLoop 13 = .ok (.invokevirtual 220, 3) := by decide +kernel
theorem d_X7_doLoop_16 : decode b_X7_doLoop 16 = .ok (.goto 74, 3) := by decide +kernel
theorem d_X7_doLoop_19 : decode b_X7_doLoop 19 = .ok (.iload_n 1, 1) := by decide +kernel
theorem d_X7_doLoop_20 : decode b_X7_doLoop 20 = .ok (.bipush 30, 2) := by decide +kernel
theorem d_X7_doLoop_22 : decode b_X7_doLoop 22 = .ok (.if_icmp .ne 33, 3) := by decide +kernel
theorem d_X7_doLoop_25 : decode b_X7_doLoop 25 = .ok (.aload_n 0, 1) := by decide +kernel
theorem d_X7_doLoop_26 : decode b_X7_doLoop 26 = .ok (.getfield 44, 3) := by decide +kernel
theorem d_X7_doLoop_29 : decode b_X7_doLoop 29 = .ok (.aload_n 0, 1) := by decide +kernel
theorem d_X7_doLoop_30 : decode b_X7_doLoop 30 = .ok (.getfield 21, 3) := by decide +kernel
theorem d_X7_doLoop_33 : decode b_X7_doLoop 33 = .ok (.aload_n 0, 1) := by decide +kernel
theorem d_X7_doLoop_34 : decode b_X7_doLoop 34 = .ok (.getfield 68, 3) := by decide +kernel
theorem d_X7_doLoop_37 : decode b_X7_doLoop 37 = .ok (.iconst 1, 1) := by decide +kernel
theorem d_X7_doLoop_38 : decode b_X7_doLoop 38 = .ok (.isub, 1) := by decide +kernel
theorem d_X7_doLoop_39 : decode b_X7_doLoop 39 = .ok (.invokestatic 80, 3) := by decide +kernel
theorem d_X7_doLoop_42 : decode b_X7_doLoop 42 = .ok (.aload_n 0, 1) := by decide +kernel
theorem d_X7_doLoop_43 : decode b_X7_doLoop 43 = .ok (.getfield 44, 3) := by decide +kernel
theorem d_X7_doLoop_46 : decode b_X7_doLoop 46 = .ok (.getfield 109, 3) := by decide +kernel
theorem d_X7_doLoop_49 : decode b_X7_doLoop 49 = .ok (.invokevirtual 170, 3) := by decide +kernel
theorem d_X7_doLoop_52 : decode b_X7_doLoop 52 = .ok (.goto 38, 3) := by decide +kernel
theorem d_X7_doLoop_55 : decode b_X7_doLoop 55 = .ok (.aload_n 0, 1) := by decide +kernel
theorem d_X7_doLoop_56 : decode b_X7_doLoop 56 = .ok (.iload_n 2, 1) := by decide +kernel
theorem d_X7_doLoop_57 : decode b_X7_doLoop 57 = .ok (.invokevirtual 192, 3) := by decide +kernel
theorem d_X7_doLoop_60 : decode b_X7_doLoop 60 = .ok (.pop, 1) := by decide +kernel
theorem d_X7_doLoop_61 : decode b_X7_doLoop 61 = .ok (.aload_n 0, 1) := by decide +kernel
theorem d_X7_doLoop_62 : decode b_X7_doLoop 62 = .ok (.getfield 44, 3) := by decide +kernel
theorem d_X7_doLoop_65 : decode b_X7_doLoop 65 = .ok (.bipush 28, 2) := by decide +kernel
theorem d_X7_doLoop_67 : decode b_X7_doLoop 67 = .ok (.aload_n 0, 1) := by decide +kernel
theorem d_X7_doLoop_68 : decode b_X7_doLoop 68 = .ok (.getfield 15, 3) := by decide +kernel
theorem d_X7_doLoop_71 : decode b_X7_doLoop 71 = .ok (.aload_n 0, 1) := by decide +kernel
theorem d_X7_doLoop_72 : decode b_X7_doLoop 72 = .ok (.getfield 68, 3) := by decide +kernel
theorem d_X7_doLoop_75 : decode b_X7_doLoop 75 = .ok (.iconst 1, 1) := by decide +kernel
theorem d_X7_doLoop_76 : decode b_X7_doLoop 76 = .ok (.isub, 1) := by decide +kernel
theorem d_X7_doLoop_77 : decode b_X7_doLoop 77 = .ok (.invokestatic 80, 3) := by decide +kernel
theorem d_X7_doLoop_80 : decode b_X7_doLoop 80 = .ok (.iconst 0, 1) := by decide +kernel
theorem d_X7_doLoop_81 : decode b_X7_doLoop 81 = .ok (.iconst 0, 1) := by decide +kernel
theorem d_X7_doLoop_82 : decode b_X7_doLoop 82 = .ok (.invokevirtual 141, 3) := by decide +kernel
theorem d_X7_doLoop_85 : decode b_X7_doLoop 85 = .ok (.pop, 1) := by decide +kernel
theorem d_X7_doLoop_86 : decode b_X7_doLoop 86 = .ok (.aload_n 0, 1) := by decide +kernel
theorem d_X7_doLoop_87 : decode b_X7_doLoop 87 = .ok (.invokevirtual 203, 3) := by decide +kernel
theorem d_X7_doLoop_90 : decode b_X7_doLoop 90 = .ok (.return_, 1) := by decide +kernel
theorem d_X7_forLoop_0 : decode b_X7_forLoop 0 = .ok (.iload_n 1, 1) := by decide +kernel
theorem d_X7_forLoop_1 : decode b_X7_forLoop 1 = .ok (.bipush 32, 2) := by decide +kernel
theorem d_X7_forLoop_3 : decode b_X7_forLoop 3 = .ok (.if_icmp .ne 11, 3) := by decide +kernel
theorem d_X7_forLoop_6 : decode b_X7_forLoop 6 = .ok (.aload_n 0, 1) := by decide +kernel
theorem d_X7_forLoop_7 : decode b_X7_forLoop 7 = .ok (.iconst 1, 1) := by decide +kernel
theorem d_X7_forLoop_8 : decode b_X7_forLoop 8 = .ok (.invokevirtual 196, 3) := by decide +kernel
theorem d_X7_forLoop_11 : decode b_X7_forLoop 11 = .ok (.goto 182, 3) := by decide +kernel
theorem d_X7_forLoop_14 : decode b_X7_forLoop 14 = .ok (.iload_n 1, 1) := by decide +kernel
theorem d_X7_forLoop_15 : decode b_X7_forLoop 15 = .ok (.bipush 33, 2) := by decide +kernel
theorem d_X7_forLoop_17 : decode b_X7_forLoop 17 = .ok (.if_icmp .ne 64, 3) := by decide +kernel
theorem d_X7_forLoop_20 : decode b_X7_forLoop 20 = .ok (.iload_n 3, 1) := by decide +kernel
theorem d_X7_forLoop_21 : decode b_X7_forLoop 21 = .ok (.ifCond .eq 12, 3) := by decide +kernel
theorem d_X7_forLoop_24 : decode b_X7_forLoop 24 = .ok (.aload_n 0, 1) := by decide +kernel
theorem d_X7_forLoop_25 : decode b_X7_forLoop 25 = .ok (.aload_n 0, 1) := by decide +kernel
theorem d_X7_forLoop_26 : decode b_X7_forLoop 26 = .ok (.iload_n 2, 1) := by decide +kernel
theorem d_X7_forLoop_27 : decode b_X7_forLoop 27 = .ok (.invokevirtual 192, 3) := by decide +kernel
theorem d_X7_forLoop_30 : decode b_X7_forLoop 30 = .ok (.invokevirtual 199, 3) := by decide +kernel
theorem d_X7_forLoop_33 : decode b_X7_forLoop 33 = .ok (.aload_n 0, 1) := by decide +kernel
theorem d_X7_forLoop_34 : decode b_X7_forLoop 34 = .ok (.getfield 24, 3) := by decide +kernel
theorem d_X7_forLoop_37 : decode b_X7_forLoop 37 = .ok (.aload_n 0, 1) := by decide +kernel
theorem d_X7_forLoop_38 : decode b_X7_forLoop 38 = .ok (.getfield 68, 3) := by decide +kernel
theorem d_X7_forLoop_41 : decode b_X7_forLoop 41 = .ok (.iconst 1, 1) := by decide +kernel
theorem d_X7_forLoop_42 : decode b_X7_forLoop 42 = .ok (.isub, 1) := by decide +kernel
theorem d_X7_forLoop_43 : decode b_X7_forLoop 43 = .ok (.aload_n 0, 1) := by decide +kernel
theorem d_X7_forLoop_44 : decode b_X7_forLoop 44 = .ok (.getfield 44, 3) := by decide +kernel
theorem d_X7_forLoop_47 : decode b_X7_forLoop 47 = .ok (.bipush 26, 2) := by decide +kernel
theorem d_X7_forLoop_49 : decode b_X7_forLoop 49 = .ok (.iconst (-1), 1) := by decide +kernel
theorem d_X7_forLoop_50 : decode b_X7_forLoop 50 = .ok (.iconst 0, 1) := by decide +kernel
theorem d_X7_forLoop_51 : decode b_X7_forLoop 51 = .ok (.iconst 0, 1) := by decide +kernel
theorem d_X7_forLoop_52 : decode b_X7_forLoop 52 = .ok (.invokevirtual 141, 3) := by decide +kernel
theorem d_X7_forLoop_55 : decode b_X7_forLoop 55 = .ok (.invokestatic 166, 3) := by decide +kernel
theorem d_X7_forLoop_58 : decode b_X7_forLoop 58 = .ok (.aload_n 0, 1) := by decide +kernel
theorem d_X7_forLoop_59 : decode b_X7_forLoop 59 = .ok (.getfield 27, 3) := by decide +kernel
theorem d_X7_forLoop_62 : decode b_X7_forLoop 62 = .ok (.aload_n 0, 1) := by decide +kernel
theorem d_X7_forLoop_63 : decode b_X7_forLoop 63 = .ok (.getfield 68, 3) := by decide +kernel
theorem d_X7_forLoop_66 : decode b_X7_forLoop 66 = .ok (.iconst 1, 1) := by decide +kernel
theorem d_X7_forLoop_67 : decode b_X7_forLoop 67 = .ok (.isub, 1) := by decide +kernel
theorem d_X7_forLoop_68 : decode b_X7_forLoop 68 = .ok (.aload_n 0, 1) := by decide +kernel
theorem d_X7_forLoop_69 : decode b_X7_forLoop 69 = .ok (.getfield 44, 3) := by decide +kernel
theorem d_X7_forLoop_72 : decode b_X7_forLoop 72 = .ok (.getfield 109, 3) := by decide +kernel
theorem d_X7_forLoop_75 : decode b_X7_forLoop 75 = .ok (.invokestatic 166, 3) := by decide +kernel
theorem d_X7_forLoop_78 : decode b_X7_forLoop 78 = .ok (.goto 115, 3) := by decide +kernel
theorem d_X7_forLoop_81 : decode b_X7_forLoop 81 = .ok (.iload_n 1, 1) := by decide +kernel
theorem d_X7_forLoop_82 : decode b_X7_forLoop 82 = .ok (.bipush 34, 2) := by decide +kernel
theorem d_X7_forLoop_84 : decode b_X7_forLoop 84 = .ok (.if_icmp .ne 55, 3) := by decide +kernel
theorem d_X7_forLoop_87 : decode b_X7_forLoop 87 = .ok (.aload_n 0, 1) := by decide +kernel
theorem d_X7_forLoop_88 : decode b_X7_forLoop 88 = .ok (.aload_n 0, 1) := by decide +kernel
theorem d_X7_forLoop_89 : decode b_X7_forLoop 89 = .ok (.getfield 15, 3) := by decide +kernel
theorem d_X7_forLoop_92 : decode b_X7_forLoop 92 = .ok (.aload_n 0, 1) := by decide +kernel
theorem d_X7_forLoop_93 : decode b_X7_forLoop 93 = .ok (.getfield 68, 3) := by decide +kernel
theorem d_X7_forLoop_96 : decode b_X7_forLoop 96 = .ok (.iconst 1, 1) := by decide +kernel
theorem d_X7_forLoop_97 : decode b_X7_forLoop 97 = .ok (.isub, 1) := by decide +kernel
theorem d_X7_forLoop_98 : decode b_X7_forLoop 98 = .ok (.invokestatic 80, 3) := by decide +kernel
theorem d_X7_forLoop_101 : decode b_X7_forLoop 101 = .ok (.invokevirtual 223, 3) := by decide +kernel
theorem d_X7_forLoop_104 : decode b_X7_forLoop 104 = .ok (.aload_n 0, 1) := by decide +kernel
theorem d_X7_forLoop_105 : decode b_X7_forLoop 105 = .ok (.getfield 44, 3) := by decide +kernel
theorem d_X7_forLoop_108 : decode b_X7_forLoop 108 = .ok (.aload_n 0, 1) := by decide +kernel
theorem d_X7_forLoop_109 : decode b_X7_forLoop 109 = .ok (.getfield 24, 3) := by decide +kernel
theorem d_X7_forLoop_112 : decode b_X7_forLoop 112 = .ok (.aload_n 0, 1) := by decide +kernel
theorem d_X7_forLoop_113 : decode b_X7_forLoop 113 = .ok (.getfield 68, 3) := by decide +kernel
theorem d_X7_forLoop_116 : decode b_X7_forLoop 116 = .ok (.iconst 1, 1) := by decide +kernel
theorem d_X7_forLoop_117 : decode b_X7_forLoop 117 = .ok (.isub, 1) := by decide +kernel
theorem d_X7_forLoop_118 : decode b_X7_forLoop 118 = .ok (.invokestatic 80, 3) := by decide +kernel
theorem d_X7_forLoop_121 : decode b_X7_forLoop 121 = .ok (.aload_n 0, 1) := by decide +kernel
theorem d_X7_forLoop_122 : decode b_X7_forLoop 122 = .ok (.getfield 44, 3) := by decide +kernel
theorem d_X7_forLoop_125 : decode b_X7_forLoop 125 = .ok (.getfield 109, 3) := by decide +kernel
theorem d_X7_forLoop_128 : decode b_X7_forLoop 128 = .ok (.invokevirtual 170, 3) := by decide +kernel
theorem d_X7_forLoop_131 : decode b_X7_forLoop 131 = .ok (.aload_n 0, 1) := by decide +kernel
theorem d_X7_forLoop_132 : decode b_X7_forLoop 132 = .ok (.iload_n 2, 1) := by decide +kernel
theorem d_X7_forLoop_133 : decode b_X7_forLoop 133 = .ok (.invokevirtual 220, 3) := by decide +kernel
theorem d_X7_forLoop_136 : decode b_X7_forLoop 136 = .ok (.goto 57, 3) := by decide +kernel
theorem d_X7_forLoop_139 : decode b_X7_forLoop 139 = .ok (.aload_n 0, 1) := by decide +kernel
theorem d_X7_forLoop_140 : decode b_X7_forLoop 140 = .ok (.getfield 44, 3) := by decide +kernel
theorem d_X7_forLoop_143 : decode b_X7_forLoop 143 = .ok (.aload_n 0, 1) := by decide +kernel
theorem d_X7_forLoop_144 : decode b_X7_forLoop 144 = .ok (.getfield 21, 3) := by decide +kernel
theorem d_X7_forLoop_147 : decode b_X7_forLoop 147 = .ok (.aload_n 0, 1) := by decide +kernel
theorem d_X7_forLoop_148 : decode b_X7_forLoop 148 = .ok (.getfield 68, 3) := by decide +kernel
theorem d_X7_forLoop_151 : decode b_X7_forLoop 151 = .ok (.iconst 1, 1) := by decide +kernel
theorem d_X7_forLoop_152 : decode b_X7_forLoop 152 = .ok (.isub, 1) := by decide +kernel
theorem d_X7_forLoop_153 : decode b_X7_forLoop 153 = .ok (.invokestatic 80, 3) := by decide +kernel
theorem d_X7_forLoop_156 : decode b_X7_forLoop 156 = .ok (.aload_n 0, 1) := by decide +kernel
theorem d_X7_forLoop_157 : decode b_X7_forLoop 157 = .ok (.getfield 27, 3) := by decide +kernel
theorem d_X7_forLoop_160 : decode b_X7_forLoop 160 = .ok (.aload_n 0, 1) := by decide +kernel
theorem d_X7_forLoop_161 : decode b_X7_forLoop 161 = .ok (.getfield 68, 3) := by decide +kernel
theorem d_X7_forLoop_164 : decode b_X7_forLoop 164 = .ok (.iconst 1, 1) := by decide +kernel
theorem d_X7_forLoop_165 : decode b_X7_forLoop 165 = .ok (.isub, 1) := by decide +kernel
theorem d_X7_forLoop_166 : decode b_X7_forLoop 166 = .ok (.invokestatic 80, 3) := by decide +kernel
theorem d_X7_forLoop_169 : decode b_X7_forLoop 169 = .ok (.invokevirtual 170, 3) := by decide +kernel
theorem d_X7_forLoop_172 : decode b_X7_forLoop 172 = .ok (.aload_n 0, 1) := by decide +kernel
theorem d_X7_forLoop_173 : decode b_X7_forLoop 173 = .ok (.aload_n 0, 1) := by decide +kernel
theorem d_X7_forLoop_174 : decode b_X7_forLoop 174 = .ok (.getfield 27, 3) := by decide +kernel
theorem d_X7_forLoop_177 : decode b_X7_forLoop 177 = .ok (.aload_n 0, 1) := by decide +kernel
theorem d_X7_forLoop_178 : decode b_X7_forLoop 178 = .ok (.getfield 68, 3) := by decide +kernel
theorem d_X7_forLoop_181 : decode b_X7_forLoop 181 = .ok (.iconst 1, 1) := by decide +kernel
theorem d_X7_forLoop_182 : decode b_X7_forLoop 182 = .ok (.isub, 1) := by decide +kernel
theorem d_X7_forLoop_183 : decode b_X7_forLoop 183 = .ok (.invokestatic 80, 3) := by decide +kernel
theorem d_X7_forLoop_186 : decode b_X7_forLoop 186 = .ok (.invokevirtual 223, 3) := by decide +kernel
theorem d_X7_forLoop_189 : decode b_X7_forLoop 189 = .ok (.aload_n 0, 1) := by decide +kernel
theorem d_X7_forLoop_190 : decode b_X7_forLoop 190 = .ok (.invokevirtual 203, 3) := by decide +kernel
theorem d_X7_forLoop_193 : decode b_X7_forLoop 193 = .ok (.return_, 1) := by decide +kernel
theorem d_X1_take_0 : decode b_X1_take 0 = .ok (.aload_n 0, 1) := by decide +kernel
theorem d_X1_take_1 : decode b_X1_take 1 = .ok (.getfield 15, 3) := by decide +kernel
theorem d_X1_take_4 : decode b_X1_take 4 = .ok (.getfield 53, 3) := by decide +kernel
theorem d_X1_take_7 : decode b_X1_take 7 = .ok (.iload_n 2, 1) := by decide +kernel
theorem d_X1_take_8 : decode b_X1_take 8 = .ok (.invokestatic 58, 3) := by decide +kernel
theorem d_X1_take_11 : decode b_X1_take 11 = .ok (.istore_n 3, 1) := by decide +kernel
theorem d_X1_take_12 : decode b_X1_take 12 = .ok (.aload_n 0, 1) := by decide +kernel
theorem d_X1_take_13 : decode b_X1_take 13 = .ok (.getfield 15, 3) := by decide +kernel
theorem d_X1_take_16 : decode b_X1_take 16 = .ok (.getfield 62, 3) := by decide +kernel
theorem d_X1_take_19 : decode b_X1_take 19 = .ok (.iload_n 2, 1) := by decide +kernel
theorem d_X1_take_20 : decode b_X1_take 20 = .ok (.invokestatic 58, 3) := by decide +kernel
theorem d_X1_take_23 : decode b_X1_take 23 = .ok (.istore 4, 2) := by decide +kernel
theorem d_X1_take_25 : decode b_X1_take 25 = .ok (.aload_n 0, 1) := by decide +kernel
theorem d_X1_take_26 : decode b_X1_take 26 = .ok (.getfield 15, 3) := by decide +kernel
theorem d_X1_take_29 : decode b_X1_take 29 = .ok (.getfield 65, 3) := by decide +kernel
theorem d_X1_take_32 : decode b_X1_take 32 = .ok (.iload_n 2, 1) := by decide +kernel
theorem d_X1_take_33 : decode b_X1_take 33 = .ok (.invokestatic 58, 3) := by decide +kernel
theorem d_X1_take_36 : decode b_X1_take 36 = .ok (.istore 5, 2) := by decide +kernel
theorem d_X1_take_38 : decode b_X1_take 38 = .ok (.iload_n 1, 1) := by decide +kernel
theorem d_X1_take_39 : decode b_X1_take 39 = .ok (.tableswitch 135 42 48 #[41, 76, 88, 95, 103, 113, 125], 41) := by decide +kernel
theorem d_X1_take_80 : decode b_X1_take 80 = .ok (.aload_n 0, 1) := by decide +kernel
theorem d_X1_take_81 : decode b_X1_take 81 = .ok (.iload_n 3, 1) := by decide +kernel
theorem d_X1_take_82 : decode b_X1_take 82 = .ok (.putfield 46, 3) := by decide +kernel
theorem d_X1_take_85 : decode b_X1_take 85 = .ok (.aload_n 0, 1) := by decide +kernel
theorem d_X1_take_86 : decode b_X1_take 86 = .ok (.iload 4, 2) := by decide +kernel
theorem d_X1_take_88 : decode b_X1_take 88 = .ok (.ifCond .eq 10, 3) := by decide +kernel
theorem d_X1_take_91 : decode b_X1_take 91 = .ok (.aload_n 0, 1) := by decide +kernel
theorem d_X1_take_92 : decode b_X1_take 92 = .ok (.getfield 50, 3) := by decide +kernel
theorem d_X1_take_95 : decode b_X1_take 95 = .ok (.goto 14, 3) := by decide +kernel
theorem d_X1_take_98 : decode b_X1_take 98 = .ok (.iload 5, 2) := by decide +kernel
theorem d_X1_take_100 : decode b_X1_take 100 = .ok (.ifCond .le 8, 3) := by decide +kernel
theorem d_X1_take_103 : decode b_X1_take 103 = .ok (.iload 5, 2) := by decide +kernel
theorem d_X1_take_105 : decode b_X1_take 105 = .ok (.goto 4, 3) := by decide +kernel
theorem d_X1_take_108 : decode b_X1_take 108 = .ok (.iconst (-1), 1) := by decide +kernel
theorem d_X1_take_109 : decode b_X1_take 109 = .ok (.putfield 68, 3) := by decide +kernel
theorem d_X1_take_112 : decode b_X1_take 112 = .ok (.goto 66, 3) := by decide +kernel
theorem d_X1_take_115 : decode b_X1_take 115 = .ok (.aload_n 0, 1) := by decide +kernel
theorem d_X1_take_116 : decode b_X1_take 116 = .ok (.iload_n 3, 1) := by decide +kernel
theorem d_X1_take_117 : decode b_X1_take 117 = .ok (.iload 4, 2) := by decide +kernel
theorem d_X1_take_119 : decode b_X1_take 119 = .ok (.iload 5, 2) := by decide +kernel
theorem d_X1_take_121 : decode b_X1_take 121 = .ok (.invokevirtual 71, 3) := by decide +kernel
theorem d_X1_take_124 : decode b_X1_take 124 = .ok (.goto 54, 3) := by decide +kernel
theorem d_X1_take_127 : decode b_X1_take 127 = .ok (.aload_n 0, 1) := by decide +kernel
theorem d_X1_take_128 : decode b_X1_take 128 = .ok (.invokevirtual 75, 3) := by decide +kernel
theorem d_X1_take_131 : decode b_X1_take 131 = .ok (.goto 47, 3) := by decide +kernel
theorem d_X1_take_134 : decode b_X1_take 134 = .ok (.aload_n 0, 1) := by decide +kernel
theorem d_X1_take_135 : decode b_X1_take 135 = .ok (.iload_n 3, 1) := by decide +kernel
theorem d_X1_take_136 : decode b_X1_take 136 = .ok (.invokevirtual 78, 3) := by decide +kernel
theorem d_X1_take_139 : decode b_X1_take 139 = .ok (.goto 39, 3) := by decide +kernel
theorem d_X1_take_142 : decode b_X1_take 142 = .ok (.aload_n 0, 1) := by decide +kernel
theorem d_X1_take_143 : decode b_X1_take 143 = .ok (.iload_n 3, 1) := by decide +kernel
theorem d_X1_take_144 : decode b_X1_take 144 = .ok (.iload 4, 2) := by decide +kernel
theorem d_X1_take_146 : decode b_X1_take 146 = .ok (.invokevirtual 82, 3) := by decide +kernel
theorem d_X1_take_149 : decode b_X1_take 149 = .ok (.goto 29, 3) := by decide +kernel
theorem d_X1_take_152 : decode b_X1_take 152 = .ok (.aload_n 0, 1) := by decide +kernel
theorem d_X1_take_153 : decode b_X1_take 153 = .ok (.iload_n 3, 1) := by decide +kernel
theorem d_X1_take_154 : decode b_X1_take 154 = .ok (.iload 4, 2) := by decide +kernel
theorem d_X1_take_156 : decode b_X1_take 156 = .ok (.iload 5, 2) := by decide +kernel
theorem d_X1_take_158 : decode b_X1_take 158 = .ok (.invokevirtual 86, 3) := by decide +kernel
theorem d_X1_take_161 : decode b_X1_take 161 = .ok (.goto 17, 3) := by decide +kernel
theorem d_X1_take_164 : decode b_X1_take 164 = .ok (.aload_n 0, 1) := by decide +kernel
theorem d_X1_take_165 : decode b_X1_take 165 = .ok (.iload_n 3, 1) := by decide +kernel
theorem d_X1_take_166 : decode b_X1_take 166 = .ok (.iload 4, 2) := by decide +kernel
theorem d_X1_take_168 : decode b_X1_take 168 = .ok (.invokevirtual 89, 3) := by decide +kernel
theorem d_X1_take_171 : decode b_X1_take 171 = .ok (.goto 7, 3) := by decide +kernel
theorem d_X1_take_174 : decode b_X1_take 174 = .ok (.aload_n 0, 1) := by decide +kernel
theorem d_X1_take_175 : decode b_X1_take 175 = .ok (.invokevirtual 92, 3) := by decide +kernel
theorem d_X1_take_178 : decode b_X1_take 178 = .ok (.return_, 1) := by decide +kernel
theorem d_X1_variable_0 : decode b_X1_variable 0 = .ok (.iload_n 3, 1) := by decide +kernel
theorem d_X1_variable_1 : decode b_X1_variable 1 = .ok (.iconst 3, 1) := by decide +kernel
theorem d_X1_variable_2 : decode b_X1_variable 2 = .ok (.iand, 1) := by decide +kernel
theorem d_X1_variable_3 : decode b_X1_variable 3 = .ok (.istore 4, 2) := by decide +kernel
theorem d_X1_variable_5 : decode b_X1_variable 5 = .ok (.iload_n 3, 1) := by decide +kernel
theorem d_X1_variable_6 : decode b_X1_variable 6 = .ok (.iconst 4, 1) := by decide +kernel
theorem d_X1_variable_7 : decode b_X1_variable 7 = .ok (.iand, 1) := by decide +kernel
theorem d_X1_variable_8 : decode b_X1_variable 8 = .ok (.ifCond .eq 7, 3) := by decide +kernel
theorem d_X1_variable_11 : decode b_X1_variable 11 = .ok (.iconst 1, 1) := by decide +kernel
theorem d_X1_variable_12 : decode b_X1_variable 12 = .ok (.goto 4, 3) := by decide +kernel
theorem d_X1_variable_15 : decode b_X1_variable 15 = .ok (.iconst 0, 1) := by decide +kernel
theorem d_X1_variable_16 : decode b_X1_variable 16 = .ok (.istore 5, 2) := by decide +kernel
theorem d_X1_variable_18 : decode b_X1_variable 18 = .ok (.aload_n 0, 1) := by decide +kernel
theorem d_X1_variable_19 : decode b_X1_variable 19 = .ok (.iload_n 2, 1) := by decide +kernel
theorem d_X1_variable_20 : decode b_X1_variable 20 = .ok (.putfield 95, 3) := by decide +kernel
theorem d_X1_variable_23 : decode b_X1_variable 23 = .ok (.aload_n 0, 1) := by decide +kernel
theorem d_X1_variable_24 : decode b_X1_variable 24 = .ok (.aload_n 0, 1) := by decide +kernel
theorem d_X1_variable_25 : decode b_X1_variable 25 = .ok (.getfield 46, 3) := by decide +kernel
theorem d_X1_variable_28 : decode b_X1_variable 28 = .ok (.ifCond .ge 7, 3) := by decide +kernel
theorem d_X1_variable_31 : decode b_X1_variable 31 = .ok (.iconst (-1), 1) := by decide +kernel
theorem d_X1_variable_32 : decode b_X1_variable 32 = .ok (.goto 29, 3) := by decide +kernel
theorem d_X1_variable_35 : decode b_X1_variable 35 = .ok (.aload_n 0, 1) := by decide +kernel
theorem d_X1_variable_36 : decode b_X1_variable 36 = .ok (.getfield 68, 3) := by decide +kernel
theorem d_X1_variable_39 : decode b_X1_variable 39 = .ok (.iconst 1, 1) := by decide +kernel
theorem d_X1_variable_40 : decode b_X1_variable 40 = .ok (.if_icmp .lt 20, 3) := by decide +kernel
theorem d_X1_variable_43 : decode b_X1_variable 43 = .ok (.aload_n 0, 1) := by decide +kernel
theorem d_X1_variable_44 : decode b_X1_variable 44 = .ok (.getfield 68, 3) := by decide +kernel
theorem d_X1_variable_47 : decode b_X1_variable 47 = .ok (.sipush 4000, 3) := by decide +kernel
theorem d_X1_variable_50 : decode b_X1_variable 50 = .ok (.if_icmp .gt 10, 3) := by decide +kernel
theorem d_X1_variable_53 : decode b_X1_variable 53 = .ok (.aload_n 0, 1) := by decide +kernel
theorem d_X1_variable_54 : decode b_X1_variable 54 = .ok (.getfield 68, 3) := by decide +kernel
theorem d_X1_variable_57 : decode b_X1_variable 57 = .ok (.goto 4, 3) := by decide +kernel
theorem d_X1_variable_60 : decode b_X1_variable 60 = .ok (.iconst 0, 1) := by decide +kernel
theorem d_X1_variable_61 : decode b_X1_variable 61 = .ok (.putfield 98, 3) := by decide +kernel
theorem d_X1_variable_64 : decode b_X1_variable 64 = .ok (.aload_n 0, 1) := by decide +kernel
theorem d_X1_variable_65 : decode b_X1_variable 65 = .ok (.iconst 0, 1) := by decide +kernel
theorem d_X1_variable_66 : decode b_X1_variable 66 = .ok (.putfield 101, 3) := by decide +kernel
theorem d_X1_variable_69 : decode b_X1_variable 69 = .ok (.aload_n 0, 1) := by decide +kernel
theorem d_X1_variable_70 : decode b_X1_variable 70 = .ok (.iconst 0, 1) := by decide +kernel
theorem d_X1_variable_71 : decode b_X1_variable 71 = .ok (.putfield 104, 3) := by decide +kernel
theorem d_X1_variable_74 : decode b_X1_variable 74 = .ok (.aload_n 0, 1) := by decide +kernel
theorem d_X1_variable_75 : decode b_X1_variable 75 = .ok (.aload_n 0, 1) := by decide +kernel
theorem d_X1_variable_76 : decode b_X1_variable 76 = .ok (.getfield 26, 3) := by decide +kernel
theorem d_X1_variable_79 : decode b_X1_variable 79 = .ok (.getfield 108, 3) := by decide +kernel
theorem d_X1_variable_82 : decode b_X1_variable 82 = .ok (.ifCond .lt 7, 3) := by decide +kernel
theorem d_X1_variable_85 : decode b_X1_variable 85 = .ok (.iconst 1, 1) := by decide +kernel
theorem d_X1_variable_86 : decode b_X1_variable 86 = .ok (.goto 4, 3) := by decide +kernel
theorem d_X1_variable_89 : decode b_X1_variable 89 = .ok (.iconst 0, 1) := by decide +kernel
theorem d_X1_variable_90 : decode b_X1_variable 90 = .ok (.putfield 110, 3) := by decide +kernel
theorem d_X1_variable_93 : decode b_X1_variable 93 = .ok (.aload_n 0, 1) := by decide +kernel
theorem d_X1_variable_94 : decode b_X1_variable 94 = .ok (.iload 4, 2) := by decide +kernel
theorem d_X1_variable_96 : decode b_X1_variable 96 = .ok (.iconst 2, 1) := by decide +kernel
theorem d_X1_variable_97 : decode b_X1_variable 97 = .ok (.if_icmp .ne 7, 3) := by decide +kernel
theorem d_X1_variable_100 : decode b_X1_variable 100 = .ok (.iconst 1, 1) := by decide +kernel
theorem d_X1_variable_101 : decode b_X1_variable 101 = .ok (.goto 4, 3) := by decide +kernel
theorem d_X1_variable_104 : decode b_X1_variable 104 = .ok (.iconst 0, 1) := by decide +kernel
theorem d_X1_variable_105 : decode b_X1_variable 105 = .ok (.putfield 113, 3) := by decide +kernel
theorem d_X1_variable_108 : decode b_X1_variable 108 = .ok (.aload_n 0, 1) := by decide +kernel
theorem d_X1_variable_109 : decode b_X1_variable 109 = .ok (.getfield 110, 3) := by decide +kernel
theorem d_X1_variable_112 : decode b_X1_variable 112 = .ok (.ifCond .eq 13, 3) := by decide +kernel
theorem d_X1_variable_115 : decode b_X1_variable 115 = .ok (.aload_n 0, 1) := by decide +kernel
theorem d_X1_variable_116 : decode b_X1_variable 116 = .ok (.iload_n 1, 1) := by decide +kernel
theorem d_X1_variable_117 : decode b_X1_variable 117 = .ok (.iload 5, 2) := by decide +kernel
theorem d_X1_variable_119 : decode b_X1_variable 119 = .ok (.invokevirtual 116, 3) := by decide +kernel
theorem d_X1_variable_122 : decode b_X1_variable 122 = .ok (.goto 12, 3) := by decide +kernel
theorem d_X1_variable_125 : decode b_X1_variable 125 = .ok (.aload_n 0, 1) := by decide +kernel
theorem d_X1_variable_126 : decode b_X1_variable 126 = .ok (.iload_n 1, 1) := by decide +kernel
theorem d_X1_variable_127 : decode b_X1_variable 127 = .ok (.iload 4, 2) := by decide +kernel
theorem d_X1_variable_129 : decode b_X1_variable 129 = .ok (.iload 5, 2) := by decide +kernel
theorem d_X1_variable_131 : decode b_X1_variable 131 = .ok (.invokevirtual 120, 3) := by decide +kernel
theorem d_X1_variable_134 : decode b_X1_variable 134 = .ok (.aload_n 0, 1) := by decide +kernel
theorem d_X1_variable_135 : decode b_X1_variable 135 = .ok (.iconst (-1), 1) := by decide +kernel
theorem d_X1_variable_136 : decode b_X1_variable 136 = .ok (.putfield 46, 3) := by decide +kernel
theorem d_X1_variable_139 : decode b_X1_variable 139 = .ok (.return_, 1) := by decide +kernel
theorem d_X1_local_0 : decode b_X1_local 0 = .ok (.aload_n 0, 1) := by decide +kernel
theorem d_X1_local_1 : decode b_X1_local 1 = .ok (.getfield 26, 3) := by decide +kernel
theorem d_X1_local_4 : decode b_X1_local 4 = .ok (.aload_n 0, 1) := by decide +kernel
theorem d_X1_local_5 : decode b_X1_local 5 = .ok (.getfield 26, 3) := by decide +kernel
theorem d_X1_local_8 : decode b_X1_local 8 = .ok (.invokevirtual 127, 3) := by decide +kernel
theorem d_X1_local_11 : decode b_X1_local 11 = .ok (.iload_n 1, 1) := by decide +kernel
theorem d_X1_local_12 : decode b_X1_local 12 = .ok (.invokevirtual 131, 3) := by decide +kernel
theorem d_X1_local_15 : decode b_X1_local 15 = .ok (.ifCond .lt 12, 3) := by decide +kernel
theorem d_X1_local_18 : decode b_X1_local 18 = .ok (.aload_n 0, 1) := by decide +kernel
theorem d_X1_local_19 : decode b_X1_local 19 = .ok (.getfield 26, 3) := by decide +kernel
theorem d_X1_local_22 : decode b_X1_local 22 = .ok (.iconst 2, 1) := by decide +kernel
theorem d_X1_local_23 : decode b_X1_local 23 = .ok (.iload_n 1, 1) := by decide +kernel
theorem d_X1_local_24 : decode b_X1_local 24 = .ok (.invokevirtual 124, 3) := by decide +kernel
theorem d_X1_local_27 : decode b_X1_local 27 = .ok (.aload_n 0, 1) := by decide +kernel
theorem d_X1_local_28 : decode b_X1_local 28 = .ok (.getfield 26, 3) := by decide +kernel
theorem d_X1_local_31 : decode b_X1_local 31 = .ok (.getfield 135, 3) := by decide +kernel
theorem d_X1_local_34 : decode b_X1_local 34 = .ok (.bipush 100, 2) := by decide +kernel
theorem d_X1_local_36 : decode b_X1_local 36 = .ok (.if_icmp .lt 12, 3) := by decide +kernel
theorem d_X1_local_39 : decode b_X1_local 39 = .ok (.aload_n 0, 1) := by decide +kernel
theorem d_X1_local_40 : decode b_X1_local 40 = .ok (.getfield 26, 3) := by decide +kernel
theorem d_X1_local_43 : decode b_X1_local 43 = .ok (.iconst 4, 1) := by decide +kernel
theorem d_X1_local_44 : decode b_X1_local 44 = .ok (.iload_n 1, 1) := by decide +kernel
theorem d_X1_local_45 : decode b_X1_local 45 = .ok (.invokevirtual 124, 3) := by decide +kernel
theorem d_X1_local_48 : decode b_X1_local 48 = .ok (.aload_n 0, 1) := by decide +kernel
theorem d_X1_local_49 : decode b_X1_local 49 = .ok (.iload_n 2, 1) := by decide +kernel
theorem d_X1_local_50 : decode b_X1_local 50 = .ok (.invokevirtual 138, 3) := by decide +kernel
theorem d_X1_local_53 : decode b_X1_local 53 = .ok (.aload_n 0, 1) := by decide +kernel
theorem d_X1_local_54 : decode b_X1_local 54 = .ok (.getfield 26, 3) := by decide +kernel
theorem d_X1_local_57 : decode b_X1_local 57 = .ok (.getfield 142, 3) := by decide +kernel
theorem d_X1_local_60 : decode b_X1_local 60 = .ok (.ifCond .eq 4, 3) := by decide +kernel
theorem d_X1_local_63 : decode b_X1_local 63 = .ok (.return_, 1) := by decide +kernel
theorem d_X1_local_64 : decode b_X1_local 64 = .ok (.aload_n 0, 1) := by decide +kernel
theorem d_X1_local_65 : decode b_X1_local 65 = .ok (.aload_n 0, 1) := by decide +kernel
theorem d_X1_local_66 : decode b_X1_local 66 = .ok (.getfield 26, 3) := by decide +kernel
theorem d_X1_local_69 : decode b_X1_local 69 = .ok (.getfield 135, 3) := by decide +kernel
theorem d_X1_local_72 : decode b_X1_local 72 = .ok (.putfield 145, 3) := by decide +kernel
theorem d_X1_local_75 : decode b_X1_local 75 = .ok (.aload_n 0, 1) := by decide +kernel
theorem d_X1_local_76 : decode b_X1_local 76 = .ok (.getfield 26, 3) := by decide +kernel
theorem d_X1_local_79 : decode b_X1_local 79 = .ok (.iload_n 1, 1) := by decide +kernel
theorem d_X1_local_80 : decode b_X1_local 80 = .ok (.aload_n 0, 1) := by decide +kernel
theorem d_X1_local_81 : decode b_X1_local 81 = .ok (.getfield 95, 3) := by decide +kernel
theorem d_X1_local_84 : decode b_X1_local 84 = .ok (.aload_n 0, 1) := by decide +kernel
theorem d_X1_local_85 : decode b_X1_local 85 = .ok (.getfield 98, 3) := by decide +kernel
theorem d_X1_local_88 : decode b_X1_local 88 = .ok (.invokevirtual 147, 3) := by decide +kernel
theorem d_X1_local_91 : decode b_X1_local 91 = .ok (.aload_n 0, 1) := by decide +kernel
theorem d_X1_local_92 : decode b_X1_local 92 = .ok (.getfield 98, 3) := by decide +kernel
theorem d_X1_local_95 : decode b_X1_local 95 = .ok (.iconst (-1), 1) := by decide +kernel
theorem d_X1_local_96 : decode b_X1_local 96 = .ok (.if_icmp .ne 22, 3) := by decide +kernel
theorem d_X1_local_99 : decode b_X1_local 99 = .ok (.aload_n 0, 1) := by decide +kernel
theorem d_X1_local_100 : decode b_X1_local 100 = .ok (.getfield 41, 3) := by decide +kernel
theorem d_X1_local_103 : decode b_X1_local 103 = .ok (.iconst 1, 1) := by decide +kernel
theorem d_X1_local_104 : decode b_X1_local 104 = .ok (.iconst 0, 1) := by decide +kernel
theorem d_X1_local_105 : decode b_X1_local 105 = .ok (.iconst 0, 1) := by decide +kernel
theorem d_X1_local_106 : decode b_X1_local 106 = .ok (.iconst 0, 1) := by decide +kernel
theorem d_X1_local_107 : decode b_X1_local 107 = .ok (.invokevirtual 152, 3) := by decide +kernel
theorem d_X1_local_110 : decode b_X1_local 110 = .ok (.pop, 1) := by decide +kernel
theorem d_X1_local_111 : decode b_X1_local 111 = .ok (.aload_n 0, 1) := by decide +kernel
theorem d_X1_local_112 : decode b_X1_local 112 = .ok (.invokevirtual 156, 3) := by decide +kernel
theorem d_X1_local_115 : decode b_X1_local 115 = .ok (.goto 22, 3) := by decide +kernel
theorem d_X1_local_118 : decode b_X1_local 118 = .ok (.aload_n 0, 1) := by decide +kernel
theorem d_X1_local_119 : decode b_X1_local 119 = .ok (.getfield 41, 3) := by decide +kernel
theorem d_X1_local_122 : decode b_X1_local 122 = .ok (.bipush 15, 2) := by decide +kernel
theorem d_X1_local_124 : decode b_X1_local 124 = .ok (.aload_n 0, 1) := by decide +kernel
theorem d_X1_local_125 : decode b_X1_local 125 = .ok (.getfield 145, 3) := by decide +kernel
theorem d_X1_local_128 : decode b_X1_local 128 = .ok (.aload_n 0, 1) := by decide +kernel
theorem d_X1_local_129 : decode b_X1_local 129 = .ok (.getfield 98, 3) := by decide +kernel
theorem d_X1_local_132 : decode b_X1_local 132 = .ok (.iconst 0, 1) := by decide +kernel
theorem d_X1_local_133 : decode b_X1_local 133 = .ok (.invokevirtual 152, 3) := by decide +kernel
theorem d_X1_local_136 : decode b_X1_local 136 = .ok (.pop, 1) := by decide +kernel
theorem d_X1_local_137 : decode b_X1_local 137 = .ok (.return_, 1) := by decide +kernel
theorem d_X11_scopeStart_0 : decode b_X11_scopeStart 0 = .ok (.aload_n 0, 1) := by decide +kernel
theorem d_X11_scopeStart_1 : decode b_X11_scopeStart 1 = .ok (.getfield 33, 3) := by decide +kernel
theorem d_X11_scopeStart_4 : decode b_X11_scopeStart 4 = .ok (.aload_n 0, 1) := by decide +kernel
theorem d_X11_scopeStart_5 : decode b_X11_scopeStart 5 = .ok (.getfield 75, 3) := by decide +kernel
theorem d_X11_scopeStart_8 : decode b_X11_scopeStart 8 = .ok (.iconst 1, 1) := by decide +kernel
theorem d_X11_scopeStart_9 : decode b_X11_scopeStart 9 = .ok (.isub, 1) := by decide +kernel
theorem d_X11_scopeStart_10 : decode b_X11_scopeStart 10 = .ok (.invokestatic 82, 3) := by decide +kernel
theorem d_X11_scopeStart_13 : decode b_X11_scopeStart 13 = .ok (.ireturn, 1) := by decide +kernel
theorem d_X1_checkSquare_0 : decode b_X1_checkSquare 0 = .ok (.aload_n 0, 1) := by decide +kernel
theorem d_X1_checkSquare_1 : decode b_X1_checkSquare 1 = .ok (.getfield 46, 3) := by decide +kernel
theorem d_X1_checkSquare_4 : decode b_X1_checkSquare 4 = .ok (.ifCond .lt 38, 3) := by decide +kernel
theorem d_X1_checkSquare_7 : decode b_X1_checkSquare 7 = .ok (.aload_n 0, 1) := by decide +kernel
theorem d_X1_checkSquare_8 : decode b_X1_checkSquare 8 = .ok (.getfield 68, 3) := by decide +kernel
theorem d_X1_checkSquare_11 : decode b_X1_checkSquare 11 = .ok (.iconst (-1), 1) := by decide +kernel
theorem d_X1_checkSquare_12 : decode b_X1_checkSquare 12 = .ok (.if_icmp .ne 10, 3) := by decide +kernel
theorem d_X1_checkSquare_15 : decode b_X1_checkSquare 15 = .ok (.iload_n 1, 1) := by decide +kernel
theorem d_X1_checkSquare_16 : decode b_X1_checkSquare 16 = .ok (.ifCond .ne 26, 3) := by decide +kernel
theorem d_X1_checkSquare_19 : decode b_X1_checkSquare 19 = .ok (.goto 11, 3) := by decide +kernel
theorem d_X1_checkSquare_22 : decode b_X1_checkSquare 22 = .ok (.aload_n 0, 1) := by decide +kernel
theorem d_X1_checkSquare_23 : decode b_X1_checkSquare 23 = .ok (.getfield 68, 3) := by decide +kernel
theorem d_X1_checkSquare_26 : decode b_X1_checkSquare 26 = .ok (.iconst 1, 1) := by decide +kernel
theorem d_X1_checkSquare_27 : decode b_X1_checkSquare 27 = .ok (.if_icmp .ge 15, 3) := by decide +kernel
theorem d_X1_checkSquare_30 : decode b_X1_checkSquare 30 = .ok (.aload_n 0, 1) := by decide +kernel
theorem d_X1_checkSquare_31 : decode b_X1_checkSquare 31 = .ok (.getfield 26, 3) := by decide +kernel
theorem d_X1_checkSquare_34 : decode b_X1_checkSquare 34 = .ok (.iconst 2, 1) := by decide +kernel
theorem d_X1_checkSquare_35 : decode b_X1_checkSquare 35 = .ok (.aload_n 0, 1) := by decide +kernel
theorem d_X1_checkSquare_36 : decode b_X1_checkSquare 36 = .ok (.getfield 46, 3) := by decide +kernel
theorem d_X1_checkSquare_39 : decode b_X1_checkSquare 39 = .ok (.invokevirtual 124, 3) := by decide +kernel
theorem d_X1_checkSquare_42 : decode b_X1_checkSquare 42 = .ok (.aload_n 0, 1) := by decide +kernel
theorem d_X1_checkSquare_43 : decode b_X1_checkSquare 43 = .ok (.getfield 46, 3) := by decide +kernel
theorem d_X1_checkSquare_46 : decode b_X1_checkSquare 46 = .ok (.ifCond .lt 25, 3) := by decide +kernel
theorem d_X1_checkSquare_49 : decode b_X1_checkSquare 49 = .ok (.aload_n 0, 1) := by decide +kernel
theorem d_X1_checkSquare_50 : decode b_X1_checkSquare 50 = .ok (.getfield 68, 3) := by decide +kernel
theorem d_X1_checkSquare_53 : decode b_X1_checkSquare 53 = .ok (.sipush 4000, 3) := by decide +kernel
theorem d_X1_checkSquare_56 : decode b_X1_checkSquare 56 = .ok (.if_icmp .le 15, 3) := by decide +kernel
theorem d_X1_checkSquare_59 : decode b_X1_checkSquare 59 = .ok (.aload_n 0, 1) := by decide +kernel
theorem d_X1_checkSquare_60 : decode b_X1_checkSquare 60 = .ok (.getfield 26, 3) := by decide +kernel
theorem d_X1_checkSquare_63 : decode b_X1_checkSquare 63 = .ok (.iconst 4, 1) := by decide +kernel
theorem d_X1_checkSquare_64 : decode b_X1_checkSquare 64 = .ok (.aload_n 0, 1) := by decide +kernel
theorem d_X1_checkSquare_65 : decode b_X1_checkSquare 65 = .ok (.getfield 46, 3) := by decide +kernel
theorem d_X1_checkSquare_68 : decode b_X1_checkSquare 68 = .ok (.invokevirtual 124, 3) := by decide +kernel
theorem d_X1_checkSquare_71 : decode b_X1_checkSquare 71 = .ok (.return_, 1) := by decide +kernel
theorem d_X11_declareLocal_0 : decode b_X11_declareLocal 0 = .ok (.aload_n 0, 1) := by decide +kernel
theorem d_X11_declareLocal_1 : decode b_X11_declareLocal 1 = .ok (.getfield 69, 3) := by decide +kernel
theorem d_X11_declareLocal_4 : decode b_X11_declareLocal 4 = .ok (.istore 4, 2) := by decide +kernel
theorem d_X11_declareLocal_6 : decode b_X11_declareLocal 6 = .ok (.aload_n 0, 1) := by decide +kernel
theorem d_X11_declareLocal_7 : decode b_X11_declareLocal 7 = .ok (.getfield 18, 3) := by decide +kernel
theorem d_X11_declareLocal_10 : decode b_X11_declareLocal 10 = .ok (.iload 4, 2) := by decide +kernel
theorem d_X11_declareLocal_12 : decode b_X11_declareLocal 12 = .ok (.iload_n 1, 1) := by decide +kernel
theorem d_X11_declareLocal_13 : decode b_X11_declareLocal 13 = .ok (.invokestatic 78, 3) := by decide +kernel
theorem d_X11_declareLocal_16 : decode b_X11_declareLocal 16 = .ok (.aload_n 0, 1) := by decide +kernel
theorem d_X11_declareLocal_17 : decode b_X11_declareLocal 17 = .ok (.getfield 21, 3) := by decide +kernel
theorem d_X11_declareLocal_20 : decode b_X11_declareLocal 20 = .ok (.iload 4, 2) := by decide +kernel
theorem d_X11_declareLocal_22 : decode b_X11_declareLocal 22 = .ok (.iload_n 2, 1) := by decide +kernel
theorem d_X11_declareLocal_23 : decode b_X11_declareLocal 23 = .ok (.invokestatic 78, 3) := by decide +kernel
theorem d_X11_declareLocal_26 : decode b_X11_declareLocal 26 = .ok (.aload_n 0, 1) := by decide +kernel
theorem d_X11_declareLocal_27 : decode b_X11_declareLocal 27 = .ok (.getfield 24, 3) := by decide +kernel
theorem d_X11_declareLocal_30 : decode b_X11_declareLocal 30 = .ok (.iload 4, 2) := by decide +kernel
theorem d_X11_declareLocal_32 : decode b_X11_declareLocal 32 = .ok (.iload_n 3, 1) := by decide +kernel
theorem d_X11_declareLocal_33 : decode b_X11_declareLocal 33 = .ok (.invokestatic 78, 3) := by decide +kernel
theorem d_X11_declareLocal_36 : decode b_X11_declareLocal 36 = .ok (.aload_n 0, 1) := by decide +kernel
theorem d_X11_declareLocal_37 : decode b_X11_declareLocal 37 = .ok (.getfield 27, 3) := by decide +kernel
theorem d_X11_declareLocal_40 : decode b_X11_declareLocal 40 = .ok (.iload 4, 2) := by decide +kernel
theorem d_X11_declareLocal_42 : decode b_X11_declareLocal 42 = .ok (.iload_n 3, 1) := by decide +kernel
theorem d_X11_declareLocal_43 : decode b_X11_declareLocal 43 = .ok (.ifCond .ge 7, 3) := by decide +kernel
theorem d_X11_declareLocal_46 : decode b_X11_declareLocal 46 = .ok (.iconst 0, 1) := by decide +kernel
theorem d_X11_declareLocal_47 : decode b_X11_declareLocal 47 = .ok (.goto 4, 3) := by decide +kernel
theorem d_X11_declareLocal_50 : decode b_X11_declareLocal 50 = .ok (.iconst 1, 1) := by decide +kernel
theorem d_X11_declareLocal_51 : decode b_X11_declareLocal 51 = .ok (.invokestatic 78, 3) := by decide +kernel
theorem d_X11_declareLocal_54 : decode b_X11_declareLocal 54 = .ok (.aload_n 0, 1) := by decide +kernel
theorem d_X11_declareLocal_55 : decode b_X11_declareLocal 55 = .ok (.getfield 30, 3) := by decide +kernel
theorem d_X11_declareLocal_58 : decode b_X11_declareLocal 58 = .ok (.aload_n 0, 1) := by decide +kernel
theorem d_X11_declareLocal_59 : decode b_X11_declareLocal 59 = .ok (.getfield 72, 3) := by decide +kernel
theorem d_X11_declareLocal_62 : decode b_X11_declareLocal 62 = .ok (.iload 4, 2) := by decide +kernel
theorem d_X11_declareLocal_64 : decode b_X11_declareLocal 64 = .ok (.invokestatic 78, 3) := by decide +kernel
theorem d_X11_declareLocal_67 : decode b_X11_declareLocal 67 = .ok (.aload_n 0, 1) := by decide +kernel
theorem d_X11_declareLocal_68 : decode b_X11_declareLocal 68 = .ok (.dup, 1) := by decide +kernel
theorem d_X11_declareLocal_69 : decode b_X11_declareLocal 69 = .ok (.getfield 69, 3) := by decide +kernel
theorem d_X11_declareLocal_72 : decode b_X11_declareLocal 72 = .ok (.iconst 1, 1) := by decide +kernel
theorem d_X11_declareLocal_73 : decode b_X11_declareLocal 73 = .ok (.iadd, 1) := by decide +kernel
theorem d_X11_declareLocal_74 : decode b_X11_declareLocal 74 = .ok (.putfield 69, 3) := by decide +kernel
theorem d_X11_declareLocal_77 : decode b_X11_declareLocal 77 = .ok (.aload_n 0, 1) := by decide +kernel
theorem d_X11_declareLocal_78 : decode b_X11_declareLocal 78 = .ok (.dup, 1) := by decide +kernel
theorem d_X11_declareLocal_79 : decode b_X11_declareLocal 79 = .ok (.getfield 72, 3) := by decide +kernel
theorem d_X11_declareLocal_82 : decode b_X11_declareLocal 82 = .ok (.iconst 1, 1) := by decide +kernel
theorem d_X11_declareLocal_83 : decode b_X11_declareLocal 83 = .ok (.iadd, 1) := by decide +kernel
theorem d_X11_declareLocal_84 : decode b_X11_declareLocal 84 = .ok (.putfield 72, 3) := by decide +kernel
theorem d_X11_declareLocal_87 : decode b_X11_declareLocal 87 = .ok (.return_, 1) := by decide +kernel
theorem d_X1_storeLocal_0 : decode b_X1_storeLocal 0 = .ok (.aload_n 0, 1) := by decide +kernel
theorem d_X1_storeLocal_1 : decode b_X1_storeLocal 1 = .ok (.getfield 41, 3) := by decide +kernel
theorem d_X1_storeLocal_4 : decode b_X1_storeLocal 4 = .ok (.bipush 9, 2) := by decide +kernel
theorem d_X1_storeLocal_6 : decode b_X1_storeLocal 6 = .ok (.aload_n 0, 1) := by decide +kernel
theorem d_X1_storeLocal_7 : decode b_X1_storeLocal 7 = .ok (.getfield 145, 3) := by decide +kernel
theorem d_X1_storeLocal_10 : decode b_X1_storeLocal 10 = .ok (.iconst 0, 1) := by decide +kernel
theorem d_X1_storeLocal_11 : decode b_X1_storeLocal 11 = .ok (.iconst 0, 1) := by decide +kernel
theorem d_X1_storeLocal_12 : decode b_X1_storeLocal 12 = .ok (.invokevirtual 152, 3) := by decide +kernel
theorem d_X1_storeLocal_15 : decode b_X1_storeLocal 15 = .ok (.pop, 1) := by decide +kernel
theorem d_X1_storeLocal_16 : decode b_X1_storeLocal 16 = .ok (.aload_n 0, 1) := by decide +kernel
theorem d_X1_storeLocal_17 : decode b_X1_storeLocal 17 = .ok (.getfield 41, 3) := by decide +kernel
theorem d_X1_storeLocal_20 : decode b_X1_storeLocal 20 = .ok (.iconst 2, 1) := by decide +kernel
theorem d_X1_storeLocal_21 : decode b_X1_storeLocal 21 = .ok (.iconst 0, 1) := by decide +kernel
theorem d_X1_storeLocal_22 : decode b_X1_storeLocal 22 = .ok (.iconst 0, 1) := by decide +kernel
theorem d_X1_storeLocal_23 : decode b_X1_storeLocal 23 = .ok (.iconst 0, 1) := by decide +kernel
theorem d_X1_storeLocal_24 : decode b_X1_storeLocal 24 = .ok (.invokevirtual 152, 3) := by decide +kernel
theorem d_X1_storeLocal_27 : decode b_X1_storeLocal 27 = .ok (.pop, 1) := by decide +kernel
theorem d_X1_storeLocal_28 : decode b_X1_storeLocal 28 = .ok (.return_, 1) := by decide +kernel
theorem d_X1_outer_0 : decode b_X1_outer 0 = .ok (.aload_n 0, 1) := by decide +kernel
theorem d_X1_outer_1 : decode b_X1_outer 1 = .ok (.getfield 26, 3) := by decide +kernel
theorem d_X1_outer_4 : decode b_X1_outer 4 = .ok (.iload_n 1, 1) := by decide +kernel
theorem d_X1_outer_5 : decode b_X1_outer 5 = .ok (.invokevirtual 159, 3) := by decide +kernel
theorem d_X1_outer_8 : decode b_X1_outer 8 = .ok (.istore 4, 2) := by decide +kernel
theorem d_X1_outer_10 : decode b_X1_outer 10 = .ok (.aload_n 0, 1) := by decide +kernel
theorem d_X1_outer_11 : decode b_X1_outer 11 = .ok (.iload_n 1, 1) := by decide +kernel
theorem d_X1_outer_12 : decode b_X1_outer 12 = .ok (.iload 4, 2) := by decide +kernel
theorem d_X1_outer_14 : decode b_X1_outer 14 = .ok (.iload 4, 2) := by decide +kernel
theorem d_X1_outer_16 : decode b_X1_outer 16 = .ok (.ifCond .lt 13, 3) := by decide +kernel
theorem d_X1_outer_19 : decode b_X1_outer 19 = .ok (.aload_n 0, 1) := by decide +kernel
theorem d_X1_outer_20 : decode b_X1_outer 20 = .ok (.iload 4, 2) := by decide +kernel
theorem d_X1_outer_22 : decode b_X1_outer 22 = .ok (.iload_n 2, 1) := by decide +kernel
theorem d_X1_outer_23 : decode b_X1_outer 23 = .ok (.invokevirtual 163, 3) := by decide +kernel
theorem d_X1_outer_26 : decode b_X1_outer 26 = .ok (.ifCond .eq 7, 3) := by decide +kernel
theorem d_X1_outer_29 : decode b_X1_outer 29 = .ok (.iconst 1, 1) := by decide +kernel
theorem d_X1_outer_30 : decode b_X1_outer 30 = .ok (.goto 4, 3) := by decide +kernel
theorem d_X1_outer_33 : decode b_X1_outer 33 = .ok (.iconst 0, 1) := by decide +kernel
theorem d_X1_outer_34 : decode b_X1_outer 34 = .ok (.invokevirtual 167, 3) := by decide +kernel
theorem d_X1_outer_37 : decode b_X1_outer 37 = .ok (.aload_n 0, 1) := by decide +kernel
theorem d_X1_outer_38 : decode b_X1_outer 38 = .ok (.iload_n 3, 1) := by decide +kernel
theorem d_X1_outer_39 : decode b_X1_outer 39 = .ok (.ifCond .ne 10, 3) := by decide +kernel
theorem d_X1_outer_42 : decode b_X1_outer 42 = .ok (.aload_n 0, 1) := by decide +kernel
theorem d_X1_outer_43 : decode b_X1_outer 43 = .ok (.getfield 113, 3) := by decide +kernel
theorem d_X1_outer_46 : decode b_X1_outer 46 = .ok (.ifCond .eq 7, 3) := by decide +kernel
theorem d_X1_outer_49 : decode b_X1_outer 49 = .ok (.iconst 1, 1) := by decide +kernel
theorem d_X1_outer_50 : decode b_X1_outer 50 = .ok (.goto 4, 3) := by decide +kernel
theorem d_X1_outer_53 : decode b_X1_outer 53 = .ok (.iconst 0, 1) := by decide +kernel
theorem d_X1_outer_54 : decode b_X1_outer 54 = .ok (.invokevirtual 138, 3) := by decide +kernel
theorem d_X1_outer_57 : decode b_X1_outer 57 = .ok (.aload_n 0, 1) := by decide +kernel
theorem d_X1_outer_58 : decode b_X1_outer 58 = .ok (.getfield 113, 3) := by decide +kernel
theorem d_X1_outer_61 : decode b_X1_outer 61 = .ok (.ifCond .eq 7, 3) := by decide +kernel
theorem d_X1_outer_64 : decode b_X1_outer 64 = .ok (.iconst 0, 1) := by decide +kernel
theorem d_X1_outer_65 : decode b_X1_outer 65 = .ok (.goto 19, 3) := by decide +kernel
theorem d_X1_outer_68 : decode b_X1_outer 68 = .ok (.aload_n 0, 1) := by decide +kernel
theorem d_X1_outer_69 : decode b_X1_outer 69 = .ok (.getfield 98, 3) := by decide +kernel
theorem d_X1_outer_72 : decode b_X1_outer 72 = .ok (.iconst (-1), 1) := by decide +kernel
theorem d_X1_outer_73 : decode b_X1_outer 73 = .ok (.if_icmp .ne 7, 3) := by decide +kernel
theorem d_X1_outer_76 : decode b_X1_outer 76 = .ok (.iconst 1, 1) := by decide +kernel
theorem d_X1_outer_77 : decode b_X1_outer 77 = .ok (.goto 7, 3) := by decide +kernel
theorem d_X1_outer_80 : decode b_X1_outer 80 = .ok (.aload_n 0, 1) := by decide +kernel
theorem d_X1_outer_81 : decode b_X1_outer 81 = .ok (.getfield 98, 3) := by decide +kernel
theorem d_X1_outer_84 : decode b_X1_outer 84 = .ok (.istore 5, 2) := by decide +kernel
theorem d_X1_outer_86 : decode b_X1_outer 86 = .ok (.aload_n 0, 1) := by decide +kernel
theorem d_X1_outer_87 : decode b_X1_outer 87 = .ok (.getfield 26, 3) := by decide +kernel
theorem d_X1_outer_90 : decode b_X1_outer 90 = .ok (.getfield 170, 3) := by decide +kernel
theorem d_X1_outer_93 : decode b_X1_outer 93 = .ok (.iload 5, 2) := by decide +kernel
theorem d_X1_outer_95 : decode b_X1_outer 95 = .ok (.iadd, 1) := by decide +kernel
theorem d_X1_outer_96 : decode b_X1_outer 96 = .ok (.sipush 16000, 3) := by decide +kernel
theorem d_X1_outer_99 : decode b_X1_outer 99 = .ok (.if_icmp .le 12, 3) := by decide +kernel
theorem d_X1_outer_102 : decode b_X1_outer 102 = .ok (.aload_n 0, 1) := by decide +kernel
theorem d_X1_outer_103 : decode b_X1_outer 103 = .ok (.getfield 26, 3) := by decide +kernel
theorem d_X1_outer_106 : decode b_X1_outer 106 = .ok (.iconst 4, 1) := by decide +kernel
theorem d_X1_outer_107 : decode b_X1_outer 107 = .ok (.iload_n 1, 1) := by decide +kernel
theorem d_X1_outer_108 : decode b_X1_outer 108 = .ok (.invokevirtual 124, 3) := by decide +kernel
theorem d_X1_outer_111 : decode b_X1_outer 111 = .ok (.aload_n 0, 1) := by decide +kernel
theorem d_X1_outer_112 : decode b_X1_outer 112 = .ok (.getfield 26, 3) := by decide +kernel
theorem d_X1_outer_115 : decode b_X1_outer 115 = .ok (.getfield 142, 3) := by decide +kernel
theorem d_X1_outer_118 : decode b_X1_outer 118 = .ok (.ifCond .eq 4, 3) := by decide +kernel
theorem d_X1_outer_121 : decode b_X1_outer 121 = .ok (.return_, 1) := by decide +kernel
theorem d_X1_outer_122 : decode b_X1_outer 122 = .ok (.aload_n 0, 1) := by decide +kernel
theorem d_X1_outer_123 : decode b_X1_outer 123 = .ok (.iload 4, 2) := by decide +kernel
theorem d_X1_outer_125 : decode b_X1_outer 125 = .ok (.ifCond .ge 14, 3) := by decide +kernel
theorem d_X1_outer_128 : decode b_X1_outer 128 = .ok (.aload_n 0, 1) := by decide +kernel
theorem d_X1_outer_129 : decode b_X1_outer 129 = .ok (.getfield 26, 3) := by decide +kernel
theorem d_X1_outer_132 : decode b_X1_outer 132 = .ok (.iload_n 1, 1) := by decide +kernel
theorem d_X1_outer_133 : decode b_X1_outer 133 = .ok (.invokevirtual 173, 3) := by decide +kernel
theorem d_X1_outer_136 : decode b_X1_outer 136 = .ok (.goto 5, 3) := by decide +kernel
theorem d_X1_outer_139 : decode b_X1_outer 139 = .ok (.iload 4, 2) := by decide +kernel
theorem d_X1_outer_141 : decode b_X1_outer 141 = .ok (.putfield 145, 3) := by decide +kernel
theorem d_X1_outer_144 : decode b_X1_outer 144 = .ok (.aload_n 0, 1) := by decide +kernel
theorem d_X1_outer_145 : decode b_X1_outer 145 = .ok (.getfield 34, 3) := by decide +kernel
theorem d_X1_outer_148 : decode b_X1_outer 148 = .ok (.getfield 176, 3) := by decide +kernel
theorem d_X1_outer_151 : decode b_X1_outer 151 = .ok (.aload_n 0, 1) := by decide +kernel
theorem d_X1_outer_152 : decode b_X1_outer 152 = .ok (.getfield 145, 3) := by decide +kernel
theorem d_X1_outer_155 : decode b_X1_outer 155 = .ok (.aload_n 0, 1) := by decide +kernel
theorem d_X1_outer_156 : decode b_X1_outer 156 = .ok (.getfield 95, 3) := by decide +kernel
theorem d_X1_outer_159 : decode b_X1_outer 159 = .ok (.invokestatic 181, 3) := by decide +kernel
theorem d_X1_outer_162 : decode b_X1_outer 162 = .ok (.iload 4, 2) := by decide +kernel
theorem d_X1_outer_164 : decode b_X1_outer 164 = .ok (.ifCond .lt 10, 3) := by decide +kernel
theorem d_X1_outer_167 : decode b_X1_outer 167 = .ok (.aload_n 0, 1) := by decide +kernel
theorem d_X1_outer_168 : decode b_X1_outer 168 = .ok (.getfield 98, 3) := by decide +kernel
theorem d_X1_outer_171 : decode b_X1_outer 171 = .ok (.ifCond .le 21, 3) := by decide +kernel
theorem d_X1_outer_174 : decode b_X1_outer 174 = .ok (.aload_n 0, 1) := by decide +kernel
theorem d_X1_outer_175 : decode b_X1_outer 175 = .ok (.getfield 34, 3) := by decide +kernel
theorem d_X1_outer_178 : decode b_X1_outer 178 = .ok (.getfield 185, 3) := by decide +kernel
theorem d_X1_outer_181 : decode b_X1_outer 181 = .ok (.aload_n 0, 1) := by decide +kernel
theorem d_X1_outer_182 : decode b_X1_outer 182 = .ok (.getfield 145, 3) := by decide +kernel
theorem d_X1_outer_185 : decode b_X1_outer 185 = .ok (.aload_n 0, 1) := by decide +kernel
theorem d_X1_outer_186 : decode b_X1_outer 186 = .ok (.getfield 98, 3) := by decide +kernel
theorem d_X1_outer_189 : decode b_X1_outer 189 = .ok (.invokestatic 181, 3) := by decide +kernel
theorem d_X1_outer_192 : decode b_X1_outer 192 = .ok (.iload_n 2, 1) := by decide +kernel
theorem d_X1_outer_193 : decode b_X1_outer 193 = .ok (.iconst 1, 1) := by decide +kernel
theorem d_X1_outer_194 : decode b_X1_outer 194 = .ok (.if_icmp .ne 15, 3) := by decide +kernel
theorem d_X1_outer_197 : decode b_X1_outer 197 = .ok (.aload_n 0, 1) := by decide +kernel
theorem d_X1_outer_198 : decode b_X1_outer 198 = .ok (.getfield 34, 3) := by decide +kernel
theorem d_X1_outer_201 : decode b_X1_outer 201 = .ok (.aload_n 0, 1) := by decide +kernel
theorem d_X1_outer_202 : decode b_X1_outer 202 = .ok (.getfield 145, 3) := by decide +kernel
theorem d_X1_outer_205 : decode b_X1_outer 205 = .ok (.iconst 2, 1) := by decide +kernel
theorem d_X1_outer_206 : decode b_X1_outer 206 = .ok (.invokevirtual 188, 3) := by decide +kernel
theorem d_X1_outer_209 : decode b_X1_outer 209 = .ok (.aload_n 0, 1) := by decide +kernel
theorem d_X1_outer_210 : decode b_X1_outer 210 = .ok (.getfield 113, 3) := by decide +kernel
theorem d_X1_outer_213 : decode b_X1_outer 213 = .ok (.ifCond .ne 36, 3) := by decide +kernel
theorem d_X1_outer_216 : decode b_X1_outer 216 = .ok (.aload_n 0, 1) := by decide +kernel
theorem d_X1_outer_217 : decode b_X1_outer 217 = .ok (.getfield 34, 3) := by decide +kernel
theorem d_X1_outer_220 : decode b_X1_outer 220 = .ok (.aload_n 0, 1) := by decide +kernel
theorem d_X1_outer_221 : decode b_X1_outer 221 = .ok (.getfield 145, 3) := by decide +kernel
theorem d_X1_outer_224 : decode b_X1_outer 224 = .ok (.iconst 4, 1) := by decide +kernel
theorem d_X1_outer_225 : decode b_X1_outer 225 = .ok (.invokevirtual 188, 3) := by decide +kernel
theorem d_X1_outer_228 : decode b_X1_outer 228 = .ok (.aload_n 0, 1) := by decide +kernel
theorem d_X1_outer_229 : decode b_X1_outer 229 = .ok (.getfield 34, 3) := by decide +kernel
theorem d_X1_outer_232 : decode b_X1_outer 232 = .ok (.getfield 191, 3) := by decide +kernel
theorem d_X1_outer_235 : decode b_X1_outer 235 = .ok (.aload_n 0, 1) := by decide +kernel
theorem d_X1_outer_236 : decode b_X1_outer 236 = .ok (.getfield 145, 3) := by decide +kernel
theorem d_X1_outer_239 : decode b_X1_outer 239 = .ok (.aload_n 0, 1) := by decide +kernel
theorem d_X1_outer_240 : decode b_X1_outer 240 = .ok (.getfield 26, 3) := by decide +kernel
theorem d_X1_outer_243 : decode b_X1_outer 243 = .ok (.getfield 170, 3) := by decide +kernel
theorem d_X1_outer_246 : decode b_X1_outer 246 = .ok (.invokestatic 181, 3) := by decide +kernel
theorem d_X1_outer_249 : decode b_X1_outer 249 = .ok (.aload_n 0, 1) := by decide +kernel
theorem d_X1_outer_250 : decode b_X1_outer 250 = .ok (.aload_n 0, 1) := by decide +kernel
theorem d_X1_outer_251 : decode b_X1_outer 251 = .ok (.getfield 26, 3) := by decide +kernel
theorem d_X1_outer_254 : decode b_X1_outer 254 = .ok (.getfield 170, 3) := by decide +kernel
theorem d_X1_outer_257 : decode b_X1_outer 257 = .ok (.putfield 194, 3) := by decide +kernel
theorem d_X1_outer_260 : decode b_X1_outer 260 = .ok (.aload_n 0, 1) := by decide +kernel
theorem d_X1_outer_261 : decode b_X1_outer 261 = .ok (.getfield 26, 3) := by decide +kernel
theorem d_X1_outer_264 : decode b_X1_outer 264 = .ok (.dup, 1) := by decide +kernel
theorem d_X1_outer_265 : decode b_X1_outer 265 = .ok (.getfield 170, 3) := by decide +kernel
theorem d_X1_outer_268 : decode b_X1_outer 268 = .ok (.iload 5, 2) := by decide +kernel
theorem d_X1_outer_270 : decode b_X1_outer 270 = .ok (.iadd, 1) := by decide +kernel
theorem d_X1_outer_271 : decode b_X1_outer 271 = .ok (.putfield 170, 3) := by decide +kernel
theorem d_X1_outer_274 : decode b_X1_outer 274 = .ok (.return_, 1) := by decide +kernel
theorem d_X1_joins_0 : decode b_X1_joins 0 = .ok (.aload_n 0, 1) := by decide +kernel
theorem d_X1_joins_1 : decode b_X1_joins 1 = .ok (.getfield 34, 3) := by decide +kernel
theorem d_X1_joins_4 : decode b_X1_joins 4 = .ok (.getfield 185, 3) := by decide +kernel
theorem d_X1_joins_7 : decode b_X1_joins 7 = .ok (.iload_n 1, 1) := by decide +kernel
theorem d_X1_joins_8 : decode b_X1_joins 8 = .ok (.invokestatic 58, 3) := by decide +kernel
theorem d_X1_joins_11 : decode b_X1_joins 11 = .ok (.istore_n 3, 1) := by decide +kernel
theorem d_X1_joins_12 : decode b_X1_joins 12 = .ok (.aload_n 0, 1) := by decide +kernel
theorem d_X1_joins_13 : decode b_X1_joins 13 = .ok (.getfield 34, 3) := by decide +kernel
theorem d_X1_joins_16 : decode b_X1_joins 16 = .ok (.iload_n 1, 1) := by decide +kernel
theorem d_X1_joins_17 : decode b_X1_joins 17 = .ok (.iconst 1, 1) := by decide +kernel
theorem d_X1_joins_18 : decode b_X1_joins 18 = .ok (.invokevirtual 200, 3) := by decide +kernel
theorem d_X1_joins_21 : decode b_X1_joins 21 = .ok (.ifCond .ne 51, 3) := by decide +kernel
theorem d_X1_joins_24 : decode b_X1_joins 24 = .ok (.aload_n 0, 1) := by decide +kernel
theorem d_X1_joins_25 : decode b_X1_joins 25 = .ok (.getfield 34, 3) := by decide +kernel
theorem d_X1_joins_28 : decode b_X1_joins 28 = .ok (.getfield 176, 3) := by decide +kernel
theorem d_X1_joins_31 : decode b_X1_joins 31 = .ok (.iload_n 1, 1) := by decide +kernel
theorem d_X1_joins_32 : decode b_X1_joins 32 = .ok (.invokestatic 58, 3) := by decide +kernel
theorem d_X1_joins_35 : decode b_X1_joins 35 = .ok (.aload_n 0, 1) := by decide +kernel
theorem d_X1_joins_36 : decode b_X1_joins 36 = .ok (.getfield 95, 3) := by decide +kernel
theorem d_X1_joins_39 : decode b_X1_joins 39 = .ok (.if_icmp .ne 33, 3) := by decide +kernel
theorem d_X1_joins_42 : decode b_X1_joins 42 = .ok (.iload_n 3, 1) := by decide +kernel
theorem d_X1_joins_43 : decode b_X1_joins 43 = .ok (.iconst (-1), 1) := by decide +kernel
theorem d_X1_joins_44 : decode b_X1_joins 44 = .ok (.if_icmp .ne 7, 3) := by decide +kernel
theorem d_X1_joins_47 : decode b_X1_joins 47 = .ok (.iconst 1, 1) := by decide +kernel
theorem d_X1_joins_48 : decode b_X1_joins 48 = .ok (.goto 4, 3) := by decide +kernel
theorem d_X1_joins_51 : decode b_X1_joins 51 = .ok (.iconst 0, 1) := by decide +kernel
theorem d_X1_joins_52 : decode b_X1_joins 52 = .ok (.aload_n 0, 1) := by decide +kernel
theorem d_X1_joins_53 : decode b_X1_joins 53 = .ok (.getfield 98, 3) := by decide +kernel
theorem d_X1_joins_56 : decode b_X1_joins 56 = .ok (.iconst (-1), 1) := by decide +kernel
theorem d_X1_joins_57 : decode b_X1_joins 57 = .ok (.if_icmp .ne 7, 3) := by decide +kernel
theorem d_X1_joins_60 : decode b_X1_joins 60 = .ok (.iconst 1, 1) := by decide +kernel
theorem d_X1_joins_61 : decode b_X1_joins 61 = .ok (.goto 4, 3) := by decide +kernel
theorem d_X1_joins_64 : decode b_X1_joins 64 = .ok (.iconst 0, 1) := by decide +kernel
theorem d_X1_joins_65 : decode b_X1_joins 65 = .ok (.if_icmp .ne 7, 3) := by decide +kernel
theorem d_X1_joins_68 : decode b_X1_joins 68 = .ok (.iconst 1, 1) := by decide +kernel
theorem d_X1_joins_69 : decode b_X1_joins 69 = .ok (.goto 4, 3) := by decide +kernel
theorem d_X1_joins_72 : decode b_X1_joins 72 = .ok (.iconst 0, 1) := by decide +kernel
theorem d_X1_joins_73 : decode b_X1_joins 73 = .ok (.istore 4, 2) := by decide +kernel
theorem d_X1_joins_75 : decode b_X1_joins 75 = .ok (.iload_n 3, 1) := by decide +kernel
theorem d_X1_joins_76 : decode b_X1_joins 76 = .ok (.ifCond .le 18, 3) := by decide +kernel
theorem d_X1_joins_79 : decode b_X1_joins 79 = .ok (.aload_n 0, 1) := by decide +kernel
theorem d_X1_joins_80 : decode b_X1_joins 80 = .ok (.getfield 98, 3) := by decide +kernel
theorem d_X1_joins_83 : decode b_X1_joins 83 = .ok (.ifCond .le 11, 3) := by decide +kernel
theorem d_X1_joins_86 : decode b_X1_joins 86 = .ok (.iload_n 3, 1) := by decide +kernel
theorem d_X1_joins_87 : decode b_X1_joins 87 = .ok (.aload_n 0, 1) := by decide +kernel
theorem d_X1_joins_88 : decode b_X1_joins 88 = .ok (.getfield 98, 3) := by decide +kernel
theorem d_X1_joins_91 : decode b_X1_joins 91 = .ok (.if_icmp .ne 7, 3) := by decide +kernel
theorem d_X1_joins_94 : decode b_X1_joins 94 = .ok (.iconst 1, 1) := by decide +kernel
theorem d_X1_joins_95 : decode b_X1_joins 95 = .ok (.goto 4, 3) := by decide +kernel
theorem d_X1_joins_98 : decode b_X1_joins 98 = .ok (.iconst 0, 1) := by decide +kernel
theorem d_X1_joins_99 : decode b_X1_joins 99 = .ok (.istore 5, 2) := by decide +kernel
theorem d_X1_joins_101 : decode b_X1_joins 101 = .ok (.iload_n 2, 1) := by decide +kernel
theorem d_X1_joins_102 : decode b_X1_joins 102 = .ok (.iconst 1, 1) := by decide +kernel
theorem d_X1_joins_103 : decode b_X1_joins 103 = .ok (.if_icmp .eq 19, 3) := by decide +kernel
theorem d_X1_joins_106 : decode b_X1_joins 106 = .ok (.aload_n 0, 1) := by decide +kernel
theorem d_X1_joins_107 : decode b_X1_joins 107 = .ok (.getfield 34, 3) := by decide +kernel
theorem d_X1_joins_110 : decode b_X1_joins 110 = .ok (.iload_n 1, 1) := by decide +kernel
theorem d_X1_joins_111 : decode b_X1_joins 111 = .ok (.iconst 2, 1) := by decide +kernel
theorem d_X1_joins_112 : decode b_X1_joins 112 = .ok (.invokevirtual 200, 3) := by decide +kernel
theorem d_X1_joins_115 : decode b_X1_joins 115 = .ok (.ifCond .ne 7, 3) := by decide +kernel
theorem d_X1_joins_118 : decode b_X1_joins 118 = .ok (.iconst 1, 1) := by decide +kernel
theorem d_X1_joins_119 : decode b_X1_joins 119 = .ok (.goto 4, 3) := by decide +kernel
theorem d_X1_joins_122 : decode b_X1_joins 122 = .ok (.iconst 0, 1) := by decide +kernel
theorem d_X1_joins_123 : decode b_X1_joins 123 = .ok (.istore 6, 2) := by decide +kernel
theorem d_X1_joins_125 : decode b_X1_joins 125 = .ok (.iload 4, 2) := by decide +kernel
theorem d_X1_joins_127 : decode b_X1_joins 127 = .ok (.ifCond .eq 36, 3) := by decide +kernel
theorem d_X1_joins_130 : decode b_X1_joins 130 = .ok (.iload 5, 2) := by decide +kernel
theorem d_X1_joins_132 : decode b_X1_joins 132 = .ok (.ifCond .eq 31, 3) := by decide +kernel
theorem d_X1_joins_135 : decode b_X1_joins 135 = .ok (.iload 6, 2) := by decide +kernel
theorem d_X1_joins_137 : decode b_X1_joins 137 = .ok (.ifCond .eq 26, 3) := by decide +kernel
theorem d_X1_joins_140 : decode b_X1_joins 140 = .ok (.aload_n 0, 1) := by decide +kernel
theorem d_X1_joins_141 : decode b_X1_joins 141 = .ok (.getfield 113, 3) := by decide +kernel
theorem d_X1_joins_144 : decode b_X1_joins 144 = .ok (.ifCond .ne 15, 3) := by decide +kernel
theorem d_X1_joins_147 : decode b_X1_joins 147 = .ok (.aload_n 0, 1) := by decide +kernel
theorem d_X1_joins_148 : decode b_X1_joins 148 = .ok (.getfield 34, 3) := by decide +kernel
theorem d_X1_joins_151 : decode b_X1_joins 151 = .ok (.iload_n 1, 1) := by decide +kernel
theorem d_X1_joins_152 : decode b_X1_joins 152 = .ok (.iconst 4, 1) := by decide +kernel
theorem d_X1_joins_153 : decode b_X1_joins 153 = .ok (.invokevirtual 200, 3) := by decide +kernel
theorem d_X1_joins_156 : decode b_X1_joins 156 = .ok (.ifCond .ne 7, 3) := by decide +kernel
theorem d_X1_joins_159 : decode b_X1_joins 159 = .ok (.iconst 1, 1) := by decide +kernel
theorem d_X1_joins_160 : decode b_X1_joins 160 = .ok (.goto 4, 3) := by decide +kernel
theorem d_X1_joins_163 : decode b_X1_joins 163 = .ok (.iconst 0, 1) := by decide +kernel
theorem d_X1_joins_164 : decode b_X1_joins 164 = .ok (.ireturn, 1) := by decide +kernel
theorem d_X1_checkOuter_0 : decode b_X1_checkOuter 0 = .ok (.iload_n 3, 1) := by decide +kernel
theorem d_X1_checkOuter_1 : decode b_X1_checkOuter 1 = .ok (.ifCond .ne 12, 3) := by decide +kernel
theorem d_X1_checkOuter_4 : decode b_X1_checkOuter 4 = .ok (.aload_n 0, 1) := by decide +kernel
theorem d_X1_checkOuter_5 : decode b_X1_checkOuter 5 = .ok (.getfield 26, 3) := by decide +kernel
theorem d_X1_checkOuter_8 : decode b_X1_checkOuter 8 = .ok (.iconst 2, 1) := by decide +kernel
theorem d_X1_checkOuter_9 : decode b_X1_checkOuter 9 = .ok (.iload_n 1, 1) := by decide +kernel
theorem d_X1_checkOuter_10 : decode b_X1_checkOuter 10 = .ok (.invokevirtual 124, 3) := by decide +kernel
theorem d_X1_checkOuter_13 : decode b_X1_checkOuter 13 = .ok (.iload_n 2, 1) := by decide +kernel
theorem d_X1_checkOuter_14 : decode b_X1_checkOuter 14 = .ok (.ifCond .ge 24, 3) := by decide +kernel
theorem d_X1_checkOuter_17 : decode b_X1_checkOuter 17 = .ok (.aload_n 0, 1) := by decide +kernel
theorem d_X1_checkOuter_18 : decode b_X1_checkOuter 18 = .ok (.getfield 26, 3) := by decide +kernel
theorem d_X1_checkOuter_21 : decode b_X1_checkOuter 21 = .ok (.getfield 197, 3) := by decide +kernel
theorem d_X1_checkOuter_24 : decode b_X1_checkOuter 24 = .ok (.bipush 100, 2) := by decide +kernel
theorem d_X1_checkOuter_26 : decode b_X1_checkOuter 26 = .ok (.if_icmp .lt 12, 3) := by decide +kernel
theorem d_X1_checkOuter_29 : decode b_X1_checkOuter 29 = .ok (.aload_n 0, 1) := by decide +kernel
theorem d_X1_checkOuter_30 : decode b_X1_checkOuter 30 = .ok (.getfield 26, 3) := by decide +kernel
theorem d_X1_checkOuter_33 : decode b_X1_checkOuter 33 = .ok (.iconst 4, 1) := by decide +kernel
theorem d_X1_checkOuter_34 : decode b_X1_checkOuter 34 = .ok (.iload_n 1, 1) := by decide +kernel
theorem d_X1_checkOuter_35 : decode b_X1_checkOuter 35 = .ok (.invokevirtual 124, 3) := by decide +kernel
theorem d_X1_checkOuter_38 : decode b_X1_checkOuter 38 = .ok (.return_, 1) := by decide +kernel
theorem d_X11_declareOuter_0 : decode b_X11_declareOuter 0 = .ok (.aload_n 0, 1) := by decide +kernel
theorem d_X11_declareOuter_1 : decode b_X11_declareOuter 1 = .ok (.getfield 9, 3) := by decide +kernel
theorem d_X11_declareOuter_4 : decode b_X11_declareOuter 4 = .ok (.aload_n 0, 1) := by decide +kernel
theorem d_X11_declareOuter_5 : decode b_X11_declareOuter 5 = .ok (.getfield 57, 3) := by decide +kernel
theorem d_X11_declareOuter_8 : decode b_X11_declareOuter 8 = .ok (.iload_n 1, 1) := by decide +kernel
theorem d_X11_declareOuter_9 : decode b_X11_declareOuter 9 = .ok (.invokestatic 78, 3) := by decide +kernel
theorem d_X11_declareOuter_12 : decode b_X11_declareOuter 12 = .ok (.aload_n 0, 1) := by decide +kernel
theorem d_X11_declareOuter_13 : decode b_X11_declareOuter 13 = .ok (.getfield 15, 3) := by decide +kernel
theorem d_X11_declareOuter_16 : decode b_X11_declareOuter 16 = .ok (.aload_n 0, 1) := by decide +kernel
theorem d_X11_declareOuter_17 : decode b_X11_declareOuter 17 = .ok (.getfield 57, 3) := by decide +kernel
theorem d_X11_declareOuter_20 : decode b_X11_declareOuter 20 = .ok (.iconst (-1), 1) := by decide +kernel
theorem d_X11_declareOuter_21 : decode b_X11_declareOuter 21 = .ok (.invokestatic 78, 3) := by decide +kernel
theorem d_X11_declareOuter_24 : decode b_X11_declareOuter 24 = .ok (.aload_n 0, 1) := by decide +kernel
theorem d_X11_declareOuter_25 : decode b_X11_declareOuter 25 = .ok (.dup, 1) := by decide +kernel
theorem d_X11_declareOuter_26 : decode b_X11_declareOuter 26 = .ok (.getfield 57, 3) := by decide +kernel
theorem d_X11_declareOuter_29 : decode b_X11_declareOuter 29 = .ok (.iconst 1, 1) := by decide +kernel
theorem d_X11_declareOuter_30 : decode b_X11_declareOuter 30 = .ok (.iadd, 1) := by decide +kernel
theorem d_X11_declareOuter_31 : decode b_X11_declareOuter 31 = .ok (.putfield 57, 3) := by decide +kernel
theorem d_X11_declareOuter_34 : decode b_X11_declareOuter 34 = .ok (.aload_n 0, 1) := by decide +kernel
theorem d_X11_declareOuter_35 : decode b_X11_declareOuter 35 = .ok (.getfield 40, 3) := by decide +kernel
theorem d_X11_declareOuter_38 : decode b_X11_declareOuter 38 = .ok (.aload_n 0, 1) := by decide +kernel
theorem d_X11_declareOuter_39 : decode b_X11_declareOuter 39 = .ok (.getfield 36, 3) := by decide +kernel
theorem d_X11_declareOuter_42 : decode b_X11_declareOuter 42 = .ok (.getfield 97, 3) := by decide +kernel
theorem d_X11_declareOuter_45 : decode b_X11_declareOuter 45 = .ok (.aload_n 0, 1) := by decide +kernel
theorem d_X11_declareOuter_46 : decode b_X11_declareOuter 46 = .ok (.getfield 36, 3) := by decide +kernel
theorem d_X11_declareOuter_49 : decode b_X11_declareOuter 49 = .ok (.getfield 101, 3) := by decide +kernel
theorem d_X11_declareOuter_52 : decode b_X11_declareOuter 52 = .ok (.iload_n 1, 1) := by decide +kernel
theorem d_X11_declareOuter_53 : decode b_X11_declareOuter 53 = .ok (.invokestatic 82, 3) := by decide +kernel
theorem d_X11_declareOuter_56 : decode b_X11_declareOuter 56 = .ok (.aload_n 0, 1) := by decide +kernel
theorem d_X11_declareOuter_57 : decode b_X11_declareOuter 57 = .ok (.getfield 36, 3) := by decide +kernel
theorem d_X11_declareOuter_60 : decode b_X11_declareOuter 60 = .ok (.getfield 104, 3) := by decide +kernel
theorem d_X11_declareOuter_63 : decode b_X11_declareOuter 63 = .ok (.iload_n 1, 1) := by decide +kernel
theorem d_X11_declareOuter_64 : decode b_X11_declareOuter 64 = .ok (.invokestatic 82, 3) := by decide +kernel
theorem d_X11_declareOuter_67 : decode b_X11_declareOuter 67 = .ok (.invokevirtual 107, 3) := by decide +kernel
theorem d_X11_declareOuter_70 : decode b_X11_declareOuter 70 = .ok (.ireturn, 1) := by decide +kernel
theorem d_X1_item_0 : decode b_X1_item 0 = .ok (.aload_n 0, 1) := by decide +kernel
theorem d_X1_item_1 : decode b_X1_item 1 = .ok (.getfield 42, 3) := by decide +kernel
theorem d_X1_item_4 : decode b_X1_item 4 = .ok (.invokevirtual 213, 3) := by decide +kernel
theorem d_X1_item_7 : decode b_X1_item 7 = .ok (.astore_n 1, 1) := by decide +kernel
theorem d_X1_item_8 : decode b_X1_item 8 = .ok (.aload_n 0, 1) := by decide +kernel
theorem d_X1_item_9 : decode b_X1_item 9 = .ok (.getfield 101, 3) := by decide +kernel
theorem d_X1_item_12 : decode b_X1_item 12 = .ok (.aload_n 0, 1) := by decide +kernel
theorem d_X1_item_13 : decode b_X1_item 13 = .ok (.getfield 98, 3) := by decide +kernel
theorem d_X1_item_16 : decode b_X1_item 16 = .ok (.if_icmp .ge 11, 3) := by decide +kernel
theorem d_X1_item_19 : decode b_X1_item 19 = .ok (.aload_n 0, 1) := by decide +kernel
theorem d_X1_item_20 : decode b_X1_item 20 = .ok (.aload_n 1, 1) := by decide +kernel
theorem d_X1_item_21 : decode b_X1_item 21 = .ok (.invokevirtual 217, 3) := by decide +kernel
theorem d_X1_item_24 : decode b_X1_item 24 = .ok (.ifCond .ne 11, 3) := by decide +kernel
theorem d_X1_item_27 : decode b_X1_item 27 = .ok (.aload_n 0, 1) := by decide +kernel
theorem d_X1_item_28 : decode b_X1_item 28 = .ok (.iconst 1, 1) := by decide +kernel
theorem d_X1_item_29 : decode b_X1_item 29 = .ok (.putfield 104, 3) := by decide +kernel
theorem d_X1_item_32 : decode b_X1_item 32 = .ok (.goto 41, 3) := by decide +kernel
theorem d_X1_item_35 : decode b_X1_item 35 = .ok (.aload_n 0, 1) := by decide +kernel
theorem d_X1_item_36 : decode b_X1_item 36 = .ok (.getfield 110, 3) := by decide +kernel
theorem d_X1_item_39 : decode b_X1_item 39 = .ok (.ifCond .eq 25, 3) := by decide +kernel
theorem d_X1_item_42 : decode b_X1_item 42 = .ok (.aload_n 0, 1) := by decide +kernel
theorem d_X1_item_43 : decode b_X1_item 43 = .ok (.getfield 41, 3) := by decide +kernel
theorem d_X1_item_46 : decode b_X1_item 46 = .ok (.bipush 16, 2) := by decide +kernel
theorem d_X1_item_48 : decode b_X1_item 48 = .ok (.aload_n 0, 1) := by decide +kernel
theorem d_X1_item_49 : decode b_X1_item 49 = .ok (.getfield 145, 3) := by decide +kernel
theorem d_X1_item_52 : decode b_X1_item 52 = .ok (.aload_n 0, 1) := by decide +kernel
theorem d_X1_item_53 : decode b_X1_item 53 = .ok (.getfield 101, 3) := by decide +kernel
theorem d_X1_item_56 : decode b_X1_item 56 = .ok (.iconst 0, 1) := by decide +kernel
theorem d_X1_item_57 : decode b_X1_item 57 = .ok (.invokevirtual 152, 3) := by decide +kernel
theorem d_X1_item_60 : decode b_X1_item 60 = .ok (.pop, 1) := by decide +kernel
theorem d_X1_item_61 : decode b_X1_item 61 = .ok (.goto 12, 3) := by decide +kernel
theorem d_X1_item_64 : decode b_X1_item 64 = .ok (.aload_n 0, 1) := by decide +kernel
theorem d_X1_item_65 : decode b_X1_item 65 = .ok (.aload_n 0, 1) := by decide +kernel
theorem d_X1_item_66 : decode b_X1_item 66 = .ok (.getfield 101, 3) := by decide +kernel
theorem d_X1_item_69 : decode b_X1_item 69 = .ok (.aload_n 1, 1) := by decide +kernel
theorem d_X1_item_70 : decode b_X1_item 70 = .ok (.invokevirtual 221, 3) := by decide +kernel
theorem d_X1_item_73 : decode b_X1_item 73 = .ok (.aload_n 0, 1) := by decide +kernel
theorem d_X1_item_74 : decode b_X1_item 74 = .ok (.dup, 1) := by decide +kernel
theorem d_X1_item_75 : decode b_X1_item 75 = .ok (.getfield 101, 3) := by decide +kernel
theorem d_X1_item_78 : decode b_X1_item 78 = .ok (.iconst 1, 1) := by decide +kernel
theorem d_X1_item_79 : decode b_X1_item 79 = .ok (.iadd, 1) := by decide +kernel
theorem d_X1_item_80 : decode b_X1_item 80 = .ok (.putfield 101, 3) := by decide +kernel
theorem d_X1_item_83 : decode b_X1_item 83 = .ok (.return_, 1) := by decide +kernel
theorem d_X1_suits_0 : decode b_X1_suits 0 = .ok (.aload_n 1, 1) := by decide +kernel
theorem d_X1_suits_1 : decode b_X1_suits 1 = .ok (.aload_n 0, 1) := by decide +kernel
theorem d_X1_suits_2 : decode b_X1_suits 2 = .ok (.getfield 95, 3) := by decide +kernel
theorem d_X1_suits_5 : decode b_X1_suits 5 = .ok (.invokevirtual 203, 3) := by decide +kernel
theorem d_X1_suits_8 : decode b_X1_suits 8 = .ok (.ifCond .eq 21, 3) := by decide +kernel
theorem d_X1_suits_11 : decode b_X1_suits 11 = .ok (.aload_n 0, 1) := by decide +kernel
theorem d_X1_suits_12 : decode b_X1_suits 12 = .ok (.getfield 110, 3) := by decide +kernel
theorem d_X1_suits_15 : decode b_X1_suits 15 = .ok (.ifCond .ne 10, 3) := by decide +kernel
theorem d_X1_suits_18 : decode b_X1_suits 18 = .ok (.aload_n 1, 1) := by decide +kernel
theorem d_X1_suits_19 : decode b_X1_suits 19 = .ok (.invokevirtual 209, 3) := by decide +kernel
theorem d_X1_suits_22 : decode b_X1_suits 22 = .ok (.ifCond .eq 7, 3) := by decide +kernel
theorem d_X1_suits_25 : decode b_X1_suits 25 = .ok (.iconst 1, 1) := by decide +kernel
theorem d_X1_suits_26 : decode b_X1_suits 26 = .ok (.goto 4, 3) := by decide +kernel
theorem d_X1_suits_29 : decode b_X1_suits 29 = .ok (.iconst 0, 1) := by decide +kernel
theorem d_X1_suits_30 : decode b_X1_suits 30 = .ok (.ireturn, 1) := by decide +kernel
theorem d_X6_isInitial_0 : decode b_X6_isInitial 0 = .ok (.aload_n 0, 1) := by decide +kernel
theorem d_X6_isInitial_1 : decode b_X6_isInitial 1 = .ok (.getfield 31, 3) := by decide +kernel
theorem d_X6_isInitial_4 : decode b_X6_isInitial 4 = .ok (.ifCond .eq 7, 3) := by decide +kernel
theorem d_X6_isInitial_7 : decode b_X6_isInitial 7 = .ok (.iconst 1, 1) := by decide +kernel
theorem d_X6_isInitial_8 : decode b_X6_isInitial 8 = .ok (.goto 4, 3) := by decide +kernel
theorem d_X6_isInitial_11 : decode b_X6_isInitial 11 = .ok (.iconst 0, 1) := by decide +kernel
theorem d_X6_isInitial_12 : decode b_X6_isInitial 12 = .ok (.ireturn, 1) := by decide +kernel
theorem d_X1_putInitial_0 : decode b_X1_putInitial 0 = .ok (.aload_n 0, 1) := by decide +kernel
theorem d_X1_putInitial_1 : decode b_X1_putInitial 1 = .ok (.getfield 41, 3) := by decide +kernel
theorem d_X1_putInitial_4 : decode b_X1_putInitial 4 = .ok (.aload_n 2, 1) := by decide +kernel
theorem d_X1_putInitial_5 : decode b_X1_putInitial 5 = .ok (.getfield 225, 3) := by decide +kernel
theorem d_X1_putInitial_8 : decode b_X1_putInitial 8 = .ok (.invokevirtual 228, 3) := by decide +kernel
theorem d_X1_putInitial_11 : decode b_X1_putInitial 11 = .ok (.aload_n 0, 1) := by decide +kernel
theorem d_X1_putInitial_12 : decode b_X1_putInitial 12 = .ok (.getfield 34, 3) := by decide +kernel
theorem d_X1_putInitial_15 : decode b_X1_putInitial 15 = .ok (.aload_n 0, 1) := by decide +kernel
theorem d_X1_putInitial_16 : decode b_X1_putInitial 16 = .ok (.getfield 194, 3) := by decide +kernel
theorem d_X1_putInitial_19 : decode b_X1_putInitial 19 = .ok (.iload_n 1, 1) := by decide +kernel
theorem d_X1_putInitial_20 : decode b_X1_putInitial 20 = .ok (.iadd, 1) := by decide +kernel
theorem d_X1_putInitial_21 : decode b_X1_putInitial 21 = .ok (.aload_n 2, 1) := by decide +kernel
theorem d_X1_putInitial_22 : decode b_X1_putInitial 22 = .ok (.invokevirtual 231, 3) := by decide +kernel
theorem d_X1_putInitial_25 : decode b_X1_putInitial 25 = .ok (.ifCond .eq 8, 3) := by decide +kernel
theorem d_X1_putInitial_28 : decode b_X1_putInitial 28 = .ok (.bipush (-2), 2) := by decide +kernel
theorem d_X1_putInitial_30 : decode b_X1_putInitial 30 = .ok (.goto 7, 3) := by decide +kernel
theorem d_X1_putInitial_33 : decode b_X1_putInitial 33 = .ok (.aload_n 2, 1) := by decide +kernel
theorem d_X1_putInitial_34 : decode b_X1_putInitial 34 = .ok (.getfield 234, 3) := by decide +kernel
theorem d_X1_putInitial_37 : decode b_X1_putInitial 37 = .ok (.aload_n 2, 1) := by decide +kernel
theorem d_X1_putInitial_38 : decode b_X1_putInitial 38 = .ok (.getfield 237, 3) := by decide +kernel
theorem d_X1_putInitial_41 : decode b_X1_putInitial 41 = .ok (.invokevirtual 240, 3) := by decide +kernel
theorem d_X1_putInitial_44 : decode b_X1_putInitial 44 = .ok (.return_, 1) := by decide +kernel
theorem d_X1_fill_0 : decode b_X1_fill 0 = .ok (.aload_n 0, 1) := by decide +kernel
theorem d_X1_fill_1 : decode b_X1_fill 1 = .ok (.getfield 25, 3) := by decide +kernel
theorem d_X1_fill_4 : decode b_X1_fill 4 = .ok (.iload_n 1, 1) := by decide +kernel
theorem d_X1_fill_5 : decode b_X1_fill 5 = .ok (.invokevirtual 243, 3) := by decide +kernel
theorem d_X1_fill_8 : decode b_X1_fill 8 = .ok (.istore_n 2, 1) := by decide +kernel
theorem d_X1_fill_9 : decode b_X1_fill 9 = .ok (.aload_n 0, 1) := by decide +kernel
theorem d_X1_fill_10 : decode b_X1_fill 10 = .ok (.iload_n 2, 1) := by decide +kernel
theorem d_X1_fill_11 : decode b_X1_fill 11 = .ok (.aload_n 0, 1) := by decide +kernel
theorem d_X1_fill_12 : decode b_X1_fill 12 = .ok (.getfield 98, 3) := by decide +kernel
theorem d_X1_fill_15 : decode b_X1_fill 15 = .ok (.if_icmp .le 7, 3) := by decide +kernel
theorem d_X1_fill_18 : decode b_X1_fill 18 = .ok (.iconst 1, 1) := by decide +kernel
theorem d_X1_fill_19 : decode b_X1_fill 19 = .ok (.goto 4, 3) := by decide +kernel
theorem d_X1_fill_22 : decode b_X1_fill 22 = .ok (.iconst 0, 1) := by decide +kernel
theorem d_X1_fill_23 : decode b_X1_fill 23 = .ok (.putfield 104, 3) := by decide +kernel
theorem d_X1_fill_26 : decode b_X1_fill 26 = .ok (.iconst 0, 1) := by decide +kernel
theorem d_X1_fill_27 : decode b_X1_fill 27 = .ok (.istore_n 3, 1) := by decide +kernel
theorem d_X1_fill_28 : decode b_X1_fill 28 = .ok (.iload_n 3, 1) := by decide +kernel
theorem d_X1_fill_29 : decode b_X1_fill 29 = .ok (.iload_n 2, 1) := by decide +kernel
theorem d_X1_fill_30 : decode b_X1_fill 30 = .ok (.if_icmp .ge 78, 3) := by decide +kernel
theorem d_X1_fill_33 : decode b_X1_fill 33 = .ok (.aload_n 0, 1) := by decide +kernel
theorem d_X1_fill_34 : decode b_X1_fill 34 = .ok (.getfield 104, 3) := by decide +kernel
theorem d_X1_fill_37 : decode b_X1_fill 37 = .ok (.ifCond .ne 71, 3) := by decide +kernel
theorem d_X1_fill_40 : decode b_X1_fill 40 = .ok (.aload_n 0, 1) := by decide +kernel
theorem d_X1_fill_41 : decode b_X1_fill 41 = .ok (.getfield 110, 3) := by decide +kernel
theorem d_X1_fill_44 : decode b_X1_fill 44 = .ok (.ifCond .eq 32, 3) := by decide +kernel
theorem d_X1_fill_47 : decode b_X1_fill 47 = .ok (.aload_n 0, 1) := by decide +kernel
theorem d_X1_fill_48 : decode b_X1_fill 48 = .ok (.getfield 41, 3) := by decide +kernel
theorem d_X1_fill_51 : decode b_X1_fill 51 = .ok (.bipush 17, 2) := by decide +kernel
theorem d_X1_fill_53 : decode b_X1_fill 53 = .ok (.aload_n 0, 1) := by decide +kernel
theorem d_X1_fill_54 : decode b_X1_fill 54 = .ok (.getfield 145, 3) := by decide +kernel
theorem d_X1_fill_57 : decode b_X1_fill 57 = .ok (.iload_n 3, 1) := by decide +kernel
theorem d_X1_fill_58 : decode b_X1_fill 58 = .ok (.aload_n 0, 1) := by decide +kernel
theorem d_X1_fill_59 : decode b_X1_fill 59 = .ok (.getfield 25, 3) := by decide +kernel
theorem d_X1_fill_62 : decode b_X1_fill 62 = .ok (.getfield 248, 3) := by decide +kernel
theorem d_X1_fill_65 : decode b_X1_fill 65 = .ok (.iload_n 3, 1) := by decide +kernel
theorem d_X1_fill_66 : decode b_X1_fill 66 = .ok (.invokestatic 58, 3) := by decide +kernel
theorem d_X1_fill_69 : decode b_X1_fill 69 = .ok (.invokevirtual 152, 3) := by decide +kernel
theorem d_X1_fill_72 : decode b_X1_fill 72 = .ok (.pop, 1) := by decide +kernel
theorem d_X1_fill_73 : decode b_X1_fill 73 = .ok (.goto 29, 3) := by decide +kernel
theorem d_X1_fill_76 : decode b_X1_fill 76 = .ok (.aload_n 0, 1) := by decide +kernel
theorem d_X1_fill_77 : decode b_X1_fill 77 = .ok (.getfield 34, 3) := by decide +kernel
theorem d_X1_fill_80 : decode b_X1_fill 80 = .ok (.aload_n 0, 1) := by decide +kernel
theorem d_X1_fill_81 : decode b_X1_fill 81 = .ok (.getfield 194, 3) := by decide +kernel
theorem d_X1_fill_84 : decode b_X1_fill 84 = .ok (.iload_n 3, 1) := by decide +kernel
theorem d_X1_fill_85 : decode b_X1_fill 85 = .ok (.iadd, 1) := by decide +kernel
theorem d_X1_fill_86 : decode b_X1_fill 86 = .ok (.bipush (-2), 2) := by decide +kernel
theorem d_X1_fill_88 : decode b_X1_fill 88 = .ok (.aload_n 0, 1) := by decide +kernel
theorem d_X1_fill_89 : decode b_X1_fill 89 = .ok (.getfield 25, 3) := by decide +kernel
theorem d_X1_fill_92 : decode b_X1_fill 92 = .ok (.getfield 248, 3) := by decide +kernel
theorem d_X1_fill_95 : decode b_X1_fill 95 = .ok (.iload_n 3, 1) := by decide +kernel
theorem d_X1_fill_96 : decode b_X1_fill 96 = .ok (.invokestatic 58, 3) := by decide +kernel
theorem d_X1_fill_99 : decode b_X1_fill 99 = .ok (.invokevirtual 240, 3) := by decide +kernel
theorem d_X1_fill_102 : decode b_X1_fill 102 = .ok (.iinc 3 1, 3) := by decide +kernel
theorem d_X1_fill_105 : decode b_X1_fill 105 = .ok (.goto (-77), 3) := by decide +kernel
theorem d_X1_fill_108 : decode b_X1_fill 108 = .ok (.return_, 1) := by decide +kernel
theorem d_X1_initial_0 : decode b_X1_initial 0 = .ok (.iload_n 2, 1) := by decide +kernel
theorem d_X1_initial_1 : decode b_X1_initial 1 = .ok (.iconst 1, 1) := by decide +kernel
theorem d_X1_initial_2 : decode b_X1_initial 2 = .ok (.if_icmp .ne 30, 3) := by decide +kernel
theorem d_X1_initial_5 : decode b_X1_initial 5 = .ok (.aload_n 0, 1) := by decide +kernel
theorem d_X1_initial_6 : decode b_X1_initial 6 = .ok (.aload_n 0, 1) := by decide +kernel
theorem d_X1_initial_7 : decode b_X1_initial 7 = .ok (.getfield 104, 3) := by decide +kernel
theorem d_X1_initial_10 : decode b_X1_initial 10 = .ok (.ifCond .ne 11, 3) := by decide +kernel
theorem d_X1_initial_13 : decode b_X1_initial 13 = .ok (.aload_n 0, 1) := by decide +kernel
theorem d_X1_initial_14 : decode b_X1_initial 14 = .ok (.getfield 98, 3) := by decide +kernel
theorem d_X1_initial_17 : decode b_X1_initial 17 = .ok (.iconst (-1), 1) := by decide +kernel
theorem d_X1_initial_18 : decode b_X1_initial 18 = .ok (.if_icmp .ne 7, 3) := by decide +kernel
theorem d_X1_initial_21 : decode b_X1_initial 21 = .ok (.iconst 1, 1) := by decide +kernel
theorem d_X1_initial_22 : decode b_X1_initial 22 = .ok (.goto 4, 3) := by decide +kernel
theorem d_X1_initial_25 : decode b_X1_initial 25 = .ok (.iconst 0, 1) := by decide +kernel
theorem d_X1_initial_26 : decode b_X1_initial 26 = .ok (.putfield 104, 3) := by decide +kernel
theorem d_X1_initial_29 : decode b_X1_initial 29 = .ok (.goto 60, 3) := by decide +kernel
theorem d_X1_initial_32 : decode b_X1_initial 32 = .ok (.iload_n 2, 1) := by decide +kernel
theorem d_X1_initial_33 : decode b_X1_initial 33 = .ok (.ifCond .ne 56, 3) := by decide +kernel
theorem d_X1_initial_36 : decode b_X1_initial 36 = .ok (.aload_n 0, 1) := by decide +kernel
theorem d_X1_initial_37 : decode b_X1_initial 37 = .ok (.getfield 42, 3) := by decide +kernel
theorem d_X1_initial_40 : decode b_X1_initial 40 = .ok (.invokevirtual 213, 3) := by decide +kernel
theorem d_X1_initial_43 : decode b_X1_initial 43 = .ok (.astore_n 3, 1) := by decide +kernel
theorem d_X1_initial_44 : decode b_X1_initial 44 = .ok (.aload_n 0, 1) := by decide +kernel
theorem d_X1_initial_45 : decode b_X1_initial 45 = .ok (.aload_n 0, 1) := by decide +kernel
theorem d_X1_initial_46 : decode b_X1_initial 46 = .ok (.getfield 98, 3) := by decide +kernel
theorem d_X1_initial_49 : decode b_X1_initial 49 = .ok (.iconst (-1), 1) := by decide +kernel
theorem d_X1_initial_50 : decode b_X1_initial 50 = .ok (.if_icmp .ne 11, 3) := by decide +kernel
theorem d_X1_initial_53 : decode b_X1_initial 53 = .ok (.aload_n 0, 1) := by decide +kernel
theorem d_X1_initial_54 : decode b_X1_initial 54 = .ok (.aload_n 3, 1) := by decide +kernel
theorem d_X1_initial_55 : decode b_X1_initial 55 = .ok (.invokevirtual 217, 3) := by decide +kernel
theorem d_X1_initial_58 : decode b_X1_initial 58 = .ok (.ifCond .ne 7, 3) := by decide +kernel
theorem d_X1_initial_61 : decode b_X1_initial 61 = .ok (.iconst 1, 1) := by decide +kernel
theorem d_X1_initial_62 : decode b_X1_initial 62 = .ok (.goto 4, 3) := by decide +kernel
theorem d_X1_initial_65 : decode b_X1_initial 65 = .ok (.iconst 0, 1) := by decide +kernel
theorem d_X1_initial_66 : decode b_X1_initial 66 = .ok (.putfield 104, 3) := by decide +kernel
theorem d_X1_initial_69 : decode b_X1_initial 69 = .ok (.aload_n 0, 1) := by decide +kernel
theorem d_X1_initial_70 : decode b_X1_initial 70 = .ok (.getfield 110, 3) := by decide +kernel
theorem d_X1_initial_73 : decode b_X1_initial 73 = .ok (.ifCond .eq 10, 3) := by decide +kernel
theorem d_X1_initial_76 : decode b_X1_initial 76 = .ok (.aload_n 0, 1) := by decide +kernel
theorem d_X1_initial_77 : decode b_X1_initial 77 = .ok (.invokevirtual 156, 3) := by decide +kernel
theorem d_X1_initial_80 : decode b_X1_initial 80 = .ok (.goto 9, 3) := by decide +kernel
theorem d_X1_initial_83 : decode b_X1_initial 83 = .ok (.aload_n 0, 1) := by decide +kernel
theorem d_X1_initial_84 : decode b_X1_initial 84 = .ok (.iconst 0, 1) := by decide +kernel
theorem d_X1_initial_85 : decode b_X1_initial 85 = .ok (.aload_n 3, 1) := by decide +kernel
theorem d_X1_initial_86 : decode b_X1_initial 86 = .ok (.invokevirtual 221, 3) := by decide +kernel
theorem d_X1_initial_89 : decode b_X1_initial 89 = .ok (.aload_n 0, 1) := by decide +kernel
theorem d_X1_initial_90 : decode b_X1_initial 90 = .ok (.getfield 104, 3) := by decide +kernel
theorem d_X1_initial_93 : decode b_X1_initial 93 = .ok (.ifCond .ne 10, 3) := by decide +kernel
theorem d_X1_initial_96 : decode b_X1_initial 96 = .ok (.aload_n 0, 1) := by decide +kernel
theorem d_X1_initial_97 : decode b_X1_initial 97 = .ok (.getfield 113, 3) := by decide +kernel
theorem d_X1_initial_100 : decode b_X1_initial 100 = .ok (.ifCond .eq 12, 3) := by decide +kernel
theorem d_X1_initial_103 : decode b_X1_initial 103 = .ok (.aload_n 0, 1) := by decide +kernel
theorem d_X1_initial_104 : decode b_X1_initial 104 = .ok (.getfield 26, 3) := by decide +kernel
theorem d_X1_initial_107 : decode b_X1_initial 107 = .ok (.iconst 2, 1) := by decide +kernel
theorem d_X1_initial_108 : decode b_X1_initial 108 = .ok (.iload_n 1, 1) := by decide +kernel
theorem d_X1_initial_109 : decode b_X1_initial 109 = .ok (.invokevirtual 124, 3) := by decide +kernel
theorem d_X1_initial_112 : decode b_X1_initial 112 = .ok (.return_, 1) := by decide +kernel
theorem d_X1_function_0 : decode b_X1_function 0 = .ok (.iload_n 3, 1) := by decide +kernel
theorem d_X1_function_1 : decode b_X1_function 1 = .ok (.bipush 8, 2) := by decide +kernel
theorem d_X1_function_3 : decode b_X1_function 3 = .ok (.idiv, 1) := by decide +kernel
theorem d_X1_function_4 : decode b_X1_function 4 = .ok (.iconst 1, 1) := by decide +kernel
theorem d_X1_function_5 : decode b_X1_function 5 = .ok (.isub, 1) := by decide +kernel
theorem d_X1_function_6 : decode b_X1_function 6 = .ok (.istore 4, 2) := by decide +kernel
theorem d_X1_function_8 : decode b_X1_function 8 = .ok (.iload_n 3, 1) := by decide +kernel
theorem d_X1_function_9 : decode b_X1_function 9 = .ok (.iconst 3, 1) := by decide +kernel
theorem d_X1_function_10 : decode b_X1_function 10 = .ok (.iand, 1) := by decide +kernel
theorem d_X1_function_11 : decode b_X1_function 11 = .ok (.iconst 1, 1) := by decide +kernel
theorem d_X1_function_12 : decode b_X1_function 12 = .ok (.if_icmp .ne 7, 3) := by decide +kernel
theorem d_X1_function_15 : decode b_X1_function 15 = .ok (.iconst 1, 1) := by decide +kernel
theorem d_X1_function_16 : decode b_X1_function 16 = .ok (.goto 4, 3) := by decide +kernel
theorem d_X1_function_19 : decode b_X1_function 19 = .ok (.iconst 0, 1) := by decide +kernel
theorem d_X1_function_20 : decode b_X1_function 20 = .ok (.istore 5, 2) := by decide +kernel
theorem d_X1_function_22 : decode b_X1_function 22 = .ok (.iload_n 3, 1) := by decide +kernel
theorem d_X1_function_23 : decode b_X1_function 23 = .ok (.iconst 4, 1) := by decide +kernel
theorem d_X1_function_24 : decode b_X1_function 24 = .ok (.iand, 1) := by decide +kernel
theorem d_X1_function_25 : decode b_X1_function 25 = .ok (.ifCond .eq 7, 3) := by decide +kernel
theorem d_X1_function_28 : decode b_X1_function 28 = .ok (.iconst 1, 1) := by decide +kernel
theorem d_X1_function_29 : decode b_X1_function 29 = .ok (.goto 4, 3) := by decide +kernel
theorem d_X1_function_32 : decode b_X1_function 32 = .ok (.iconst 0, 1) := by decide +kernel
theorem d_X1_function_33 : decode b_X1_function 33 = .ok (.istore 6, 2) := by decide +kernel
theorem d_X1_function_35 : decode b_X1_function 35 = .ok (.aload_n 0, 1) := by decide +kernel
theorem d_X1_function_36 : decode b_X1_function 36 = .ok (.getfield 26, 3) := by decide +kernel
theorem d_X1_function_39 : decode b_X1_function 39 = .ok (.iload_n 1, 1) := by decide +kernel
theorem d_X1_function_40 : decode b_X1_function 40 = .ok (.invokevirtual 159, 3) := by decide +kernel
theorem d_X1_function_43 : decode b_X1_function 43 = .ok (.istore 7, 2) := by decide +kernel
theorem d_X1_function_45 : decode b_X1_function 45 = .ok (.iload 7, 2) := by decide +kernel
theorem d_X1_function_47 : decode b_X1_function 47 = .ok (.ifCond .lt 82, 3) := by decide +kernel
theorem d_X1_function_50 : decode b_X1_function 50 = .ok (.aload_n 0, 1) := by decide +kernel
theorem d_X1_function_51 : decode b_X1_function 51 = .ok (.getfield 34, 3) := by decide +kernel
theorem d_X1_function_54 : decode b_X1_function 54 = .ok (.iload 7, 2) := by decide +kernel
theorem d_X1_function_56 : decode b_X1_function 56 = .ok (.iconst 1, 1) := by decide +kernel
theorem d_X1_function_57 : decode b_X1_function 57 = .ok (.invokevirtual 200, 3) := by decide +kernel
theorem d_X1_function_60 : decode b_X1_function 60 = .ok (.ifCond .eq 73, 3) := by decide +kernel
theorem d_X1_function_63 : decode b_X1_function 63 = .ok (.aload_n 0, 1) := by decide +kernel
theorem d_X1_function_64 : decode b_X1_function 64 = .ok (.getfield 34, 3) := by decide +kernel
theorem d_X1_function_67 : decode b_X1_function 67 = .ok (.getfield 176, 3) := by decide +kernel
theorem d_X1_function_70 : decode b_X1_function 70 = .ok (.iload 7, 2) := by decide +kernel
theorem d_X1_function_72 : decode b_X1_function 72 = .ok (.invokestatic 58, 3) := by decide +kernel
theorem d_X1_function_75 : decode b_X1_function 75 = .ok (.iload 4, 2) := by decide +kernel
theorem d_X1_function_77 : decode b_X1_function 77 = .ok (.if_icmp .ne 56, 3) := by decide +kernel
theorem d_X1_function_80 : decode b_X1_function 80 = .ok (.aload_n 0, 1) := by decide +kernel
theorem d_X1_function_81 : decode b_X1_function 81 = .ok (.getfield 34, 3) := by decide +kernel
theorem d_X1_function_84 : decode b_X1_function 84 = .ok (.getfield 185, 3) := by decide +kernel
theorem d_X1_function_87 : decode b_X1_function 87 = .ok (.iload 7, 2) := by decide +kernel
theorem d_X1_function_89 : decode b_X1_function 89 = .ok (.invokestatic 58, 3) := by decide +kernel
theorem d_X1_function_92 : decode b_X1_function 92 = .ok (.iload_n 2, 1) := by decide +kernel
theorem d_X1_function_93 : decode b_X1_function 93 = .ok (.if_icmp .ne 40, 3) := by decide +kernel
theorem d_X1_function_96 : decode b_X1_function 96 = .ok (.aload_n 0, 1) := by decide +kernel
theorem d_X1_function_97 : decode b_X1_function 97 = .ok (.getfield 34, 3) := by decide +kernel
theorem d_X1_function_100 : decode b_X1_function 100 = .ok (.iload 7, 2) := by decide +kernel
theorem d_X1_function_102 : decode b_X1_function 102 = .ok (.iconst 2, 1) := by decide +kernel
theorem d_X1_function_103 : decode b_X1_function 103 = .ok (.invokevirtual 200, 3) := by decide +kernel
theorem d_X1_function_106 : decode b_X1_function 106 = .ok (.iload 5, 2) := by decide +kernel
theorem d_X1_function_108 : decode b_X1_function 108 = .ok (.if_icmp .ne 25, 3) := by decide +kernel
theorem d_X1_function_111 : decode b_X1_function 111 = .ok (.iload 6, 2) := by decide +kernel
theorem d_X1_function_113 : decode b_X1_function 113 = .ok (.ifCond .eq 16, 3) := by decide +kernel
theorem d_X1_function_116 : decode b_X1_function 116 = .ok (.aload_n 0, 1) := by decide +kernel
theorem d_X1_function_117 : decode b_X1_function 117 = .ok (.getfield 34, 3) := by decide +kernel
theorem d_X1_function_120 : decode b_X1_function 120 = .ok (.iload 7, 2) := by decide +kernel
theorem d_X1_function_122 : decode b_X1_function 122 = .ok (.iconst 4, 1) := by decide +kernel
theorem d_X1_function_123 : decode b_X1_function 123 = .ok (.invokevirtual 200, 3) := by decide +kernel
theorem d_X1_function_126 : decode b_X1_function 126 = .ok (.ifCond .ne 7, 3) := by decide +kernel
theorem d_X1_function_129 : decode b_X1_function 129 = .ok (.iconst 1, 1) := by decide +kernel
theorem d_X1_function_130 : decode b_X1_function 130 = .ok (.goto 4, 3) := by decide +kernel
theorem d_X1_function_133 : decode b_X1_function 133 = .ok (.iconst 0, 1) := by decide +kernel
theorem d_X1_function_134 : decode b_X1_function 134 = .ok (.istore 8, 2) := by decide +kernel
theorem d_X1_function_136 : decode b_X1_function 136 = .ok (.aload_n 0, 1) := by decide +kernel
theorem d_X1_function_137 : decode b_X1_function 137 = .ok (.iload_n 1, 1) := by decide +kernel
theorem d_X1_function_138 : decode b_X1_function 138 = .ok (.iload 7, 2) := by decide +kernel
theorem d_X1_function_140 : decode b_X1_function 140 = .ok (.iload 8, 2) := by decide +kernel
theorem d_X1_function_142 : decode b_X1_function 142 = .ok (.invokevirtual 167, 3) := by decide +kernel
theorem d_X1_function_145 : decode b_X1_function 145 = .ok (.aload_n 0, 1) := by decide +kernel
theorem d_X1_function_146 : decode b_X1_function 146 = .ok (.getfield 26, 3) := by decide +kernel
theorem d_X1_function_149 : decode b_X1_function 149 = .ok (.getfield 142, 3) := by decide +kernel
theorem d_X1_function_152 : decode b_X1_function 152 = .ok (.ifCond .eq 4, 3) := by decide +kernel
theorem d_X1_function_155 : decode b_X1_function 155 = .ok (.return_, 1) := by decide +kernel
theorem d_X1_function_156 : decode b_X1_function 156 = .ok (.iload 7, 2) := by decide +kernel
theorem d_X1_function_158 : decode b_X1_function 158 = .ok (.ifCond .ge 14, 3) := by decide +kernel
theorem d_X1_function_161 : decode b_X1_function 161 = .ok (.aload_n 0, 1) := by decide +kernel
theorem d_X1_function_162 : decode b_X1_function 162 = .ok (.getfield 26, 3) := by decide +kernel
theorem d_X1_function_165 : decode b_X1_function 165 = .ok (.iload_n 1, 1) := by decide +kernel
theorem d_X1_function_166 : decode b_X1_function 166 = .ok (.invokevirtual 173, 3) := by decide +kernel
theorem d_X1_function_169 : decode b_X1_function 169 = .ok (.goto 5, 3) := by decide +kernel
theorem d_X1_function_172 : decode b_X1_function 172 = .ok (.iload 7, 2) := by decide +kernel
theorem d_X1_function_174 : decode b_X1_function 174 = .ok (.istore 9, 2) := by decide +kernel
theorem d_X1_function_176 : decode b_X1_function 176 = .ok (.aload_n 0, 1) := by decide +kernel
theorem d_X1_function_177 : decode b_X1_function 177 = .ok (.getfield 34, 3) := by decide +kernel
theorem d_X1_function_180 : decode b_X1_function 180 = .ok (.iload 9, 2) := by decide +kernel
theorem d_X1_function_182 : decode b_X1_function 182 = .ok (.iload 5, 2) := by decide +kernel
theorem d_X1_function_184 : decode b_X1_function 184 = .ok (.ifCond .eq 7, 3) := by decide +kernel
theorem d_X1_function_187 : decode b_X1_function 187 = .ok (.iconst 3, 1) := by decide +kernel
theorem d_X1_function_188 : decode b_X1_function 188 = .ok (.goto 4, 3) := by decide +kernel
theorem d_X1_function_191 : decode b_X1_function 191 = .ok (.iconst 1, 1) := by decide +kernel
theorem d_X1_function_192 : decode b_X1_function 192 = .ok (.invokevirtual 188, 3) := by decide +kernel
theorem d_X1_function_195 : decode b_X1_function 195 = .ok (.aload_n 0, 1) := by decide +kernel
theorem d_X1_function_196 : decode b_X1_function 196 = .ok (.getfield 34, 3) := by decide +kernel
theorem d_X1_function_199 : decode b_X1_function 199 = .ok (.getfield 176, 3) := by decide +kernel
theorem d_X1_function_202 : decode b_X1_function 202 = .ok (.iload 9, 2) := by decide +kernel
theorem d_X1_function_204 : decode b_X1_function 204 = .ok (.iload 4, 2) := by decide +kernel
theorem d_X1_function_206 : decode b_X1_function 206 = .ok (.invokestatic 181, 3) := by decide +kernel
theorem d_X1_function_209 : decode b_X1_function 209 = .ok (.aload_n 0, 1) := by decide +kernel
theorem d_X1_function_210 : decode b_X1_function 210 = .ok (.getfield 34, 3) := by decide +kernel
theorem d_X1_function_213 : decode b_X1_function 213 = .ok (.getfield 185, 3) := by decide +kernel
theorem d_X1_function_216 : decode b_X1_function 216 = .ok (.iload 9, 2) := by decide +kernel
theorem d_X1_function_218 : decode b_X1_function 218 = .ok (.iload_n 2, 1) := by decide +kernel
theorem d_X1_function_219 : decode b_X1_function 219 = .ok (.invokestatic 181, 3) := by decide +kernel
theorem d_X1_function_222 : decode b_X1_function 222 = .ok (.iload 6, 2) := by decide +kernel
theorem d_X1_function_224 : decode b_X1_function 224 = .ok (.ifCond .eq 41, 3) := by decide +kernel
theorem d_X1_function_227 : decode b_X1_function 227 = .ok (.aload_n 0, 1) := by decide +kernel
theorem d_X1_function_228 : decode b_X1_function 228 = .ok (.getfield 34, 3) := by decide +kernel
theorem d_X1_function_231 : decode b_X1_function 231 = .ok (.iload 9, 2) := by decide +kernel
theorem d_X1_function_233 : decode b_X1_function 233 = .ok (.iconst 4, 1) := by decide +kernel
theorem d_X1_function_234 : decode b_X1_function 234 = .ok (.invokevirtual 188, 3) := by decide +kernel
theorem d_X1_function_237 : decode b_X1_function 237 = .ok (.aload_n 0, 1) := by decide +kernel
theorem d_X1_function_238 : decode b_X1_function 238 = .ok (.getfield 34, 3) := by decide +kernel
theorem d_X1_function_241 : decode b_X1_function 241 = .ok (.getfield 191, 3) := by decide +kernel
theorem d_X1_function_244 : decode b_X1_function 244 = .ok (.iload 9, 2) := by decide +kernel
theorem d_X1_function_246 : decode b_X1_function 246 = .ok (.aload_n 0, 1) := by decide +kernel
theorem d_X1_function_247 : decode b_X1_function 247 = .ok (.getfield 41, 3) := by decide +kernel
theorem d_X1_function_250 : decode b_X1_function 250 = .ok (.invokevirtual 251, 3) := by decide +kernel
theorem d_X1_function_253 : decode b_X1_function 253 = .ok (.invokestatic 181, 3) := by decide +kernel
theorem d_X1_function_256 : decode b_X1_function 256 = .ok (.aload_n 0, 1) := by decide +kernel
theorem d_X1_function_257 : decode b_X1_function 257 = .ok (.getfield 26, 3) := by decide +kernel
theorem d_X1_function_260 : decode b_X1_function 260 = .ok (.iload 9, 2) := by decide +kernel
theorem d_X1_function_262 : decode b_X1_function 262 = .ok (.invokevirtual 254, 3) := by decide +kernel
theorem d_X1_function_265 : decode b_X1_function 265 = .ok (.return_, 1) := by decide +kernel
theorem d_X0_header_0 : decode b_X0_header 0 = .ok (.aload_n 0, 1) := by decide +kernel
theorem d_X0_header_1 : decode b_X0_header 1 = .ok (.getfield 18, 3) := by decide +kernel
theorem d_X0_header_4 : decode b_X0_header 4 = .ok (.istore_n 1, 1) := by decide +kernel
theorem d_X0_header_5 : decode b_X0_header 5 = .ok (.aload_n 0, 1) := by decide +kernel
theorem d_X0_header_6 : decode b_X0_header 6 = .ok (.dup, 1) := by decide +kernel
theorem d_X0_header_7 : decode b_X0_header 7 = .ok (.getfield 18, 3) := by decide +kernel
theorem d_X0_header_10 : decode b_X0_header 10 = .ok (.iload_n 1, 1) := by decide +kernel
theorem d_X0_header_11 : decode b_X0_header 11 = .ok (.aload_n 0, 1) := by decide +kernel
theorem d_X0_header_12 : decode b_X0_header 12 = .ok (.getfield 14, 3) := by decide +kernel
theorem d_X0_header_15 : decode b_X0_header 15 = .ok (.arraylength, 1) := by decide +kernel
theorem d_X0_header_16 : decode b_X0_header 16 = .ok (.iconst 4, 1) := by decide +kernel
theorem d_X0_header_17 : decode b_X0_header 17 = .ok (.isub, 1) := by decide +kernel
theorem d_X0_header_18 : decode b_X0_header 18 = .ok (.if_icmp .ge 7, 3) := by decide +kernel
theorem d_X0_header_21 : decode b_X0_header 21 = .ok (.iconst 4, 1) := by decide +kernel
theorem d_X0_header_22 : decode b_X0_header 22 = .ok (.goto 4, 3) := by decide +kernel
theorem d_X0_header_25 : decode b_X0_header 25 = .ok (.iconst 0, 1) := by decide +kernel
theorem d_X0_header_26 : decode b_X0_header 26 = .ok (.iadd, 1) := by decide +kernel
theorem d_X0_header_27 : decode b_X0_header 27 = .ok (.putfield 18, 3) := by decide +kernel
theorem d_X0_header_30 : decode b_X0_header 30 = .ok (.iload_n 1, 1) := by decide +kernel
theorem d_X0_header_31 : decode b_X0_header 31 = .ok (.ireturn, 1) := by decide +kernel
theorem d_X11_enter_0 : decode b_X11_enter 0 = .ok (.aload_n 0, 1) := by decide +kernel
theorem d_X11_enter_1 : decode b_X11_enter 1 = .ok (.invokevirtual 60, 3) := by decide +kernel
theorem d_X11_enter_4 : decode b_X11_enter 4 = .ok (.aload_n 0, 1) := by decide +kernel
theorem d_X11_enter_5 : decode b_X11_enter 5 = .ok (.iload_n 1, 1) := by decide +kernel
theorem d_X11_enter_6 : decode b_X11_enter 6 = .ok (.putfield 63, 3) := by decide +kernel
theorem d_X11_enter_9 : decode b_X11_enter 9 = .ok (.aload_n 0, 1) := by decide +kernel
theorem d_X11_enter_10 : decode b_X11_enter 10 = .ok (.invokevirtual 66, 3) := by decide +kernel
theorem d_X11_enter_13 : decode b_X11_enter 13 = .ok (.return_, 1) := by decide +kernel
theorem d_X1_parameter_0 : decode b_X1_parameter 0 = .ok (.aload_n 0, 1) := by decide +kernel
theorem d_X1_parameter_1 : decode b_X1_parameter 1 = .ok (.getfield 25, 3) := by decide +kernel
theorem d_X1_parameter_4 : decode b_X1_parameter 4 = .ok (.getfield 257, 3) := by decide +kernel
theorem d_X1_parameter_7 : decode b_X1_parameter 7 = .ok (.iload_n 1, 1) := by decide +kernel
theorem d_X1_parameter_8 : decode b_X1_parameter 8 = .ok (.invokestatic 58, 3) := by decide +kernel
theorem d_X1_parameter_11 : decode b_X1_parameter 11 = .ok (.iconst 2, 1) := by decide +kernel
theorem d_X1_parameter_12 : decode b_X1_parameter 12 = .ok (.if_icmp .ne 15, 3) := by decide +kernel
theorem d_X1_parameter_15 : decode b_X1_parameter 15 = .ok (.aload_n 0, 1) := by decide +kernel
theorem d_X1_parameter_16 : decode b_X1_parameter 16 = .ok (.getfield 26, 3) := by decide +kernel
theorem d_X1_parameter_19 : decode b_X1_parameter 19 = .ok (.iconst 0, 1) := by decide +kernel
theorem d_X1_parameter_20 : decode b_X1_parameter 20 = .ok (.iload_n 1, 1) := by decide +kernel
theorem d_X1_parameter_21 : decode b_X1_parameter 21 = .ok (.invokevirtual 131, 3) := by decide +kernel
theorem d_X1_parameter_24 : decode b_X1_parameter 24 = .ok (.ifCond .lt 15, 3) := by decide +kernel
theorem d_X1_parameter_27 : decode b_X1_parameter 27 = .ok (.aload_n 0, 1) := by decide +kernel
theorem d_X1_parameter_28 : decode b_X1_parameter 28 = .ok (.getfield 26, 3) := by decide +kernel
theorem d_X1_parameter_31 : decode b_X1_parameter 31 = .ok (.iconst 2, 1) := by decide +kernel
theorem d_X1_parameter_32 : decode b_X1_parameter 32 = .ok (.iload_n 1, 1) := by decide +kernel
theorem d_X1_parameter_33 : decode b_X1_parameter 33 = .ok (.invokevirtual 124, 3) := by decide +kernel
theorem d_X1_parameter_36 : decode b_X1_parameter 36 = .ok (.goto 13, 3) := by decide +kernel
theorem d_X1_parameter_39 : decode b_X1_parameter 39 = .ok (.aload_n 0, 1) := by decide +kernel
theorem d_X1_parameter_40 : decode b_X1_parameter 40 = .ok (.getfield 26, 3) := by decide +kernel
theorem d_X1_parameter_43 : decode b_X1_parameter 43 = .ok (.iload_n 1, 1) := by decide +kernel
theorem d_X1_parameter_44 : decode b_X1_parameter 44 = .ok (.iload_n 2, 1) := by decide +kernel
theorem d_X1_parameter_45 : decode b_X1_parameter 45 = .ok (.iconst (-1), 1) := by decide +kernel
theorem d_X1_parameter_46 : decode b_X1_parameter 46 = .ok (.invokevirtual 147, 3) := by decide +kernel
theorem d_X1_parameter_49 : decode b_X1_parameter 49 = .ok (.return_, 1) := by decide +kernel
theorem d_X1_functionEnd_0 : decode b_X1_functionEnd 0 = .ok (.aload_n 0, 1) := by decide +kernel
theorem d_X1_functionEnd_1 : decode b_X1_functionEnd 1 = .ok (.getfield 41, 3) := by decide +kernel
theorem d_X1_functionEnd_4 : decode b_X1_functionEnd 4 = .ok (.iconst 1, 1) := by decide +kernel
theorem d_X1_functionEnd_5 : decode b_X1_functionEnd 5 = .ok (.iconst 0, 1) := by decide +kernel
theorem d_X1_functionEnd_6 : decode b_X1_functionEnd 6 = .ok (.iconst 0, 1) := by decide +kernel
theorem d_X1_functionEnd_7 : decode b_X1_functionEnd 7 = .ok (.iconst 0, 1) := by decide +kernel
theorem d_X1_functionEnd_8 : decode b_X1_functionEnd 8 = .ok (.invokevirtual 152, 3) := by decide +kernel
theorem d_X1_functionEnd_11 : decode b_X1_functionEnd 11 = .ok (.pop, 1) := by decide +kernel
theorem d_X1_functionEnd_12 : decode b_X1_functionEnd 12 = .ok (.aload_n 0, 1) := by decide +kernel
theorem d_X1_functionEnd_13 : decode b_X1_functionEnd 13 = .ok (.getfield 41, 3) := by decide +kernel
theorem d_X1_functionEnd_16 : decode b_X1_functionEnd 16 = .ok (.bipush 33, 2) := by decide +kernel
theorem d_X1_functionEnd_18 : decode b_X1_functionEnd 18 = .ok (.iconst 0, 1) := by decide +kernel
theorem d_X1_functionEnd_19 : decode b_X1_functionEnd 19 = .ok (.iconst 0, 1) := by decide +kernel
theorem d_X1_functionEnd_20 : decode b_X1_functionEnd 20 = .ok (.iconst 0, 1) := by decide +kernel
theorem d_X1_functionEnd_21 : decode b_X1_functionEnd 21 = .ok (.invokevirtual 152, 3) := by decide +kernel
theorem d_X1_functionEnd_24 : decode b_X1_functionEnd 24 = .ok (.pop, 1) := by decide +kernel
theorem d_X1_functionEnd_25 : decode b_X1_functionEnd 25 = .ok (.aload_n 0, 1) := by decide +kernel
theorem d_X1_functionEnd_26 : decode b_X1_functionEnd 26 = .ok (.getfield 34, 3) := by decide +kernel
theorem d_X1_functionEnd_29 : decode b_X1_functionEnd 29 = .ok (.getfield 191, 3) := by decide +kernel
theorem d_X1_functionEnd_32 : decode b_X1_functionEnd 32 = .ok (.aload_n 0, 1) := by decide +kernel
theorem d_X1_functionEnd_33 : decode b_X1_functionEnd 33 = .ok (.getfield 26, 3) := by decide +kernel
theorem d_X1_functionEnd_36 : decode b_X1_functionEnd 36 = .ok (.getfield 108, 3) := by decide +kernel
theorem d_X1_functionEnd_39 : decode b_X1_functionEnd 39 = .ok (.invokestatic 58, 3) := by decide +kernel
theorem d_X1_functionEnd_42 : decode b_X1_functionEnd 42 = .ok (.istore_n 1, 1) := by decide +kernel
theorem d_X1_functionEnd_43 : decode b_X1_functionEnd 43 = .ok (.aload_n 0, 1) := by decide +kernel
theorem d_X1_functionEnd_44 : decode b_X1_functionEnd 44 = .ok (.getfield 34, 3) := by decide +kernel
theorem d_X1_functionEnd_47 : decode b_X1_functionEnd 47 = .ok (.getfield 185, 3) := by decide +kernel
theorem d_X1_functionEnd_50 : decode b_X1_functionEnd 50 = .ok (.aload_n 0, 1) := by decide +kernel
theorem d_X1_functionEnd_51 : decode b_X1_functionEnd 51 = .ok (.getfield 26, 3) := by decide +kernel
theorem d_X1_functionEnd_54 : decode b_X1_functionEnd 54 = .ok (.getfield 108, 3) := by decide +kernel
theorem d_X1_functionEnd_57 : decode b_X1_functionEnd 57 = .ok (.invokestatic 58, 3) := by decide +kernel
theorem d_X1_functionEnd_60 : decode b_X1_functionEnd 60 = .ok (.invokestatic 260, 3) := by decide +kernel
theorem d_X1_functionEnd_63 : decode b_X1_functionEnd 63 = .ok (.istore_n 2, 1) := by decide +kernel
theorem d_X1_functionEnd_64 : decode b_X1_functionEnd 64 = .ok (.iconst 0, 1) := by decide +kernel
theorem d_X1_functionEnd_65 : decode b_X1_functionEnd 65 = .ok (.istore_n 3, 1) := by decide +kernel
theorem d_X1_functionEnd_66 : decode b_X1_functionEnd 66 = .ok (.iconst 0, 1) := by decide +kernel
theorem d_X1_functionEnd_67 : decode b_X1_functionEnd 67 = .ok (.istore 4, 2) := by decide +kernel
theorem d_X1_functionEnd_69 : decode b_X1_functionEnd 69 = .ok (.iconst 0, 1) := by decide +kernel
theorem d_X1_functionEnd_70 : decode b_X1_functionEnd 70 = .ok (.istore 5, 2) := by decide +kernel
theorem d_X1_functionEnd_72 : decode b_X1_functionEnd 72 = .ok (.iload 5, 2) := by decide +kernel
theorem d_X1_functionEnd_74 : decode b_X1_functionEnd 74 = .ok (.aload_n 0, 1) := by decide +kernel
theorem d_X1_functionEnd_75 : decode b_X1_functionEnd 75 = .ok (.getfield 26, 3) := by decide +kernel
theorem d_X1_functionEnd_78 : decode b_X1_functionEnd 78 = .ok (.getfield 135, 3) := by decide +kernel
theorem d_X1_functionEnd_81 : decode b_X1_functionEnd 81 = .ok (.if_icmp .ge 102, 3) := by decide +kernel
theorem d_X1_functionEnd_84 : decode b_X1_functionEnd 84 = .ok (.aload_n 0, 1) := by decide +kernel
theorem d_X1_functionEnd_85 : decode b_X1_functionEnd 85 = .ok (.getfield 26, 3) := by decide +kernel
theorem d_X1_functionEnd_88 : decode b_X1_functionEnd 88 = .ok (.getfield 263, 3) := by decide +kernel
theorem d_X1_functionEnd_91 : decode b_X1_functionEnd 91 = .ok (.iload 5, 2) := by decide +kernel
theorem d_X1_functionEnd_93 : decode b_X1_functionEnd 93 = .ok (.invokestatic 58, 3) := by decide +kernel
theorem d_X1_functionEnd_96 : decode b_X1_functionEnd 96 = .ok (.ifCond .eq 7, 3) := by decide +kernel
theorem d_X1_functionEnd_99 : decode b_X1_functionEnd 99 = .ok (.iconst 1, 1) := by decide +kernel
theorem d_X1_functionEnd_100 : decode b_X1_functionEnd 100 = .ok (.goto 4, 3) := by decide +kernel
theorem d_X1_functionEnd_103 : decode b_X1_functionEnd 103 = .ok (.iconst 0, 1) := by decide +kernel
theorem d_X1_functionEnd_104 : decode b_X1_functionEnd 104 = .ok (.istore 6, 2) := by decide +kernel
theorem d_X1_functionEnd_106 : decode b_X1_functionEnd 106 = .ok (.aload_n 0, 1) := by decide +kernel
theorem d_X1_functionEnd_107 : decode b_X1_functionEnd 107 = .ok (.getfield 9, 3) := by decide +kernel
theorem d_X1_functionEnd_110 : decode b_X1_functionEnd 110 = .ok (.iload 5, 2) := by decide +kernel
theorem d_X1_functionEnd_112 : decode b_X1_functionEnd 112 = .ok (.iload 6, 2) := by decide +kernel
theorem d_X1_functionEnd_114 : decode b_X1_functionEnd 114 = .ok (.ifCond .eq 7, 3) := by decide +kernel
theorem d_X1_functionEnd_117 : decode b_X1_functionEnd 117 = .ok (.iload_n 3, 1) := by decide +kernel
theorem d_X1_functionEnd_118 : decode b_X1_functionEnd 118 = .ok (.goto 4, 3) := by decide +kernel
theorem d_X1_functionEnd_121 : decode b_X1_functionEnd 121 = .ok (.iconst (-1), 1) := by decide +kernel
theorem d_X1_functionEnd_122 : decode b_X1_functionEnd 122 = .ok (.invokestatic 181, 3) := by decide +kernel
theorem d_X1_functionEnd_125 : decode b_X1_functionEnd 125 = .ok (.iload 4, 2) := by decide +kernel
theorem d_X1_functionEnd_127 : decode b_X1_functionEnd 127 = .ok (.iload 6, 2) := by decide +kernel
theorem d_X1_functionEnd_129 : decode b_X1_functionEnd 129 = .ok (.ifCond .eq 16, 3) := by decide +kernel
theorem d_X1_functionEnd_132 : decode b_X1_functionEnd 132 = .ok (.iload 5, 2) := by decide +kernel
theorem d_X1_functionEnd_134 : decode b_X1_functionEnd 134 = .ok (.iload_n 2, 1) := by decide +kernel
theorem d_X1_functionEnd_135 : decode b_X1_functionEnd 135 = .ok (.if_icmp .ge 10, 3) := by decide +kernel
theorem d_X1_functionEnd_138 : decode b_X1_functionEnd 138 = .ok (.iconst 1, 1) := by decide +kernel
theorem d_X1_functionEnd_139 : decode b_X1_functionEnd 139 = .ok (.iload 5, 2) := by decide +kernel
theorem d_X1_functionEnd_141 : decode b_X1_functionEnd 141 = .ok (.ishl, 1) := by decide +kernel
theorem d_X1_functionEnd_142 : decode b_X1_functionEnd 142 = .ok (.goto 4, 3) := by decide +kernel
theorem d_X1_functionEnd_145 : decode b_X1_functionEnd 145 = .ok (.iconst 0, 1) := by decide +kernel
theorem d_X1_functionEnd_146 : decode b_X1_functionEnd 146 = .ok (.ior, 1) := by decide +kernel
theorem d_X1_functionEnd_147 : decode b_X1_functionEnd 147 = .ok (.istore 4, 2) := by decide +kernel
theorem d_X1_functionEnd_149 : decode b_X1_functionEnd 149 = .ok (.iload_n 3, 1) := by decide +kernel
theorem d_X1_functionEnd_150 : decode b_X1_functionEnd 150 = .ok (.iload 6, 2) := by decide +kernel
theorem d_X1_functionEnd_152 : decode b_X1_functionEnd 152 = .ok (.ifCond .eq 22, 3) := by decide +kernel
theorem d_X1_functionEnd_155 : decode b_X1_functionEnd 155 = .ok (.aload_n 0, 1) := by decide +kernel
theorem d_X1_functionEnd_156 : decode b_X1_functionEnd 156 = .ok (.getfield 26, 3) := by decide +kernel
theorem d_X1_functionEnd_159 : decode b_X1_functionEnd 159 = .ok (.getfield 266, 3) := by decide +kernel
theorem d_X1_functionEnd_162 : decode b_X1_functionEnd 162 = .ok (.iload 5, 2) := by decide +kernel
theorem d_X1_functionEnd_164 : decode b_X1_functionEnd 164 = .ok (.invokestatic 58, 3) := by decide +kernel
theorem d_X1_functionEnd_167 : decode b_X1_functionEnd 167 = .ok (.iconst 1, 1) := by decide +kernel
theorem d_X1_functionEnd_168 : decode b_X1_functionEnd 168 = .ok (.invokestatic 269, 3) := by decide +kernel
theorem d_X1_functionEnd_171 : decode b_X1_functionEnd 171 = .ok (.goto 4, 3) := by decide +kernel
theorem d_X1_functionEnd_174 : decode b_X1_functionEnd 174 = .ok (.iconst 0, 1) := by decide +kernel
theorem d_X1_functionEnd_175 : decode b_X1_functionEnd 175 = .ok (.iadd, 1) := by decide +kernel
theorem d_X1_functionEnd_176 : decode b_X1_functionEnd 176 = .ok (.istore_n 3, 1) := by decide +kernel
theorem d_X1_functionEnd_177 : decode b_X1_functionEnd 177 = .ok (.iinc 5 1, 3) := by decide +kernel
theorem d_X1_functionEnd_180 : decode b_X1_functionEnd 180 = .ok (.goto (-108), 3) := by decide +kernel
theorem d_X1_functionEnd_183 : decode b_X1_functionEnd 183 = .ok (.aload_n 0, 1) := by decide +kernel
theorem d_X1_functionEnd_184 : decode b_X1_functionEnd 184 = .ok (.getfield 41, 3) := by decide +kernel
theorem d_X1_functionEnd_187 : decode b_X1_functionEnd 187 = .ok (.getfield 274, 3) := by decide +kernel
theorem d_X1_functionEnd_190 : decode b_X1_functionEnd 190 = .ok (.iload_n 1, 1) := by decide +kernel
theorem d_X1_functionEnd_191 : decode b_X1_functionEnd 191 = .ok (.iload_n 3, 1) := by decide +kernel
theorem d_X1_functionEnd_192 : decode b_X1_functionEnd 192 = .ok (.invokestatic 181, 3) := by decide +kernel
theorem d_X1_functionEnd_195 : decode b_X1_functionEnd 195 = .ok (.aload_n 0, 1) := by decide +kernel
theorem d_X1_functionEnd_196 : decode b_X1_functionEnd 196 = .ok (.getfield 41, 3) := by decide +kernel
theorem d_X1_functionEnd_199 : decode b_X1_functionEnd 199 = .ok (.getfield 274, 3) := by decide +kernel
theorem d_X1_functionEnd_202 : decode b_X1_functionEnd 202 = .ok (.iload_n 1, 1) := by decide +kernel
theorem d_X1_functionEnd_203 : decode b_X1_functionEnd 203 = .ok (.iconst 1, 1) := by decide +kernel
theorem d_X1_functionEnd_204 : decode b_X1_functionEnd 204 = .ok (.iadd, 1) := by decide +kernel
theorem d_X1_functionEnd_205 : decode b_X1_functionEnd 205 = .ok (.aload_n 0, 1) := by decide +kernel
theorem d_X1_functionEnd_206 : decode b_X1_functionEnd 206 = .ok (.getfield 26, 3) := by decide +kernel
theorem d_X1_functionEnd_209 : decode b_X1_functionEnd 209 = .ok (.getfield 135, 3) := by decide +kernel
theorem d_X1_functionEnd_212 : decode b_X1_functionEnd 212 = .ok (.invokestatic 181, 3) := by decide +kernel
theorem d_X1_functionEnd_215 : decode b_X1_functionEnd 215 = .ok (.aload_n 0, 1) := by decide +kernel
theorem d_X1_functionEnd_216 : decode b_X1_functionEnd 216 = .ok (.getfield 41, 3) := by decide +kernel
theorem d_X1_functionEnd_219 : decode b_X1_functionEnd 219 = .ok (.getfield 274, 3) := by decide +kernel
theorem d_X1_functionEnd_222 : decode b_X1_functionEnd 222 = .ok (.iload_n 1, 1) := by decide +kernel
theorem d_X1_functionEnd_223 : decode b_X1_functionEnd 223 = .ok (.iconst 2, 1) := by decide +kernel
theorem d_X1_functionEnd_224 : decode b_X1_functionEnd 224 = .ok (.iadd, 1) := by decide +kernel
theorem d_X1_functionEnd_225 : decode b_X1_functionEnd 225 = .ok (.iload_n 2, 1) := by decide +kernel
theorem d_X1_functionEnd_226 : decode b_X1_functionEnd 226 = .ok (.invokestatic 181, 3) := by decide +kernel
theorem d_X1_functionEnd_229 : decode b_X1_functionEnd 229 = .ok (.aload_n 0, 1) := by decide +kernel
theorem d_X1_functionEnd_230 : decode b_X1_functionEnd 230 = .ok (.getfield 41, 3) := by decide +kernel
theorem d_X1_functionEnd_233 : decode b_X1_functionEnd 233 = .ok (.getfield 274, 3) := by decide +kernel
theorem d_X1_functionEnd_236 : decode b_X1_functionEnd 236 = .ok (.iload_n 1, 1) := by decide +kernel
theorem d_X1_functionEnd_237 : decode b_X1_functionEnd 237 = .ok (.iconst 3, 1) := by decide +kernel
theorem d_X1_functionEnd_238 : decode b_X1_functionEnd 238 = .ok (.iadd, 1) := by decide +kernel
theorem d_X1_functionEnd_239 : decode b_X1_functionEnd 239 = .ok (.iload 4, 2) := by decide +kernel
theorem d_X1_functionEnd_241 : decode b_X1_functionEnd 241 = .ok (.invokestatic 181, 3) := by decide +kernel
theorem d_X1_functionEnd_244 : decode b_X1_functionEnd 244 = .ok (.aload_n 0, 1) := by decide +kernel
theorem d_X1_functionEnd_245 : decode b_X1_functionEnd 245 = .ok (.getfield 41, 3) := by decide +kernel
theorem d_X1_functionEnd_248 : decode b_X1_functionEnd 248 = .ok (.iload_n 1, 1) := by decide +kernel
theorem d_X1_functionEnd_249 : decode b_X1_functionEnd 249 = .ok (.iconst 4, 1) := by decide +kernel
theorem d_X1_functionEnd_250 : decode b_X1_functionEnd 250 = .ok (.iadd, 1) := by decide +kernel
theorem d_X1_functionEnd_251 : decode b_X1_functionEnd 251 = .ok (.aload_n 0, 1) := by decide +kernel
theorem d_X1_functionEnd_252 : decode b_X1_functionEnd 252 = .ok (.getfield 9, 3) := by decide +kernel
theorem d_X1_functionEnd_255 : decode b_X1_functionEnd 255 = .ok (.invokevirtual 277, 3) := by decide +kernel
theorem d_X1_functionEnd_258 : decode b_X1_functionEnd 258 = .ok (.aload_n 0, 1) := by decide +kernel
theorem d_X1_functionEnd_259 : decode b_X1_functionEnd 259 = .ok (.getfield 26, 3) := by decide +kernel
theorem d_X1_functionEnd_262 : decode b_X1_functionEnd 262 = .ok (.getfield 281, 3) := by decide +kernel
theorem d_X1_functionEnd_265 : decode b_X1_functionEnd 265 = .ok (.iconst 1, 1) := by decide +kernel
theorem d_X1_functionEnd_266 : decode b_X1_functionEnd 266 = .ok (.if_icmp .le 13, 3) := by decide +kernel
theorem d_X1_functionEnd_269 : decode b_X1_functionEnd 269 = .ok (.aload_n 0, 1) := by decide +kernel
theorem d_X1_functionEnd_270 : decode b_X1_functionEnd 270 = .ok (.getfield 41, 3) := by decide +kernel
theorem d_X1_functionEnd_273 : decode b_X1_functionEnd 273 = .ok (.iload_n 1, 1) := by decide +kernel
theorem d_X1_functionEnd_274 : decode b_X1_functionEnd 274 = .ok (.iconst 4, 1) := by decide +kernel
theorem d_X1_functionEnd_275 : decode b_X1_functionEnd 275 = .ok (.iadd, 1) := by decide +kernel
theorem d_X1_functionEnd_276 : decode b_X1_functionEnd 276 = .ok (.invokevirtual 284, 3) := by decide +kernel
theorem d_X1_functionEnd_279 : decode b_X1_functionEnd 279 = .ok (.aload_n 0, 1) := by decide +kernel
theorem d_X1_functionEnd_280 : decode b_X1_functionEnd 280 = .ok (.getfield 26, 3) := by decide +kernel
theorem d_X1_functionEnd_283 : decode b_X1_functionEnd 283 = .ok (.invokevirtual 287, 3) := by decide +kernel
theorem d_X1_functionEnd_286 : decode b_X1_functionEnd 286 = .ok (.return_, 1) := by decide +kernel
theorem d_X0_thread_0 : decode b_X0_thread 0 = .ok (.iload_n 1, 1) := by decide +kernel
theorem d_X0_thread_1 : decode b_X0_thread 1 = .ok (.istore_n 2, 1) := by decide +kernel
theorem d_X0_thread_2 : decode b_X0_thread 2 = .ok (.aload_n 0, 1) := by decide +kernel
theorem d_X0_thread_3 : decode b_X0_thread 3 = .ok (.getfield 18, 3) := by decide +kernel
theorem d_X0_thread_6 : decode b_X0_thread 6 = .ok (.istore_n 3, 1) := by decide +kernel
theorem d_X0_thread_7 : decode b_X0_thread 7 = .ok (.iload_n 3, 1) := by decide +kernel
theorem d_X0_thread_8 : decode b_X0_thread 8 = .ok (.ifCond .le 123, 3) := by decide +kernel
theorem d_X0_thread_11 : decode b_X0_thread 11 = .ok (.iload_n 2, 1) := by decide +kernel
theorem d_X0_thread_12 : decode b_X0_thread 12 = .ok (.aload_n 0, 1) := by decide +kernel
theorem d_X0_thread_13 : decode b_X0_thread 13 = .ok (.getfield 18, 3) := by decide +kernel
theorem d_X0_thread_16 : decode b_X0_thread 16 = .ok (.if_icmp .ge 115, 3) := by decide +kernel
theorem d_X0_thread_19 : decode b_X0_thread 19 = .ok (.aload_n 0, 1) := by decide +kernel
theorem d_X0_thread_20 : decode b_X0_thread 20 = .ok (.getfield 14, 3) := by decide +kernel
theorem d_X0_thread_23 : decode b_X0_thread 23 = .ok (.iload_n 2, 1) := by decide +kernel
theorem d_X0_thread_24 : decode b_X0_thread 24 = .ok (.invokestatic 31, 3) := by decide +kernel
theorem d_X0_thread_27 : decode b_X0_thread 27 = .ok (.istore 4, 2) := by decide +kernel
theorem d_X0_thread_29 : decode b_X0_thread 29 = .ok (.iload 4, 2) := by decide +kernel
theorem d_X0_thread_31 : decode b_X0_thread 31 = .ok (.bipush 26, 2) := by decide +kernel
theorem d_X0_thread_33 : decode b_X0_thread 33 = .ok (.if_icmp .lt 77, 3) := by decide +kernel
theorem d_X0_thread_36 : decode b_X0_thread 36 = .ok (.iload 4, 2) := by decide +kernel
theorem d_X0_thread_38 : decode b_X0_thread 38 = .ok (.bipush 28, 2) := by decide +kernel
theorem d_X0_thread_40 : decode b_X0_thread 40 = .ok (.if_icmp .gt 70, 3) := by decide +kernel
theorem d_X0_thread_43 : decode b_X0_thread 43 = .ok (.aload_n 0, 1) := by decide +kernel
theorem d_X0_thread_44 : decode b_X0_thread 44 = .ok (.getfield 14, 3) := by decide +kernel
theorem d_X0_thread_47 : decode b_X0_thread 47 = .ok (.iload_n 2, 1) := by decide +kernel
theorem d_X0_thread_48 : decode b_X0_thread 48 = .ok (.iconst 1, 1) := by decide +kernel
theorem d_X0_thread_49 : decode b_X0_thread 49 = .ok (.iadd, 1) := by decide +kernel
theorem d_X0_thread_50 : decode b_X0_thread 50 = .ok (.invokestatic 31, 3) := by decide +kernel
theorem d_X0_thread_53 : decode b_X0_thread 53 = .ok (.istore 5, 2) := by decide +kernel
theorem d_X0_thread_55 : decode b_X0_thread 55 = .ok (.iconst 0, 1) := by decide +kernel
theorem d_X0_thread_56 : decode b_X0_thread 56 = .ok (.istore 6, 2) := by decide +kernel
theorem d_X0_thread_58 : decode b_X0_thread 58 = .ok (.iload 6, 2) := by decide +kernel
theorem d_X0_thread_60 : decode b_X0_thread 60 = .ok (.bipush 100, 2) := by decide +kernel
theorem d_X0_thread_62 : decode b_X0_thread 62 = .ok (.if_icmp .ge 36, 3) := by decide +kernel
theorem d_X0_thread_65 : decode b_X0_thread 65 = .ok (.aload_n 0, 1) := by decide +kernel
theorem d_X0_thread_66 : decode b_X0_thread 66 = .ok (.getfield 14, 3) := by decide +kernel
theorem d_X0_thread_69 : decode b_X0_thread 69 = .ok (.iload 5, 2) := by decide +kernel
theorem d_X0_thread_71 : decode b_X0_thread 71 = .ok (.invokestatic 31, 3) := by decide +kernel
theorem d_X0_thread_74 : decode b_X0_thread 74 = .ok (.bipush 26, 2) := by decide +kernel
theorem d_X0_thread_76 : decode b_X0_thread 76 = .ok (.if_icmp .ne 22, 3) := by decide +kernel
theorem d_X0_thread_79 : decode b_X0_thread 79 = .ok (.aload_n 0, 1) := by decide +kernel
theorem d_X0_thread_80 : decode b_X0_thread 80 = .ok (.getfield 14, 3) := by decide +kernel
theorem d_X0_thread_83 : decode b_X0_thread 83 = .ok (.iload 5, 2) := by decide +kernel
theorem d_X0_thread_85 : decode b_X0_thread 85 = .ok (.iconst 1, 1) := by decide +kernel
theorem d_X0_thread_86 : decode b_X0_thread 86 = .ok (.iadd, 1) := by decide +kernel
theorem d_X0_thread_87 : decode b_X0_thread 87 = .ok (.invokestatic 31, 3) := by decide +kernel
theorem d_X0_thread_90 : decode b_X0_thread 90 = .ok (.istore 5, 2) := by decide +kernel
theorem d_X0_thread_92 : decode b_X0_thread 92 = .ok (.iinc 6 1, 3) := by decide +kernel
theorem d_X0_thread_95 : decode b_X0_thread 95 = .ok (.goto (-37), 3) := by decide +kernel
theorem d_X0_thread_98 : decode b_X0_thread 98 = .ok (.aload_n 0, 1) := by decide +kernel
theorem d_X0_thread_99 : decode b_X0_thread 99 = .ok (.getfield 14, 3) := by decide +kernel
theorem d_X0_thread_102 : decode b_X0_thread 102 = .ok (.iload_n 2, 1) := by decide +kernel
theorem d_X0_thread_103 : decode b_X0_thread 103 = .ok (.iconst 1, 1) := by decide +kernel
theorem d_X0_thread_104 : decode b_X0_thread 104 = .ok (.iadd, 1) := by decide +kernel
theorem d_X0_thread_105 : decode b_X0_thread 105 = .ok (.iload 5, 2) := by decide +kernel
theorem d_X0_thread_107 : decode b_X0_thread 107 = .ok (.invokestatic 35, 3) := by decide +kernel
theorem d_X0_thread_110 : decode b_X0_thread 110 = .ok (.iload_n 2, 1) := by decide +kernel
theorem d_X0_thread_111 : decode b_X0_thread 111 = .ok (.getstatic 22, 3) := by decide +kernel
theorem d_X0_thread_114 : decode b_X0_thread 114 = .ok (.iload 4, 2) := by decide +kernel
theorem d_X0_thread_116 : decode b_X0_thread 116 = .ok (.invokestatic 31, 3) := by decide +kernel
theorem d_X0_thread_119 : decode b_X0_thread 119 = .ok (.iconst 1, 1) := by decide +kernel
theorem d_X0_thread_120 : decode b_X0_thread 120 = .ok (.invokestatic 39, 3) := by decide +kernel
theorem d_X0_thread_123 : decode b_X0_thread 123 = .ok (.iadd, 1) := by decide +kernel
theorem d_X0_thread_124 : decode b_X0_thread 124 = .ok (.istore_n 2, 1) := by decide +kernel
theorem d_X0_thread_125 : decode b_X0_thread 125 = .ok (.iinc 3 (-1), 3) := by decide +kernel
theorem d_X0_thread_128 : decode b_X0_thread 128 = .ok (.goto (-121), 3) := by decide +kernel
theorem d_X0_thread_131 : decode b_X0_thread 131 = .ok (.return_, 1) := by decide +kernel
theorem d_X7_constant_0 : decode b_X7_constant 0 = .ok (.aload_n 0, 1) := by decide +kernel
theorem d_X7_constant_1 : decode b_X7_constant 1 = .ok (.getfield 44, 3) := by decide +kernel
theorem d_X7_constant_4 : decode b_X7_constant 4 = .ok (.getfield 109, 3) := by decide +kernel
theorem d_X7_constant_7 : decode b_X7_constant 7 = .ok (.istore_n 3, 1) := by decide +kernel
theorem d_X7_constant_8 : decode b_X7_constant 8 = .ok (.iload_n 1, 1) := by decide +kernel
theorem d_X7_constant_9 : decode b_X7_constant 9 = .ok (.istore 4, 2) := by decide +kernel
theorem d_X7_constant_11 : decode b_X7_constant 11 = .ok (.iload 4, 2) := by decide +kernel
theorem d_X7_constant_13 : decode b_X7_constant 13 = .ok (.iload_n 2, 1) := by decide +kernel
theorem d_X7_constant_14 : decode b_X7_constant 14 = .ok (.if_icmp .ge 28, 3) := by decide +kernel
theorem d_X7_constant_17 : decode b_X7_constant 17 = .ok (.aload_n 0, 1) := by decide +kernel
theorem d_X7_constant_18 : decode b_X7_constant 18 = .ok (.getfield 34, 3) := by decide +kernel
theorem d_X7_constant_21 : decode b_X7_constant 21 = .ok (.getfield 74, 3) := by decide +kernel
theorem d_X7_constant_24 : decode b_X7_constant 24 = .ok (.ifCond .ne 18, 3) := by decide +kernel
theorem d_X7_constant_27 : decode b_X7_constant 27 = .ok (.aload_n 0, 1) := by decide +kernel
theorem d_X7_constant_28 : decode b_X7_constant 28 = .ok (.getfield 49, 3) := by decide +kernel
theorem d_X7_constant_31 : decode b_X7_constant 31 = .ok (.iload 4, 2) := by decide +kernel
theorem d_X7_constant_33 : decode b_X7_constant 33 = .ok (.invokevirtual 84, 3) := by decide +kernel
theorem d_X7_constant_36 : decode b_X7_constant 36 = .ok (.iinc 4 1, 3) := by decide +kernel
theorem d_X7_constant_39 : decode b_X7_constant 39 = .ok (.goto (-28), 3) := by decide +kernel
theorem d_X7_constant_42 : decode b_X7_constant 42 = .ok (.aload_n 0, 1) := by decide +kernel
theorem d_X7_constant_43 : decode b_X7_constant 43 = .ok (.getfield 34, 3) := by decide +kernel
theorem d_X7_constant_46 : decode b_X7_constant 46 = .ok (.getfield 74, 3) := by decide +kernel
theorem d_X7_constant_49 : decode b_X7_constant 49 = .ok (.ifCond .ne 7, 3) := by decide +kernel
theorem d_X7_constant_52 : decode b_X7_constant 52 = .ok (.iconst 1, 1) := by decide +kernel
theorem d_X7_constant_53 : decode b_X7_constant 53 = .ok (.goto 4, 3) := by decide +kernel
theorem d_X7_constant_56 : decode b_X7_constant 56 = .ok (.iconst 0, 1) := by decide +kernel
theorem d_X7_constant_57 : decode b_X7_constant 57 = .ok (.istore 4, 2) := by decide +kernel
theorem d_X7_constant_59 : decode b_X7_constant 59 = .ok (.aload_n 0, 1) := by decide +kernel
theorem d_X7_constant_60 : decode b_X7_constant 60 = .ok (.getfield 34, 3) := by decide +kernel
theorem d_X7_constant_63 : decode b_X7_constant 63 = .ok (.iconst 0, 1) := by decide +kernel
theorem d_X7_constant_64 : decode b_X7_constant 64 = .ok (.putfield 74, 3) := by decide +kernel
theorem d_X7_constant_67 : decode b_X7_constant 67 = .ok (.aload_n 0, 1) := by decide +kernel
theorem d_X7_constant_68 : decode b_X7_constant 68 = .ok (.getfield 44, 3) := by decide +kernel
theorem d_X7_constant_71 : decode b_X7_constant 71 = .ok (.iload_n 3, 1) := by decide +kernel
theorem d_X7_constant_72 : decode b_X7_constant 72 = .ok (.invokevirtual 114, 3) := by decide +kernel
theorem d_X7_constant_75 : decode b_X7_constant 75 = .ok (.aload_n 0, 1) := by decide +kernel
theorem d_X7_constant_76 : decode b_X7_constant 76 = .ok (.getfield 49, 3) := by decide +kernel
theorem d_X7_constant_79 : decode b_X7_constant 79 = .ok (.invokevirtual 117, 3) := by decide +kernel
theorem d_X7_constant_82 : decode b_X7_constant 82 = .ok (.astore 5, 2) := by decide +kernel
theorem d_X7_constant_84 : decode b_X7_constant 84 = .ok (.aload_n 0, 1) := by decide +kernel
theorem d_X7_constant_85 : decode b_X7_constant 85 = .ok (.getfield 49, 3) := by decide +kernel
theorem d_X7_constant_88 : decode b_X7_constant 88 = .ok (.iconst 0, 1) := by decide +kernel
theorem d_X7_constant_89 : decode b_X7_constant 89 = .ok (.putfield 62, 3) := by decide +kernel
theorem d_X7_constant_92 : decode b_X7_constant 92 = .ok (.iload 4, 2) := by decide +kernel
theorem d_X7_constant_94 : decode b_X7_constant 94 = .ok (.ifCond .eq 23, 3) := by decide +kernel
theorem d_X7_constant_97 : decode b_X7_constant 97 = .ok (.aload 5, 2) := by decide +kernel
theorem d_X7_constant_99 : decode b_X7_constant 99 = .ok (.invokevirtual 121, 3) := by decide +kernel
theorem d_X7_constant_102 : decode b_X7_constant 102 = .ok (.ifCond .eq 15, 3) := by decide +kernel
theorem d_X7_constant_105 : decode b_X7_constant 105 = .ok (.aload 5, 2) := by decide +kernel
theorem d_X7_constant_107 : decode b_X7_constant 107 = .ok (.getfield 127, 3) := by decide +kernel
theorem d_X7_constant_110 : decode b_X7_constant 110 = .ok (.iconst 0, 1) := by decide +kernel
theorem d_X7_constant_111 : decode b_X7_constant 111 = .ok (.invokestatic 101, 3) := by decide +kernel
theorem d_X7_constant_114 : decode b_X7_constant 114 = .ok (.goto 4, 3) := by decide +kernel
theorem d_X7_constant_117 : decode b_X7_constant 117 = .ok (.iconst 0, 1) := by decide +kernel
theorem d_X7_constant_118 : decode b_X7_constant 118 = .ok (.ireturn, 1) := by decide +kernel
theorem d_X11_finish_0 : decode b_X11_finish 0 = .ok (.iconst (-1), 1) := by decide +kernel
theorem d_X11_finish_1 : decode b_X11_finish 1 = .ok (.istore_n 1, 1) := by decide +kernel
theorem d_X11_finish_2 : decode b_X11_finish 2 = .ok (.iconst 0, 1) := by decide +kernel
theorem d_X11_finish_3 : decode b_X11_finish 3 = .ok (.istore_n 2, 1) := by decide +kernel
theorem d_X11_finish_4 : decode b_X11_finish 4 = .ok (.iload_n 2, 1) := by decide +kernel
theorem d_X11_finish_5 : decode b_X11_finish 5 = .ok (.aload_n 0, 1) := by decide +kernel
theorem d_X11_finish_6 : decode b_X11_finish 6 = .ok (.getfield 57, 3) := by decide +kernel
theorem d_X11_finish_9 : decode b_X11_finish 9 = .ok (.if_icmp .ge 88, 3) := by decide +kernel
theorem d_X11_finish_12 : decode b_X11_finish 12 = .ok (.aload_n 0, 1) := by decide +kernel
theorem d_X11_finish_13 : decode b_X11_finish 13 = .ok (.getfield 40, 3) := by decide +kernel
theorem d_X11_finish_16 : decode b_X11_finish 16 = .ok (.getfield 92, 3) := by decide +kernel
theorem d_X11_finish_19 : decode b_X11_finish 19 = .ok (.aload_n 0, 1) := by decide +kernel
theorem d_X11_finish_20 : decode b_X11_finish 20 = .ok (.getfield 57, 3) := by decide +kernel
theorem d_X11_finish_23 : decode b_X11_finish 23 = .ok (.isub, 1) := by decide +kernel
theorem d_X11_finish_24 : decode b_X11_finish 24 = .ok (.iload_n 2, 1) := by decide +kernel
theorem d_X11_finish_25 : decode b_X11_finish 25 = .ok (.iadd, 1) := by decide +kernel
theorem d_X11_finish_26 : decode b_X11_finish 26 = .ok (.istore_n 3, 1) := by decide +kernel
theorem d_X11_finish_27 : decode b_X11_finish 27 = .ok (.aload_n 0, 1) := by decide +kernel
theorem d_X11_finish_28 : decode b_X11_finish 28 = .ok (.getfield 15, 3) := by decide +kernel
theorem d_X11_finish_31 : decode b_X11_finish 31 = .ok (.iload_n 2, 1) := by decide +kernel
theorem d_X11_finish_32 : decode b_X11_finish 32 = .ok (.invokestatic 82, 3) := by decide +kernel
theorem d_X11_finish_35 : decode b_X11_finish 35 = .ok (.istore 4, 2) := by decide +kernel
theorem d_X11_finish_37 : decode b_X11_finish 37 = .ok (.aload_n 0, 1) := by decide +kernel
theorem d_X11_finish_38 : decode b_X11_finish 38 = .ok (.getfield 40, 3) := by decide +kernel
theorem d_X11_finish_41 : decode b_X11_finish 41 = .ok (.iload_n 3, 1) := by decide +kernel
theorem d_X11_finish_42 : decode b_X11_finish 42 = .ok (.iconst 2, 1) := by decide +kernel
theorem d_X11_finish_43 : decode b_X11_finish 43 = .ok (.invokevirtual 115, 3) := by decide +kernel
theorem d_X11_finish_46 : decode b_X11_finish 46 = .ok (.ifCond .eq 19, 3) := by decide +kernel
theorem d_X11_finish_49 : decode b_X11_finish 49 = .ok (.aload_n 0, 1) := by decide +kernel
theorem d_X11_finish_50 : decode b_X11_finish 50 = .ok (.getfield 40, 3) := by decide +kernel
theorem d_X11_finish_53 : decode b_X11_finish 53 = .ok (.iload_n 3, 1) := by decide +kernel
theorem d_X11_finish_54 : decode b_X11_finish 54 = .ok (.iconst 4, 1) := by decide +kernel
theorem d_X11_finish_55 : decode b_X11_finish 55 = .ok (.invokevirtual 115, 3) := by decide +kernel
theorem d_X11_finish_58 : decode b_X11_finish 58 = .ok (.ifCond .ne 7, 3) := by decide +kernel
theorem d_X11_finish_61 : decode b_X11_finish 61 = .ok (.iconst 1, 1) := by decide +kernel
theorem d_X11_finish_62 : decode b_X11_finish 62 = .ok (.goto 4, 3) := by decide +kernel
theorem d_X11_finish_65 : decode b_X11_finish 65 = .ok (.iconst 0, 1) := by decide +kernel
theorem d_X11_finish_66 : decode b_X11_finish 66 = .ok (.istore 5, 2) := by decide +kernel
theorem d_X11_finish_68 : decode b_X11_finish 68 = .ok (.iload 5, 2) := by decide +kernel
theorem d_X11_finish_70 : decode b_X11_finish 70 = .ok (.ifCond .eq 21, 3) := by decide +kernel
theorem d_X11_finish_73 : decode b_X11_finish 73 = .ok (.iload 4, 2) := by decide +kernel
theorem d_X11_finish_75 : decode b_X11_finish 75 = .ok (.ifCond .lt 16, 3) := by decide +kernel
theorem d_X11_finish_78 : decode b_X11_finish 78 = .ok (.iload_n 1, 1) := by decide +kernel
theorem d_X11_finish_79 : decode b_X11_finish 79 = .ok (.ifCond .lt 9, 3) := by decide +kernel
theorem d_X11_finish_82 : decode b_X11_finish 82 = .ok (.iload 4, 2) := by decide +kernel
theorem d_X11_finish_84 : decode b_X11_finish 84 = .ok (.iload_n 1, 1) := by decide +kernel
theorem d_X11_finish_85 : decode b_X11_finish 85 = .ok (.if_icmp .ge 6, 3) := by decide +kernel
theorem d_X11_finish_88 : decode b_X11_finish 88 = .ok (.iload 4, 2) := by decide +kernel
theorem d_X11_finish_90 : decode b_X11_finish 90 = .ok (.istore_n 1, 1) := by decide +kernel
theorem d_X11_finish_91 : decode b_X11_finish 91 = .ok (.iinc 2 1, 3) := by decide +kernel
theorem d_X11_finish_94 : decode b_X11_finish 94 = .ok (.goto (-90), 3) := by decide +kernel
theorem d_X11_finish_97 : decode b_X11_finish 97 = .ok (.iload_n 1, 1) := by decide +kernel
theorem d_X11_finish_98 : decode b_X11_finish 98 = .ok (.ifCond .lt 9, 3) := by decide +kernel
theorem d_X11_finish_101 : decode b_X11_finish 101 = .ok (.aload_n 0, 1) := by decide +kernel
theorem d_X11_finish_102 : decode b_X11_finish 102 = .ok (.iconst 2, 1) := by decide +kernel
theorem d_X11_finish_103 : decode b_X11_finish 103 = .ok (.iload_n 1, 1) := by decide +kernel
theorem d_X11_finish_104 : decode b_X11_finish 104 = .ok (.invokevirtual 118, 3) := by decide +kernel
theorem d_X11_finish_107 : decode b_X11_finish 107 = .ok (.return_, 1) := by decide +kernel
theorem d_X8_forget_0 : decode b_X8_forget 0 = .ok (.aload_n 0, 1) := by decide +kernel
theorem d_X8_forget_1 : decode b_X8_forget 1 = .ok (.aload_n 0, 1) := by decide +kernel
theorem d_X8_forget_2 : decode b_X8_forget 2 = .ok (.getfield 55, 3) := by decide +kernel
theorem d_X8_forget_5 : decode b_X8_forget 5 = .ok (.aload_n 0, 1) := by decide +kernel
theorem d_X8_forget_6 : decode b_X8_forget 6 = .ok (.getfield 52, 3) := by decide +kernel
theorem d_X8_forget_9 : decode b_X8_forget 9 = .ok (.invokestatic 88, 3) := by decide +kernel
theorem d_X8_forget_12 : decode b_X8_forget 12 = .ok (.putfield 9, 3) := by decide +kernel
theorem d_X8_forget_15 : decode b_X8_forget 15 = .ok (.aload_n 0, 1) := by decide +kernel
theorem d_X8_forget_16 : decode b_X8_forget 16 = .ok (.aload_n 0, 1) := by decide +kernel
theorem d_X8_forget_17 : decode b_X8_forget 17 = .ok (.aload_n 0, 1) := by decide +kernel
theorem d_X8_forget_18 : decode b_X8_forget 18 = .ok (.getfield 9, 3) := by decide +kernel
theorem d_X8_forget_21 : decode b_X8_forget 21 = .ok (.invokevirtual 103, 3) := by decide +kernel
theorem d_X8_forget_24 : decode b_X8_forget 24 = .ok (.putfield 31, 3) := by decide +kernel
theorem d_X8_forget_27 : decode b_X8_forget 27 = .ok (.aload_n 0, 1) := by decide +kernel
theorem d_X8_forget_28 : decode b_X8_forget 28 = .ok (.aload_n 0, 1) := by decide +kernel
theorem d_X8_forget_29 : decode b_X8_forget 29 = .ok (.getfield 58, 3) := by decide +kernel
theorem d_X8_forget_32 : decode b_X8_forget 32 = .ok (.aload_n 0, 1) := by decide +kernel
theorem d_X8_forget_33 : decode b_X8_forget 33 = .ok (.getfield 52, 3) := by decide +kernel
theorem d_X8_forget_36 : decode b_X8_forget 36 = .ok (.invokestatic 88, 3) := by decide +kernel
theorem d_X8_forget_39 : decode b_X8_forget 39 = .ok (.putfield 39, 3) := by decide +kernel
theorem d_X8_forget_42 : decode b_X8_forget 42 = .ok (.aload_n 0, 1) := by decide +kernel
theorem d_X8_forget_43 : decode b_X8_forget 43 = .ok (.getfield 67, 3) := by decide +kernel
theorem d_X8_forget_46 : decode b_X8_forget 46 = .ok (.aload_n 0, 1) := by decide +kernel
theorem d_X8_forget_47 : decode b_X8_forget 47 = .ok (.getfield 61, 3) := by decide +kernel
theorem d_X8_forget_50 : decode b_X8_forget 50 = .ok (.aload_n 0, 1) := by decide +kernel
theorem d_X8_forget_51 : decode b_X8_forget 51 = .ok (.getfield 52, 3) := by decide +kernel
theorem d_X8_forget_54 : decode b_X8_forget 54 = .ok (.invokestatic 88, 3) := by decide +kernel
theorem d_X8_forget_57 : decode b_X8_forget 57 = .ok (.invokevirtual 126, 3) := by decide +kernel
theorem d_X8_forget_60 : decode b_X8_forget 60 = .ok (.return_, 1) := by decide +kernel
theorem d_X8_nameStart_0 : decode b_X8_nameStart 0 = .ok (.aload_n 0, 1) := by decide +kernel
theorem d_X8_nameStart_1 : decode b_X8_nameStart 1 = .ok (.getfield 28, 3) := by decide +kernel
theorem d_X8_nameStart_4 : decode b_X8_nameStart 4 = .ok (.iload_n 1, 1) := by decide +kernel
theorem d_X8_nameStart_5 : decode b_X8_nameStart 5 = .ok (.iconst 1, 1) := by decide +kernel
theorem d_X8_nameStart_6 : decode b_X8_nameStart 6 = .ok (.isub, 1) := by decide +kernel
theorem d_X8_nameStart_7 : decode b_X8_nameStart 7 = .ok (.invokestatic 88, 3) := by decide +kernel
theorem d_X8_nameStart_10 : decode b_X8_nameStart 10 = .ok (.ireturn, 1) := by decide +kernel
theorem d_X8_keep_0 : decode b_X8_keep 0 = .ok (.aload_n 0, 1) := by decide +kernel
theorem d_X8_keep_1 : decode b_X8_keep 1 = .ok (.dup, 1) := by decide +kernel
theorem d_X8_keep_2 : decode b_X8_keep 2 = .ok (.getfield 52, 3) := by decide +kernel
theorem d_X8_keep_5 : decode b_X8_keep 5 = .ok (.iconst 1, 1) := by decide +kernel
theorem d_X8_keep_6 : decode b_X8_keep 6 = .ok (.iadd, 1) := by decide +kernel
theorem d_X8_keep_7 : decode b_X8_keep 7 = .ok (.putfield 52, 3) := by decide +kernel
theorem d_X8_keep_10 : decode b_X8_keep 10 = .ok (.aload_n 0, 1) := by decide +kernel
theorem d_X8_keep_11 : decode b_X8_keep 11 = .ok (.getfield 55, 3) := by decide +kernel
theorem d_X8_keep_14 : decode b_X8_keep 14 = .ok (.aload_n 0, 1) := by decide +kernel
theorem d_X8_keep_15 : decode b_X8_keep 15 = .ok (.getfield 52, 3) := by decide +kernel
theorem d_X8_keep_18 : decode b_X8_keep 18 = .ok (.aload_n 0, 1) := by decide +kernel
theorem d_X8_keep_19 : decode b_X8_keep 19 = .ok (.getfield 9, 3) := by decide +kernel
theorem d_X8_keep_22 : decode b_X8_keep 22 = .ok (.invokestatic 112, 3) := by decide +kernel
theorem d_X8_keep_25 : decode b_X8_keep 25 = .ok (.aload_n 0, 1) := by decide +kernel
theorem d_X8_keep_26 : decode b_X8_keep 26 = .ok (.getfield 58, 3) := by decide +kernel
theorem d_X8_keep_29 : decode b_X8_keep 29 = .ok (.aload_n 0, 1) := by decide +kernel
theorem d_X8_keep_30 : decode b_X8_keep 30 = .ok (.getfield 52, 3) := by decide +kernel
theorem d_X8_keep_33 : decode b_X8_keep 33 = .ok (.aload_n 0, 1) := by decide +kernel
theorem d_X8_keep_34 : decode b_X8_keep 34 = .ok (.getfield 39, 3) := by decide +kernel
theorem d_X8_keep_37 : decode b_X8_keep 37 = .ok (.invokestatic 112, 3) := by decide +kernel
theorem d_X8_keep_40 : decode b_X8_keep 40 = .ok (.aload_n 0, 1) := by decide +kernel
theorem d_X8_keep_41 : decode b_X8_keep 41 = .ok (.getfield 61, 3) := by decide +kernel
theorem d_X8_keep_44 : decode b_X8_keep 44 = .ok (.aload_n 0, 1) := by decide +kernel
theorem d_X8_keep_45 : decode b_X8_keep 45 = .ok (.getfield 52, 3) := by decide +kernel
theorem d_X8_keep_48 : decode b_X8_keep 48 = .ok (.aload_n 0, 1) := by decide +kernel
theorem d_X8_keep_49 : decode b_X8_keep 49 = .ok (.getfield 67, 3) := by decide +kernel
theorem d_X8_keep_52 : decode b_X8_keep 52 = .ok (.getfield 122, 3) := by decide +kernel
theorem d_X8_keep_55 : decode b_X8_keep 55 = .ok (.invokestatic 112, 3) := by decide +kernel
theorem d_X8_keep_58 : decode b_X8_keep 58 = .ok (.aload_n 0, 1) := by decide +kernel
theorem d_X8_keep_59 : decode b_X8_keep 59 = .ok (.getfield 64, 3) := by decide +kernel
theorem d_X8_keep_62 : decode b_X8_keep 62 = .ok (.aload_n 0, 1) := by decide +kernel
theorem d_X8_keep_63 : decode b_X8_keep 63 = .ok (.getfield 52, 3) := by decide +kernel
theorem d_X8_keep_66 : decode b_X8_keep 66 = .ok (.iload_n 1, 1) := by decide +kernel
theorem d_X8_keep_67 : decode b_X8_keep 67 = .ok (.invokestatic 112, 3) := by decide +kernel
theorem d_X8_keep_70 : decode b_X8_keep 70 = .ok (.aload_n 0, 1) := by decide +kernel
theorem d_X8_keep_71 : decode b_X8_keep 71 = .ok (.getfield 52, 3) := by decide +kernel
theorem d_X8_keep_74 : decode b_X8_keep 74 = .ok (.ireturn, 1) := by decide +kernel
theorem d_X12_place_0 : decode b_X12_place 0 = .ok (.aload_n 0, 1) := by decide +kernel
theorem d_X12_place_1 : decode b_X12_place 1 = .ok (.getfield 20, 3) := by decide +kernel
theorem d_X12_place_4 : decode b_X12_place 4 = .ok (.ireturn, 1) := by decide +kernel
theorem d_X12_objects_0 : decode b_X12_objects 0 = .ok (.aload_n 0, 1) := by decide +kernel
theorem d_X12_objects_1 : decode b_X12_objects 1 = .ok (.getfield 53, 3) := by decide +kernel
theorem d_X12_objects_4 : decode b_X12_objects 4 = .ok (.getfield 123, 3) := by decide +kernel
theorem d_X12_objects_7 : decode b_X12_objects 7 = .ok (.ireturn, 1) := by decide +kernel
theorem d_X12_count_0 : decode b_X12_count 0 = .ok (.aload_n 0, 1) := by decide +kernel
theorem d_X12_count_1 : decode b_X12_count 1 = .ok (.getfield 53, 3) := by decide +kernel
theorem d_X12_count_4 : decode b_X12_count 4 = .ok (.iload_n 1, 1) := by decide +kernel
theorem d_X12_count_5 : decode b_X12_count 5 = .ok (.invokevirtual 163, 3) := by decide +kernel
theorem d_X12_count_8 : decode b_X12_count 8 = .ok (.ifCond .eq 12, 3) := by decide +kernel
theorem d_X12_count_11 : decode b_X12_count 11 = .ok (.iload_n 2, 1) := by decide +kernel
theorem d_X12_count_12 : decode b_X12_count 12 = .ok (.ifCond .lt 8, 3) := by decide +kernel
theorem d_X12_count_15 : decode b_X12_count 15 = .ok (.iload_n 2, 1) := by decide +kernel
theorem d_X12_count_16 : decode b_X12_count 16 = .ok (.iconst 1, 1) := by decide +kernel
theorem d_X12_count_17 : decode b_X12_count 17 = .ok (.if_icmp .le 5, 3) := by decide +kernel
theorem d_X12_count_20 : decode b_X12_count 20 = .ok (.iconst (-1), 1) := by decide +kernel
theorem d_X12_count_21 : decode b_X12_count 21 = .ok (.ireturn, 1) := by decide +kernel
theorem d_X12_count_22 : decode b_X12_count 22 = .ok (.iload_n 2, 1) := by decide +kernel
theorem d_X12_count_23 : decode b_X12_count 23 = .ok (.ifCond .ne 14, 3) := by decide +kernel
theorem d_X12_count_26 : decode b_X12_count 26 = .ok (.aload_n 0, 1) := by decide +kernel
theorem d_X12_count_27 : decode b_X12_count 27 = .ok (.getfield 53, 3) := by decide +kernel
theorem d_X12_count_30 : decode b_X12_count 30 = .ok (.iload_n 1, 1) := by decide +kernel
theorem d_X12_count_31 : decode b_X12_count 31 = .ok (.invokevirtual 167, 3) := by decide +kernel
theorem d_X12_count_34 : decode b_X12_count 34 = .ok (.goto 14, 3) := by decide +kernel
theorem d_X12_count_37 : decode b_X12_count 37 = .ok (.aload_n 0, 1) := by decide +kernel
theorem d_X12_count_38 : decode b_X12_count 38 = .ok (.getfield 53, 3) := by decide +kernel
theorem d_X12_count_41 : decode b_X12_count 41 = .ok (.getfield 170, 3) := by decide +kernel
theorem d_X12_count_44 : decode b_X12_count 44 = .ok (.iload_n 1, 1) := by decide +kernel
theorem d_X12_count_45 : decode b_X12_count 45 = .ok (.invokestatic 140, 3) := by decide +kernel
theorem d_X12_count_48 : decode b_X12_count 48 = .ok (.ireturn, 1) := by decide +kernel
theorem d_X8_has_0 : decode b_X8_has 0 = .ok (.iload_n 1, 1) := by decide +kernel
theorem d_X8_has_1 : decode b_X8_has 1 = .ok (.iconst 1, 1) := by decide +kernel
theorem d_X8_has_2 : decode b_X8_has 2 = .ok (.if_icmp .lt 15, 3) := by decide +kernel
theorem d_X8_has_5 : decode b_X8_has 5 = .ok (.iload_n 1, 1) := by decide +kernel
theorem d_X8_has_6 : decode b_X8_has 6 = .ok (.aload_n 0, 1) := by decide +kernel
theorem d_X8_has_7 : decode b_X8_has 7 = .ok (.getfield 52, 3) := by decide +kernel
theorem d_X8_has_10 : decode b_X8_has 10 = .ok (.if_icmp .gt 7, 3) := by decide +kernel
theorem d_X8_has_13 : decode b_X8_has 13 = .ok (.iconst 1, 1) := by decide +kernel
theorem d_X8_has_14 : decode b_X8_has 14 = .ok (.goto 4, 3) := by decide +kernel
theorem d_X8_has_17 : decode b_X8_has 17 = .ok (.iconst 0, 1) := by decide +kernel
theorem d_X8_has_18 : decode b_X8_has 18 = .ok (.ireturn, 1) := by decide +kernel
theorem d_X8_symbolsOf_0 : decode b_X8_symbolsOf 0 = .ok (.iconst 0, 1) := by decide +kernel
theorem d_X8_symbolsOf_1 : decode b_X8_symbolsOf 1 = .ok (.istore_n 2, 1) := by decide +kernel
theorem d_X8_symbolsOf_2 : decode b_X8_symbolsOf 2 = .ok (.aload_n 0, 1) := by decide +kernel
theorem d_X8_symbolsOf_3 : decode b_X8_symbolsOf 3 = .ok (.iload_n 1, 1) := by decide +kernel
theorem d_X8_symbolsOf_4 : decode b_X8_symbolsOf 4 = .ok (.invokevirtual 92, 3) := by decide +kernel
theorem d_X8_symbolsOf_7 : decode b_X8_symbolsOf 7 = .ok (.istore_n 3, 1) := by decide +kernel
theorem d_X8_symbolsOf_8 : decode b_X8_symbolsOf 8 = .ok (.iload_n 3, 1) := by decide +kernel
theorem d_X8_symbolsOf_9 : decode b_X8_symbolsOf 9 = .ok (.aload_n 0, 1) := by decide +kernel
theorem d_X8_symbolsOf_10 : decode b_X8_symbolsOf 10 = .ok (.getfield 55, 3) := by decide +kernel
theorem d_X8_symbolsOf_13 : decode b_X8_symbolsOf 13 = .ok (.iload_n 1, 1) := by decide +kernel
theorem d_X8_symbolsOf_14 : decode b_X8_symbolsOf 14 = .ok (.invokestatic 88, 3) := by decide +kernel
theorem d_X8_symbolsOf_17 : decode b_X8_symbolsOf 17 = .ok (.if_icmp .ge 26, 3) := by decide +kernel
theorem d_X8_symbolsOf_20 : decode b_X8_symbolsOf 20 = .ok (.iload_n 2, 1) := by decide +kernel
theorem d_X8_symbolsOf_21 : decode b_X8_symbolsOf 21 = .ok (.aload_n 0, 1) := by decide +kernel
theorem d_X8_symbolsOf_22 : decode b_X8_symbolsOf 22 = .ok (.iload_n 3, 1) := by decide +kernel
theorem d_X8_symbolsOf_23 : decode b_X8_symbolsOf 23 = .ok (.iconst 2, 1) := by decide +kernel
theorem d_X8_symbolsOf_24 : decode b_X8_symbolsOf 24 = .ok (.invokevirtual 95, 3) := by decide +kernel
theorem d_X8_symbolsOf_27 : decode b_X8_symbolsOf 27 = .ok (.ifCond .eq 7, 3) := by decide +kernel
theorem d_X8_symbolsOf_30 : decode b_X8_symbolsOf 30 = .ok (.iconst 0, 1) := by decide +kernel
theorem d_X8_symbolsOf_31 : decode b_X8_symbolsOf 31 = .ok (.goto 4, 3) := by decide +kernel
theorem d_X8_symbolsOf_34 : decode b_X8_symbolsOf 34 = .ok (.iconst 1, 1) := by decide +kernel
theorem d_X8_symbolsOf_35 : decode b_X8_symbolsOf 35 = .ok (.iadd, 1) := by decide +kernel
theorem d_X8_symbolsOf_36 : decode b_X8_symbolsOf 36 = .ok (.istore_n 2, 1) := by decide +kernel
theorem d_X8_symbolsOf_37 : decode b_X8_symbolsOf 37 = .ok (.iinc 3 1, 3) := by decide +kernel
theorem d_X8_symbolsOf_40 : decode b_X8_symbolsOf 40 = .ok (.goto (-32), 3) := by decide +kernel
theorem d_X8_symbolsOf_43 : decode b_X8_symbolsOf 43 = .ok (.iload_n 2, 1) := by decide +kernel
theorem d_X8_symbolsOf_44 : decode b_X8_symbolsOf 44 = .ok (.ireturn, 1) := by decide +kernel
theorem d_X8_firstOf_0 : decode b_X8_firstOf 0 = .ok (.iload_n 1, 1) := by decide +kernel
theorem d_X8_firstOf_1 : decode b_X8_firstOf 1 = .ok (.ifCond .gt 7, 3) := by decide +kernel
theorem d_X8_firstOf_4 : decode b_X8_firstOf 4 = .ok (.iconst 0, 1) := by decide +kernel
theorem d_X8_firstOf_5 : decode b_X8_firstOf 5 = .ok (.goto 13, 3) := by decide +kernel
theorem d_X8_firstOf_8 : decode b_X8_firstOf 8 = .ok (.aload_n 0, 1) := by decide +kernel
theorem d_X8_firstOf_9 : decode b_X8_firstOf 9 = .ok (.getfield 55, 3) := by decide +kernel
theorem d_X8_firstOf_12 : decode b_X8_firstOf 12 = .ok (.iload_n 1, 1) := by decide +kernel
theorem d_X8_firstOf_13 : decode b_X8_firstOf 13 = .ok (.iconst 1, 1) := by decide +kernel
theorem d_X8_firstOf_14 : decode b_X8_firstOf 14 = .ok (.isub, 1) := by decide +kernel
theorem d_X8_firstOf_15 : decode b_X8_firstOf 15 = .ok (.invokestatic 88, 3) := by decide +kernel
theorem d_X8_firstOf_18 : decode b_X8_firstOf 18 = .ok (.ireturn, 1) := by decide +kernel
theorem d_X12_name_0 : decode b_X12_name 0 = .ok (.aload_n 0, 1) := by decide +kernel
theorem d_X12_name_1 : decode b_X12_name 1 = .ok (.getfield 53, 3) := by decide +kernel
theorem d_X12_name_4 : decode b_X12_name 4 = .ok (.aload_n 0, 1) := by decide +kernel
theorem d_X12_name_5 : decode b_X12_name 5 = .ok (.getfield 53, 3) := by decide +kernel
theorem d_X12_name_8 : decode b_X12_name 8 = .ok (.iload_n 1, 1) := by decide +kernel
theorem d_X12_name_9 : decode b_X12_name 9 = .ok (.iload_n 2, 1) := by decide +kernel
theorem d_X12_name_10 : decode b_X12_name 10 = .ok (.invokevirtual 173, 3) := by decide +kernel
theorem d_X12_name_13 : decode b_X12_name 13 = .ok (.iload_n 3, 1) := by decide +kernel
theorem d_X12_name_14 : decode b_X12_name 14 = .ok (.invokevirtual 177, 3) := by decide +kernel
theorem d_X12_name_17 : decode b_X12_name 17 = .ok (.ireturn, 1) := by decide +kernel
theorem d_X8_symbolAt_0 : decode b_X8_symbolAt 0 = .ok (.aload_n 0, 1) := by decide +kernel
theorem d_X8_symbolAt_1 : decode b_X8_symbolAt 1 = .ok (.iload_n 1, 1) := by decide +kernel
theorem d_X8_symbolAt_2 : decode b_X8_symbolAt 2 = .ok (.invokevirtual 99, 3) := by decide +kernel
theorem d_X8_symbolAt_5 : decode b_X8_symbolAt 5 = .ok (.ifCond .eq 11, 3) := by decide +kernel
theorem d_X8_symbolAt_8 : decode b_X8_symbolAt 8 = .ok (.iload_n 2, 1) := by decide +kernel
theorem d_X8_symbolAt_9 : decode b_X8_symbolAt 9 = .ok (.ifCond .lt 7, 3) := by decide +kernel
theorem d_X8_symbolAt_12 : decode b_X8_symbolAt 12 = .ok (.iload_n 2, 1) := by decide +kernel
theorem d_X8_symbolAt_13 : decode b_X8_symbolAt 13 = .ok (.goto 4, 3) := by decide +kernel
theorem d_X8_symbolAt_16 : decode b_X8_symbolAt 16 = .ok (.iconst (-1), 1) := by decide +kernel
theorem d_X8_symbolAt_17 : decode b_X8_symbolAt 17 = .ok (.istore_n 3, 1) := by decide +kernel
theorem d_X8_symbolAt_18 : decode b_X8_symbolAt 18 = .ok (.aload_n 0, 1) := by decide +kernel
theorem d_X8_symbolAt_19 : decode b_X8_symbolAt 19 = .ok (.iload_n 1, 1) := by decide +kernel
theorem d_X8_symbolAt_20 : decode b_X8_symbolAt 20 = .ok (.invokevirtual 92, 3) := by decide +kernel
theorem d_X8_symbolAt_23 : decode b_X8_symbolAt 23 = .ok (.istore 4, 2) := by decide +kernel
theorem d_X8_symbolAt_25 : decode b_X8_symbolAt 25 = .ok (.iload_n 3, 1) := by decide +kernel
theorem d_X8_symbolAt_26 : decode b_X8_symbolAt 26 = .ok (.ifCond .lt 42, 3) := by decide +kernel
theorem d_X8_symbolAt_29 : decode b_X8_symbolAt 29 = .ok (.iload 4, 2) := by decide +kernel
theorem d_X8_symbolAt_31 : decode b_X8_symbolAt 31 = .ok (.aload_n 0, 1) := by decide +kernel
theorem d_X8_symbolAt_32 : decode b_X8_symbolAt 32 = .ok (.getfield 55, 3) := by decide +kernel
theorem d_X8_symbolAt_35 : decode b_X8_symbolAt 35 = .ok (.iload_n 1, 1) := by decide +kernel
theorem d_X8_symbolAt_36 : decode b_X8_symbolAt 36 = .ok (.invokestatic 88, 3) := by decide +kernel
theorem d_X8_symbolAt_39 : decode b_X8_symbolAt 39 = .ok (.if_icmp .ge 29, 3) := by decide +kernel
theorem d_X8_symbolAt_42 : decode b_X8_symbolAt 42 = .ok (.aload_n 0, 1) := by decide +kernel
theorem d_X8_symbolAt_43 : decode b_X8_symbolAt 43 = .ok (.iload 4, 2) := by decide +kernel
theorem d_X8_symbolAt_45 : decode b_X8_symbolAt 45 = .ok (.iconst 2, 1) := by decide +kernel
theorem d_X8_symbolAt_46 : decode b_X8_symbolAt 46 = .ok (.invokevirtual 95, 3) := by decide +kernel
theorem d_X8_symbolAt_49 : decode b_X8_symbolAt 49 = .ok (.ifCond .ne 13, 3) := by decide +kernel
theorem d_X8_symbolAt_52 : decode b_X8_symbolAt 52 = .ok (.iload_n 3, 1) := by decide +kernel
theorem d_X8_symbolAt_53 : decode b_X8_symbolAt 53 = .ok (.ifCond .ne 6, 3) := by decide +kernel
theorem d_X8_symbolAt_56 : decode b_X8_symbolAt 56 = .ok (.iload 4, 2) := by decide +kernel
theorem d_X8_symbolAt_58 : decode b_X8_symbolAt 58 = .ok (.ireturn, 1) := by decide +kernel
theorem d_X8_symbolAt_59 : decode b_X8_symbolAt 59 = .ok (.iinc 3 (-1), 3) := by decide +kernel
theorem d_X8_symbolAt_62 : decode b_X8_symbolAt 62 = .ok (.iinc 4 1, 3) := by decide +kernel
theorem d_X8_symbolAt_65 : decode b_X8_symbolAt 65 = .ok (.goto (-40), 3) := by decide +kernel
theorem d_X8_symbolAt_68 : decode b_X8_symbolAt 68 = .ok (.iconst (-1), 1) := by decide +kernel
theorem d_X8_symbolAt_69 : decode b_X8_symbolAt 69 = .ok (.ireturn, 1) := by decide +kernel
theorem d_X8_nameByte_0 : decode b_X8_nameByte 0 = .ok (.iload_n 1, 1) := by decide +kernel
theorem d_X8_nameByte_1 : decode b_X8_nameByte 1 = .ok (.ifCond .ge 7, 3) := by decide +kernel
theorem d_X8_nameByte_4 : decode b_X8_nameByte 4 = .ok (.iconst 0, 1) := by decide +kernel
theorem d_X8_nameByte_5 : decode b_X8_nameByte 5 = .ok (.goto 17, 3) := by decide +kernel
theorem d_X8_nameByte_8 : decode b_X8_nameByte 8 = .ok (.aload_n 0, 1) := by decide +kernel
theorem d_X8_nameByte_9 : decode b_X8_nameByte 9 = .ok (.getfield 28, 3) := by decide +kernel
theorem d_X8_nameByte_12 : decode b_X8_nameByte 12 = .ok (.iload_n 1, 1) := by decide +kernel
theorem d_X8_nameByte_13 : decode b_X8_nameByte 13 = .ok (.invokestatic 88, 3) := by decide +kernel
theorem d_X8_nameByte_16 : decode b_X8_nameByte 16 = .ok (.aload_n 0, 1) := by decide +kernel
theorem d_X8_nameByte_17 : decode b_X8_nameByte 17 = .ok (.iload_n 1, 1) := by decide +kernel
theorem d_X8_nameByte_18 : decode b_X8_nameByte 18 = .ok (.invokevirtual 103, 3) := by decide +kernel
theorem d_X8_nameByte_21 : decode b_X8_nameByte 21 = .ok (.isub, 1) := by decide +kernel
theorem d_X8_nameByte_22 : decode b_X8_nameByte 22 = .ok (.istore_n 3, 1) := by decide +kernel
theorem d_X8_nameByte_23 : decode b_X8_nameByte 23 = .ok (.aload_n 0, 1) := by decide +kernel
theorem d_X8_nameByte_24 : decode b_X8_nameByte 24 = .ok (.iload_n 1, 1) := by decide +kernel
theorem d_X8_nameByte_25 : decode b_X8_nameByte 25 = .ok (.invokevirtual 103, 3) := by decide +kernel
theorem d_X8_nameByte_28 : decode b_X8_nameByte 28 = .ok (.iload_n 2, 1) := by decide +kernel
theorem d_X8_nameByte_29 : decode b_X8_nameByte 29 = .ok (.iadd, 1) := by decide +kernel
theorem d_X8_nameByte_30 : decode b_X8_nameByte 30 = .ok (.istore 4, 2) := by decide +kernel
theorem d_X8_nameByte_32 : decode b_X8_nameByte 32 = .ok (.iload_n 2, 1) := by decide +kernel
theorem d_X8_nameByte_33 : decode b_X8_nameByte 33 = .ok (.ifCond .lt 32, 3) := by decide +kernel
theorem d_X8_nameByte_36 : decode b_X8_nameByte 36 = .ok (.iload_n 2, 1) := by decide +kernel
theorem d_X8_nameByte_37 : decode b_X8_nameByte 37 = .ok (.iload_n 3, 1) := by decide +kernel
theorem d_X8_nameByte_38 : decode b_X8_nameByte 38 = .ok (.if_icmp .ge 27, 3) := by decide +kernel
theorem d_X8_nameByte_41 : decode b_X8_nameByte 41 = .ok (.iload 4, 2) := by decide +kernel
theorem d_X8_nameByte_43 : decode b_X8_nameByte 43 = .ok (.aload_n 0, 1) := by decide +kernel
theorem d_X8_nameByte_44 : decode b_X8_nameByte 44 = .ok (.getfield 35, 3) := by decide +kernel
theorem d_X8_nameByte_47 : decode b_X8_nameByte 47 = .ok (.arraylength, 1) := by decide +kernel
theorem d_X8_nameByte_48 : decode b_X8_nameByte 48 = .ok (.if_icmp .ge 17, 3) := by decide +kernel
theorem d_X8_nameByte_51 : decode b_X8_nameByte 51 = .ok (.aload_n 0, 1) := by decide +kernel
theorem d_X8_nameByte_52 : decode b_X8_nameByte 52 = .ok (.getfield 35, 3) := by decide +kernel
theorem d_X8_nameByte_55 : decode b_X8_nameByte 55 = .ok (.iload 4, 2) := by decide +kernel
theorem d_X8_nameByte_57 : decode b_X8_nameByte 57 = .ok (.baload, 1) := by decide +kernel
theorem d_X8_nameByte_58 : decode b_X8_nameByte 58 = .ok (.sipush 255, 3) := by decide +kernel
theorem d_X8_nameByte_61 : decode b_X8_nameByte 61 = .ok (.iand, 1) := by decide +kernel
theorem d_X8_nameByte_62 : decode b_X8_nameByte 62 = .ok (.goto 4, 3) := by decide +kernel
theorem d_X8_nameByte_65 : decode b_X8_nameByte 65 = .ok (.iconst (-1), 1) := by decide +kernel
theorem d_X8_nameByte_66 : decode b_X8_nameByte 66 = .ok (.ireturn, 1) := by decide +kernel
theorem d_X12_symbol_0 : decode b_X12_symbol 0 = .ok (.aload_n 0, 1) := by decide +kernel
theorem d_X12_symbol_1 : decode b_X12_symbol 1 = .ok (.getfield 53, 3) := by decide +kernel
theorem d_X12_symbol_4 : decode b_X12_symbol 4 = .ok (.iload_n 1, 1) := by decide +kernel
theorem d_X12_symbol_5 : decode b_X12_symbol 5 = .ok (.iload_n 2, 1) := by decide +kernel
theorem d_X12_symbol_6 : decode b_X12_symbol 6 = .ok (.invokevirtual 173, 3) := by decide +kernel
theorem d_X12_symbol_9 : decode b_X12_symbol 9 = .ok (.istore_n 3, 1) := by decide +kernel
theorem d_X12_symbol_10 : decode b_X12_symbol 10 = .ok (.iload_n 3, 1) := by decide +kernel
theorem d_X12_symbol_11 : decode b_X12_symbol 11 = .ok (.ifCond .ge 5, 3) := by decide +kernel
theorem d_X12_symbol_14 : decode b_X12_symbol 14 = .ok (.iconst (-1), 1) := by decide +kernel
theorem d_X12_symbol_15 : decode b_X12_symbol 15 = .ok (.ireturn, 1) := by decide +kernel
theorem d_X12_symbol_16 : decode b_X12_symbol 16 = .ok (.aload_n 0, 1) := by decide +kernel
theorem d_X12_symbol_17 : decode b_X12_symbol 17 = .ok (.getfield 53, 3) := by decide +kernel
theorem d_X12_symbol_20 : decode b_X12_symbol 20 = .ok (.iload_n 3, 1) := by decide +kernel
theorem d_X12_symbol_21 : decode b_X12_symbol 21 = .ok (.iconst 1, 1) := by decide +kernel
theorem d_X12_symbol_22 : decode b_X12_symbol 22 = .ok (.invokevirtual 180, 3) := by decide +kernel
theorem d_X12_symbol_25 : decode b_X12_symbol 25 = .ok (.ifCond .eq 7, 3) := by decide +kernel
theorem d_X12_symbol_28 : decode b_X12_symbol 28 = .ok (.iconst 2, 1) := by decide +kernel
theorem d_X12_symbol_29 : decode b_X12_symbol 29 = .ok (.goto 4, 3) := by decide +kernel
theorem d_X12_symbol_32 : decode b_X12_symbol 32 = .ok (.iconst 1, 1) := by decide +kernel
theorem d_X12_symbol_33 : decode b_X12_symbol 33 = .ok (.istore 4, 2) := by decide +kernel
theorem d_X12_symbol_35 : decode b_X12_symbol 35 = .ok (.aload_n 0, 1) := by decide +kernel
theorem d_X12_symbol_36 : decode b_X12_symbol 36 = .ok (.getfield 53, 3) := by decide +kernel
theorem d_X12_symbol_39 : decode b_X12_symbol 39 = .ok (.iload_n 3, 1) := by decide +kernel
theorem d_X12_symbol_40 : decode b_X12_symbol 40 = .ok (.iconst 4, 1) := by decide +kernel
theorem d_X12_symbol_41 : decode b_X12_symbol 41 = .ok (.invokevirtual 180, 3) := by decide +kernel
theorem d_X12_symbol_44 : decode b_X12_symbol 44 = .ok (.ifCond .eq 8, 3) := by decide +kernel
