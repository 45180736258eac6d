theorem d_X7_init_54 : decode b_X7_init 54 = .ok (.putfield 30, 3) := by decide +kernel
theorem d_X7_init_57 : decode b_X7_init 57 = .ok (.aload_n 0, 1) := by decide +kernel
theorem d_X7_init_58 : decode b_X7_init 58 = .ok (.aload_n 2, 1) := by decide +kernel
theorem d_X7_init_59 : decode b_X7_init 59 = .ok (.putfield 34, 3) := by decide +kernel
theorem d_X7_init_62 : decode b_X7_init 62 = .ok (.aload_n 0, 1) := by decide +kernel
theorem d_X7_init_63 : decode b_X7_init 63 = .ok (.aload_n 3, 1) := by decide +kernel
theorem d_X7_init_64 : decode b_X7_init 64 = .ok (.getfield 38, 3) := by decide +kernel
theorem d_X7_init_67 : decode b_X7_init 67 = .ok (.putfield 44, 3) := by decide +kernel
theorem d_X7_init_70 : decode b_X7_init 70 = .ok (.aload_n 0, 1) := by decide +kernel
theorem d_X7_init_71 : decode b_X7_init 71 = .ok (.aload_n 3, 1) := by decide +kernel
theorem d_X7_init_72 : decode b_X7_init 72 = .ok (.getfield 45, 3) := by decide +kernel
theorem d_X7_init_75 : decode b_X7_init 75 = .ok (.putfield 49, 3) := by decide +kernel
theorem d_X7_init_78 : decode b_X7_init 78 = .ok (.aload_n 0, 1) := by decide +kernel
theorem d_X7_init_79 : decode b_X7_init 79 = .ok (.aload_n 3, 1) := by decide +kernel
theorem d_X7_init_80 : decode b_X7_init 80 = .ok (.putfield 50, 3) := by decide +kernel
theorem d_X7_init_83 : decode b_X7_init 83 = .ok (.return_, 1) := by decide +kernel
theorem d_X7_begin_0 : decode b_X7_begin 0 = .ok (.aload_n 0, 1) := by decide +kernel
theorem d_X7_begin_1 : decode b_X7_begin 1 = .ok (.getfield 11, 3) := by decide +kernel
theorem d_X7_begin_4 : decode b_X7_begin 4 = .ok (.aload_n 0, 1) := by decide +kernel
theorem d_X7_begin_5 : decode b_X7_begin 5 = .ok (.getfield 68, 3) := by decide +kernel
theorem d_X7_begin_8 : decode b_X7_begin 8 = .ok (.iload_n 1, 1) := by decide +kernel
theorem d_X7_begin_9 : decode b_X7_begin 9 = .ok (.ifCond .eq 7, 3) := by decide +kernel
theorem d_X7_begin_12 : decode b_X7_begin 12 = .ok (.iconst 1, 1) := by decide +kernel
theorem d_X7_begin_13 : decode b_X7_begin 13 = .ok (.goto 4, 3) := by decide +kernel
theorem d_X7_begin_16 : decode b_X7_begin 16 = .ok (.iconst 0, 1) := by decide +kernel
theorem d_X7_begin_17 : decode b_X7_begin 17 = .ok (.invokestatic 166, 3) := by decide +kernel
theorem d_X7_begin_20 : decode b_X7_begin 20 = .ok (.aload_n 0, 1) := by decide +kernel
theorem d_X7_begin_21 : decode b_X7_begin 21 = .ok (.getfield 15, 3) := by decide +kernel
theorem d_X7_begin_24 : decode b_X7_begin 24 = .ok (.aload_n 0, 1) := by decide +kernel
theorem d_X7_begin_25 : decode b_X7_begin 25 = .ok (.getfield 68, 3) := by decide +kernel
theorem d_X7_begin_28 : decode b_X7_begin 28 = .ok (.aload_n 0, 1) := by decide +kernel
theorem d_X7_begin_29 : decode b_X7_begin 29 = .ok (.getfield 44, 3) := by decide +kernel
theorem d_X7_begin_32 : decode b_X7_begin 32 = .ok (.getfield 109, 3) := by decide +kernel
theorem d_X7_begin_35 : decode b_X7_begin 35 = .ok (.invokestatic 166, 3) := by decide +kernel
theorem d_X7_begin_38 : decode b_X7_begin 38 = .ok (.aload_n 0, 1) := by decide +kernel
theorem d_X7_begin_39 : decode b_X7_begin 39 = .ok (.getfield 18, 3) := by decide +kernel
theorem d_X7_begin_42 : decode b_X7_begin 42 = .ok (.aload_n 0, 1) := by decide +kernel
theorem d_X7_begin_43 : decode b_X7_begin 43 = .ok (.getfield 68, 3) := by decide +kernel
theorem d_X7_begin_46 : decode b_X7_begin 46 = .ok (.iconst (-1), 1) := by decide +kernel
theorem d_X7_begin_47 : decode b_X7_begin 47 = .ok (.invokestatic 166, 3) := by decide +kernel
theorem d_X7_begin_50 : decode b_X7_begin 50 = .ok (.aload_n 0, 1) := by decide +kernel
theorem d_X7_begin_51 : decode b_X7_begin 51 = .ok (.getfield 21, 3) := by decide +kernel
theorem d_X7_begin_54 : decode b_X7_begin 54 = .ok (.aload_n 0, 1) := by decide +kernel
theorem d_X7_begin_55 : decode b_X7_begin 55 = .ok (.getfield 68, 3) := by decide +kernel
theorem d_X7_begin_58 : decode b_X7_begin 58 = .ok (.iconst (-1), 1) := by decide +kernel
theorem d_X7_begin_59 : decode b_X7_begin 59 = .ok (.invokestatic 166, 3) := by decide +kernel
theorem d_X7_begin_62 : decode b_X7_begin 62 = .ok (.aload_n 0, 1) := by decide +kernel
theorem d_X7_begin_63 : decode b_X7_begin 63 = .ok (.dup, 1) := by decide +kernel
theorem d_X7_begin_64 : decode b_X7_begin 64 = .ok (.getfield 68, 3) := by decide +kernel
theorem d_X7_begin_67 : decode b_X7_begin 67 = .ok (.iconst 1, 1) := by decide +kernel
theorem d_X7_begin_68 : decode b_X7_begin 68 = .ok (.iadd, 1) := by decide +kernel
theorem d_X7_begin_69 : decode b_X7_begin 69 = .ok (.putfield 68, 3) := by decide +kernel
theorem d_X7_begin_72 : decode b_X7_begin 72 = .ok (.return_, 1) := by decide +kernel
theorem d_X7_condition_0 : decode b_X7_condition 0 = .ok (.aload_n 0, 1) := by decide +kernel
theorem d_X7_condition_1 : decode b_X7_condition 1 = .ok (.getfield 49, 3) := by decide +kernel
theorem d_X7_condition_4 : decode b_X7_condition 4 = .ok (.invokevirtual 138, 3) := by decide +kernel
theorem d_X7_condition_7 : decode b_X7_condition 7 = .ok (.astore_n 2, 1) := by decide +kernel
theorem d_X7_condition_8 : decode b_X7_condition 8 = .ok (.aload_n 2, 1) := by decide +kernel
theorem d_X7_condition_9 : decode b_X7_condition 9 = .ok (.getfield 173, 3) := by decide +kernel
theorem d_X7_condition_12 : decode b_X7_condition 12 = .ok (.iconst (-1), 1) := by decide +kernel
theorem d_X7_condition_13 : decode b_X7_condition 13 = .ok (.if_icmp .ne 12, 3) := by decide +kernel
theorem d_X7_condition_16 : decode b_X7_condition 16 = .ok (.aload_n 0, 1) := by decide +kernel
theorem d_X7_condition_17 : decode b_X7_condition 17 = .ok (.getfield 34, 3) := by decide +kernel
theorem d_X7_condition_20 : decode b_X7_condition 20 = .ok (.iconst 2, 1) := by decide +kernel
theorem d_X7_condition_21 : decode b_X7_condition 21 = .ok (.iload_n 1, 1) := by decide +kernel
theorem d_X7_condition_22 : decode b_X7_condition 22 = .ok (.invokevirtual 176, 3) := by decide +kernel
theorem d_X7_condition_25 : decode b_X7_condition 25 = .ok (.aload_n 2, 1) := by decide +kernel
theorem d_X7_condition_26 : decode b_X7_condition 26 = .ok (.areturn, 1) := by decide +kernel
theorem d_X7_conditional_0 : decode b_X7_conditional 0 = .ok (.iload_n 1, 1) := by decide +kernel
theorem d_X7_conditional_1 : decode b_X7_conditional 1 = .ok (.bipush 23, 2) := by decide +kernel
theorem d_X7_conditional_3 : decode b_X7_conditional 3 = .ok (.if_icmp .ne 22, 3) := by decide +kernel
theorem d_X7_conditional_6 : decode b_X7_conditional 6 = .ok (.aload_n 0, 1) := by decide +kernel
theorem d_X7_conditional_7 : decode b_X7_conditional 7 = .ok (.iload_n 2, 1) := by decide +kernel
theorem d_X7_conditional_8 : decode b_X7_conditional 8 = .ok (.invokevirtual 192, 3) := by decide +kernel
theorem d_X7_conditional_11 : decode b_X7_conditional 11 = .ok (.astore_n 3, 1) := by decide +kernel
theorem d_X7_conditional_12 : decode b_X7_conditional 12 = .ok (.aload_n 0, 1) := by decide +kernel
theorem d_X7_conditional_13 : decode b_X7_conditional 13 = .ok (.iconst 0, 1) := by decide +kernel
theorem d_X7_conditional_14 : decode b_X7_conditional 14 = .ok (.invokevirtual 196, 3) := by decide +kernel
theorem d_X7_conditional_17 : decode b_X7_conditional 17 = .ok (.aload_n 0, 1) := by decide +kernel
theorem d_X7_conditional_18 : decode b_X7_conditional 18 = .ok (.aload_n 3, 1) := by decide +kernel
theorem d_X7_conditional_19 : decode b_X7_conditional 19 = .ok (.invokevirtual 199, 3) := by decide +kernel
theorem d_X7_conditional_22 : decode b_X7_conditional 22 = .ok (.goto 70, 3) := by decide +kernel
theorem d_X7_conditional_25 : decode b_X7_conditional 25 = .ok (.iload_n 1, 1) := by decide +kernel
theorem d_X7_conditional_26 : decode b_X7_conditional 26 = .ok (.bipush 24, 2) := by decide +kernel
theorem d_X7_conditional_28 : decode b_X7_conditional 28 = .ok (.if_icmp .ne 60, 3) := by decide +kernel
theorem d_X7_conditional_31 : decode b_X7_conditional 31 = .ok (.aload_n 0, 1) := by decide +kernel
theorem d_X7_conditional_32 : decode b_X7_conditional 32 = .ok (.getfield 44, 3) := by decide +kernel
theorem d_X7_conditional_35 : decode b_X7_conditional 35 = .ok (.bipush 26, 2) := by decide +kernel
theorem d_X7_conditional_37 : decode b_X7_conditional 37 = .ok (.iconst (-1), 1) := by decide +kernel
theorem d_X7_conditional_38 : decode b_X7_conditional 38 = .ok (.iconst 0, 1) := by decide +kernel
theorem d_X7_conditional_39 : decode b_X7_conditional 39 = .ok (.iconst 0, 1) := by decide +kernel
theorem d_X7_conditional_40 : decode b_X7_conditional 40 = .ok (.invokevirtual 141, 3) := by decide +kernel
theorem d_X7_conditional_43 : decode b_X7_conditional 43 = .ok (.istore_n 3, 1) := by decide +kernel
theorem d_X7_conditional_44 : decode b_X7_conditional 44 = .ok (.aload_n 0, 1) := by decide +kernel
theorem d_X7_conditional_45 : decode b_X7_conditional 45 = .ok (.getfield 44, 3) := by decide +kernel
theorem d_X7_conditional_48 : decode b_X7_conditional 48 = .ok (.aload_n 0, 1) := by decide +kernel
theorem d_X7_conditional_49 : decode b_X7_conditional 49 = .ok (.getfield 18, 3) := by decide +kernel
theorem d_X7_conditional_52 : decode b_X7_conditional 52 = .ok (.aload_n 0, 1) := by decide +kernel
theorem d_X7_conditional_53 : decode b_X7_conditional 53 = .ok (.getfield 68, 3) := by decide +kernel
theorem d_X7_conditional_56 : decode b_X7_conditional 56 = .ok (.iconst 1, 1) := by decide +kernel
theorem d_X7_conditional_57 : decode b_X7_conditional 57 = .ok (.isub, 1) := by decide +kernel
theorem d_X7_conditional_58 : decode b_X7_conditional 58 = .ok (.invokestatic 80, 3) := by decide +kernel
theorem d_X7_conditional_61 : decode b_X7_conditional 61 = .ok (.aload_n 0, 1) := by decide +kernel
theorem d_X7_conditional_62 : decode b_X7_conditional 62 = .ok (.getfield 44, 3) := by decide +kernel
theorem d_X7_conditional_65 : decode b_X7_conditional 65 = .ok (.getfield 109, 3) := by decide +kernel
theorem d_X7_conditional_68 : decode b_X7_conditional 68 = .ok (.invokevirtual 170, 3) := by decide +kernel
theorem d_X7_conditional_71 : decode b_X7_conditional 71 = .ok (.aload_n 0, 1) := by decide +kernel
theorem d_X7_conditional_72 : decode b_X7_conditional 72 = .ok (.getfield 18, 3) := by decide +kernel
theorem d_X7_conditional_75 : decode b_X7_conditional 75 = .ok (.aload_n 0, 1) := by decide +kernel
theorem d_X7_conditional_76 : decode b_X7_conditional 76 = .ok (.getfield 68, 3) := by decide +kernel
theorem d_X7_conditional_79 : decode b_X7_conditional 79 = .ok (.iconst 1, 1) := by decide +kernel
theorem d_X7_conditional_80 : decode b_X7_conditional 80 = .ok (.isub, 1) := by decide +kernel
theorem d_X7_conditional_81 : decode b_X7_conditional 81 = .ok (.iload_n 3, 1) := by decide +kernel
theorem d_X7_conditional_82 : decode b_X7_conditional 82 = .ok (.invokestatic 166, 3) := by decide +kernel
theorem d_X7_conditional_85 : decode b_X7_conditional 85 = .ok (.goto 7, 3) := by decide +kernel
theorem d_X7_conditional_88 : decode b_X7_conditional 88 = .ok (.aload_n 0, 1) := by decide +kernel
theorem d_X7_conditional_89 : decode b_X7_conditional 89 = .ok (.invokevirtual 203, 3) := by decide +kernel
theorem d_X7_conditional_92 : decode b_X7_conditional 92 = .ok (.return_, 1) := by decide +kernel
theorem d_X7_constant_0 : decode b_X7_constant 0 = .ok (.aload_n 0, 1) := by decide +kernel
theorem d_X7_constant_1 : decode b_X7_constant 1 = .ok (.getfield 44, 3) := by decide +kernel
theorem d_X7_constant_4 : decode b_X7_constant 4 = .ok (.getfield 109, 3) := by decide +kernel
theorem d_X7_constant_7 : decode b_X7_constant 7 = .ok (.istore_n 3, 1) := by decide +kernel
theorem d_X7_constant_8 : decode b_X7_constant 8 = .ok (.iload_n 1, 1) := by decide +kernel
theorem d_X7_constant_9 : decode b_X7_constant 9 = .ok (.istore 4, 2) := by decide +kernel
theorem d_X7_constant_11 : decode b_X7_constant 11 = .ok (.iload 4, 2) := by decide +kernel
theorem d_X7_constant_13 : decode b_X7_constant 13 = .ok (.iload_n 2, 1) := by decide +kernel
theorem d_X7_constant_14 : decode b_X7_constant 14 = .ok (.if_icmp .ge 28, 3) := by decide +kernel
theorem d_X7_constant_17 : decode b_X7_constant 17 = .ok (.aload_n 0, 1) := by decide +kernel
theorem d_X7_constant_18 : decode b_X7_constant 18 = .ok (.getfield 34, 3) := by decide +kernel
theorem d_X7_constant_21 : decode b_X7_constant 21 = .ok (.getfield 74, 3) := by decide +kernel
theorem d_X7_constant_24 : decode b_X7_constant 24 = .ok (.ifCond .ne 18, 3) := by decide +kernel
theorem d_X7_constant_27 : decode b_X7_constant 27 = .ok (.aload_n 0, 1) := by decide +kernel
theorem d_X7_constant_28 : decode b_X7_constant 28 = .ok (.getfield 49, 3) := by decide +kernel
theorem d_X7_constant_31 : decode b_X7_constant 31 = .ok (.iload 4, 2) := by decide +kernel
theorem d_X7_constant_33 : decode b_X7_constant 33 = .ok (.invokevirtual 84, 3) := by decide +kernel
theorem d_X7_constant_36 : decode b_X7_constant 36 = .ok (.iinc 4 1, 3) := by decide +kernel
theorem d_X7_constant_39 : decode b_X7_constant 39 = .ok (.goto (-28), 3) := by decide +kernel
theorem d_X7_constant_42 : decode b_X7_constant 42 = .ok (.aload_n 0, 1) := by decide +kernel
theorem d_X7_constant_43 : decode b_X7_constant 43 = .ok (.getfield 34, 3) := by decide +kernel
theorem d_X7_constant_46 : decode b_X7_constant 46 = .ok (.getfield 74, 3) := by decide +kernel
theorem d_X7_constant_49 : decode b_X7_constant 49 = .ok (.ifCond .ne 7, 3) := by decide +kernel
theorem d_X7_constant_52 : decode b_X7_constant 52 = .ok (.iconst 1, 1) := by decide +kernel
theorem d_X7_constant_53 : decode b_X7_constant 53 = .ok (.goto 4, 3) := by decide +kernel
theorem d_X7_constant_56 : decode b_X7_constant 56 = .ok (.iconst 0, 1) := by decide +kernel
theorem d_X7_constant_57 : decode b_X7_constant 57 = .ok (.istore 4, 2) := by decide +kernel
theorem d_X7_constant_59 : decode b_X7_constant 59 = .ok (.aload_n 0, 1) := by decide +kernel
theorem d_X7_constant_60 : decode b_X7_constant 60 = .ok (.getfield 34, 3) := by decide +kernel
theorem d_X7_constant_63 : decode b_X7_constant 63 = .ok (.iconst 0, 1) := by decide +kernel
theorem d_X7_constant_64 : decode b_X7_constant 64 = .ok (.putfield 74, 3) := by decide +kernel
theorem d_X7_constant_67 : decode b_X7_constant 67 = .ok (.aload_n 0, 1) := by decide +kernel
theorem d_X7_constant_68 : decode b_X7_constant 68 = .ok (.getfield 44, 3) := by decide +kernel
theorem d_X7_constant_71 : decode b_X7_constant 71 = .ok (.iload_n 3, 1) := by decide +kernel
theorem d_X7_constant_72 : decode b_X7_constant 72 = .ok (.invokevirtual 114, 3) := by decide +kernel
theorem d_X7_constant_75 : decode b_X7_constant 75 = .ok (.aload_n 0, 1) := by decide +kernel
theorem d_X7_constant_76 : decode b_X7_constant 76 = .ok (.getfield 49, 3) := by decide +kernel
theorem d_X7_constant_79 : decode b_X7_constant 79 = .ok (.invokevirtual 117, 3) := by decide +kernel
theorem d_X7_constant_82 : decode b_X7_constant 82 = .ok (.astore 5, 2) := by decide +kernel
theorem d_X7_constant_84 : decode b_X7_constant 84 = .ok (.aload_n 0, 1) := by decide +kernel
theorem d_X7_constant_85 : decode b_X7_constant 85 = .ok (.getfield 49, 3) := by decide +kernel
theorem d_X7_constant_88 : decode b_X7_constant 88 = .ok (.iconst 0, 1) := by decide +kernel
theorem d_X7_constant_89 : decode b_X7_constant 89 = .ok (.putfield 62, 3) := by decide +kernel
theorem d_X7_constant_92 : decode b_X7_constant 92 = .ok (.iload 4, 2) := by decide +kernel
theorem d_X7_constant_94 : decode b_X7_constant 94 = .ok (.ifCond .eq 23, 3) := by decide +kernel
theorem d_X7_constant_97 : decode b_X7_constant 97 = .ok (.aload 5, 2) := by decide +kernel
theorem d_X7_constant_99 : decode b_X7_constant 99 = .ok (.invokevirtual 121, 3) := by decide +kernel
theorem d_X7_constant_102 : decode b_X7_constant 102 = .ok (.ifCond .eq 15, 3) := by decide +kernel
theorem d_X7_constant_105 : decode b_X7_constant 105 = .ok (.aload 5, 2) := by decide +kernel
theorem d_X7_constant_107 : decode b_X7_constant 107 = .ok (.getfield 127, 3) := by decide +kernel
theorem d_X7_constant_110 : decode b_X7_constant 110 = .ok (.iconst 0, 1) := by decide +kernel
theorem d_X7_constant_111 : decode b_X7_constant 111 = .ok (.invokestatic 101, 3) := by decide +kernel
theorem d_X7_constant_114 : decode b_X7_constant 114 = .ok (.goto 4, 3) := by decide +kernel
theorem d_X7_constant_117 : decode b_X7_constant 117 = .ok (.iconst 0, 1) := by decide +kernel
theorem d_X7_constant_118 : decode b_X7_constant 118 = .ok (.ireturn, 1) := by decide +kernel
theorem d_X7_doLoop_0 : decode b_X7_doLoop 0 = .ok (.iload_n 1, 1) := by decide +kernel
theorem d_X7_doLoop_1 : decode b_X7_doLoop 1 = .ok (.bipush 29, 2) := by decide +kernel
theorem d_X7_doLoop_3 : decode b_X7_doLoop 3 = .ok (.if_icmp .ne 16, 3) := by decide +kernel
theorem d_X7_doLoop_6 : decode b_X7_doLoop 6 = .ok (.aload_n 0, 1) := by decide +kernel
theorem d_X7_doLoop_7 : decode b_X7_doLoop 7 = .ok (.iconst 1, 1) := by decide +kernel
theorem d_X7_doLoop_8 : decode b_X7_doLoop 8 = .ok (.invokevirtual 196, 3) := by decide +kernel
theorem d_X7_doLoop_11 : decode b_X7_doLoop 11 = .ok (.aload_n 0, 1) := by decide +kernel
theorem d_X7_doLoop_12 : decode b_X7_doLoop 12 = .ok (.iload_n 2, 1) := by decide +kernel
theorem d_X7_doLoop_13 : decode b_X7_doLoop 13 = .ok (.invokevirtual 220, 3) := by decide +kernel
theorem d_X7_doLoop_16 : decode b_X7_doLoop 16 = .ok (.goto 74, 3) := by decide +kernel
theorem d_X7_doLoop_19 : decode b_X7_doLoop 19 = .ok (.iload_n 1, 1) := by decide +kernel
theorem d_X7_doLoop_20 : decode b_X7_doLoop 20 = .ok (.bipush 30, 2) := by decide +kernel
theorem d_X7_doLoop_22 : decode b_X7_doLoop 22 = .ok (.if_icmp .ne 33, 3) := by decide +kernel
theorem d_X7_doLoop_25 : decode b_X7_doLoop 25 = .ok (.aload_n 0, 1) := by decide +kernel
theorem d_X7_doLoop_26 : decode b_X7_doLoop 26 = .ok (.getfield 44, 3) := by decide +kernel
theorem d_X7_doLoop_29 : decode b_X7_doLoop 29 = .ok (.aload_n 0, 1) := by decide +kernel
theorem d_X7_doLoop_30 : decode b_X7_doLoop 30 = .ok (.getfield 21, 3) := by decide +kernel
theorem d_X7_doLoop_33 : decode b_X7_doLoop 33 = .ok (.aload_n 0, 1) := by decide +kernel
theorem d_X7_doLoop_34 : decode b_X7_doLoop 34 = .ok (.getfield 68, 3) := by decide +kernel
theorem d_X7_doLoop_37 : decode b_X7_doLoop 37 = .ok (.iconst 1, 1) := by decide +kernel
theorem d_X7_doLoop_38 : decode b_X7_doLoop 38 = .ok (.isub, 1) := by decide +kernel
theorem d_X7_doLoop_39 : decode b_X7_doLoop 39 = .ok (.invokestatic 80, 3) := by decide +kernel
theorem d_X7_doLoop_42 : decode b_X7_doLoop 42 = .ok (.aload_n 0, 1) := by decide +kernel
theorem d_X7_doLoop_43 : decode b_X7_doLoop 43 = .ok (.getfield 44, 3) := by decide +kernel
theorem d_X7_doLoop_46 : decode b_X7_doLoop 46 = .ok (.getfield 109, 3) := by decide +kernel
theorem d_X7_doLoop_49 : decode b_X7_doLoop 49 = .ok (.invokevirtual 170, 3) := by decide +kernel
theorem d_X7_doLoop_52 : decode b_X7_doLoop 52 = .ok (.goto 38, 3) := by decide +kernel
theorem d_X7_doLoop_55 : decode b_X7_doLoop 55 = .ok (.aload_n 0, 1) := by decide +kernel
theorem d_X7_doLoop_56 : decode b_X7_doLoop 56 = .ok (.iload_n 2, 1) := by decide +kernel
theorem d_X7_doLoop_57 : decode b_X7_doLoop 57 = .ok (.invokevirtual 192, 3) := by decide +kernel
theorem d_X7_doLoop_60 : decode b_X7_doLoop 60 = .ok (.pop, 1) := by decide +kernel
theorem d_X7_doLoop_61 : decode b_X7_doLoop 61 = .ok (.aload_n 0, 1) := by decide +kernel
theorem d_X7_doLoop_62 : decode b_X7_doLoop 62 = .ok (.getfield 44, 3) := by decide +kernel
theorem d_X7_doLoop_65 : decode b_X7_doLoop 65 = .ok (.bipush 28, 2) := by decide +kernel
theorem d_X7_doLoop_67 : decode b_X7_doLoop 67 = .ok (.aload_n 0, 1) := by decide +kernel
theorem d_X7_doLoop_68 : decode b_X7_doLoop 68 = .ok (.getfield 15, 3) := by decide +kernel
theorem d_X7_doLoop_71 : decode b_X7_doLoop 71 = .ok (.aload_n 0, 1) := by decide +kernel
theorem d_X7_doLoop_72 : decode b_X7_doLoop 72 = .ok (.getfield 68, 3) := by decide +kernel
theorem d_X7_doLoop_75 : decode b_X7_doLoop 75 = .ok (.iconst 1, 1) := by decide +kernel
theorem d_X7_doLoop_76 : decode b_X7_doLoop 76 = .ok (.isub, 1) := by decide +kernel
theorem d_X7_doLoop_77 : decode b_X7_doLoop 77 = .ok (.invokestatic 80, 3) := by decide +kernel
theorem d_X7_doLoop_80 : decode b_X7_doLoop 80 = .ok (.iconst 0, 1) := by decide +kernel
theorem d_X7_doLoop_81 : decode b_X7_doLoop 81 = .ok (.iconst 0, 1) := by decide +kernel
theorem d_X7_doLoop_82 : decode b_X7_doLoop 82 = .ok (.invokevirtual 141, 3) := by decide +kernel
theorem d_X7_doLoop_85 : decode b_X7_doLoop 85 = .ok (.pop, 1) := by decide +kernel
theorem d_X7_doLoop_86 : decode b_X7_doLoop 86 = .ok (.aload_n 0, 1) := by decide +kernel
theorem d_X7_doLoop_87 : decode b_X7_doLoop 87 = .ok (.invokevirtual 203, 3) := by decide +kernel
theorem d_X7_doLoop_90 : decode b_X7_doLoop 90 = .ok (.return_, 1) := by decide +kernel
theorem d_X7_exitUnless_0 : decode b_X7_exitUnless 0 = .ok (.aload_n 0, 1) := by decide +kernel
theorem d_X7_exitUnless_1 : decode b_X7_exitUnless 1 = .ok (.getfield 18, 3) := by decide +kernel
theorem d_X7_exitUnless_4 : decode b_X7_exitUnless 4 = .ok (.aload_n 0, 1) := by decide +kernel
theorem d_X7_exitUnless_5 : decode b_X7_exitUnless 5 = .ok (.getfield 68, 3) := by decide +kernel
theorem d_X7_exitUnless_8 : decode b_X7_exitUnless 8 = .ok (.iconst 1, 1) := by decide +kernel
theorem d_X7_exitUnless_9 : decode b_X7_exitUnless 9 = .ok (.isub, 1) := by decide +kernel
theorem d_X7_exitUnless_10 : decode b_X7_exitUnless 10 = .ok (.aload_n 0, 1) := by decide +kernel
theorem d_X7_exitUnless_11 : decode b_X7_exitUnless 11 = .ok (.getfield 49, 3) := by decide +kernel
theorem d_X7_exitUnless_14 : decode b_X7_exitUnless 14 = .ok (.aload_n 1, 1) := by decide +kernel
theorem d_X7_exitUnless_15 : decode b_X7_exitUnless 15 = .ok (.aload_n 0, 1) := by decide +kernel
theorem d_X7_exitUnless_16 : decode b_X7_exitUnless 16 = .ok (.getfield 18, 3) := by decide +kernel
theorem d_X7_exitUnless_19 : decode b_X7_exitUnless 19 = .ok (.aload_n 0, 1) := by decide +kernel
theorem d_X7_exitUnless_20 : decode b_X7_exitUnless 20 = .ok (.getfield 68, 3) := by decide +kernel
theorem d_X7_exitUnless_23 : decode b_X7_exitUnless 23 = .ok (.iconst 1, 1) := by decide +kernel
theorem d_X7_exitUnless_24 : decode b_X7_exitUnless 24 = .ok (.isub, 1) := by decide +kernel
theorem d_X7_exitUnless_25 : decode b_X7_exitUnless 25 = .ok (.invokestatic 80, 3) := by decide +kernel
theorem d_X7_exitUnless_28 : decode b_X7_exitUnless 28 = .ok (.invokevirtual 179, 3) := by decide +kernel
theorem d_X7_exitUnless_31 : decode b_X7_exitUnless 31 = .ok (.invokestatic 166, 3) := by decide +kernel
theorem d_X7_exitUnless_34 : decode b_X7_exitUnless 34 = .ok (.return_, 1) := by decide +kernel
theorem d_X7_finish_0 : decode b_X7_finish 0 = .ok (.aload_n 0, 1) := by decide +kernel
theorem d_X7_finish_1 : decode b_X7_finish 1 = .ok (.dup, 1) := by decide +kernel
theorem d_X7_finish_2 : decode b_X7_finish 2 = .ok (.getfield 68, 3) := by decide +kernel
theorem d_X7_finish_5 : decode b_X7_finish 5 = .ok (.iconst 1, 1) := by decide +kernel
theorem d_X7_finish_6 : decode b_X7_finish 6 = .ok (.isub, 1) := by decide +kernel
theorem d_X7_finish_7 : decode b_X7_finish 7 = .ok (.putfield 68, 3) := by decide +kernel
theorem d_X7_finish_10 : decode b_X7_finish 10 = .ok (.aload_n 0, 1) := by decide +kernel
theorem d_X7_finish_11 : decode b_X7_finish 11 = .ok (.getfield 44, 3) := by decide +kernel
theorem d_X7_finish_14 : decode b_X7_finish 14 = .ok (.aload_n 0, 1) := by decide +kernel
theorem d_X7_finish_15 : decode b_X7_finish 15 = .ok (.getfield 18, 3) := by decide +kernel
theorem d_X7_finish_18 : decode b_X7_finish 18 = .ok (.aload_n 0, 1) := by decide +kernel
theorem d_X7_finish_19 : decode b_X7_finish 19 = .ok (.getfield 68, 3) := by decide +kernel
theorem d_X7_finish_22 : decode b_X7_finish 22 = .ok (.invokestatic 80, 3) := by decide +kernel
theorem d_X7_finish_25 : decode b_X7_finish 25 = .ok (.aload_n 0, 1) := by decide +kernel
theorem d_X7_finish_26 : decode b_X7_finish 26 = .ok (.getfield 44, 3) := by decide +kernel
theorem d_X7_finish_29 : decode b_X7_finish 29 = .ok (.getfield 109, 3) := by decide +kernel
theorem d_X7_finish_32 : decode b_X7_finish 32 = .ok (.invokevirtual 170, 3) := by decide +kernel
theorem d_X7_finish_35 : decode b_X7_finish 35 = .ok (.return_, 1) := by decide +kernel
theorem d_X7_forLoop_0 : decode b_X7_forLoop 0 = .ok (.iload_n 1, 1) := by decide +kernel
theorem d_X7_forLoop_1 : decode b_X7_forLoop 1 = .ok (.bipush 32, 2) := by decide +kernel
theorem d_X7_forLoop_3 : decode b_X7_forLoop 3 = .ok (.if_icmp .ne 11, 3) := by decide +kernel
theorem d_X7_forLoop_6 : decode b_X7_forLoop 6 = .ok (.aload_n 0, 1) := by decide +kernel
theorem d_X7_forLoop_7 : decode b_X7_forLoop 7 = .ok (.iconst 1, 1) := by decide +kernel
theorem d_X7_forLoop_8 : decode b_X7_forLoop 8 = .ok (.invokevirtual 196, 3) := by decide +kernel
theorem d_X7_forLoop_11 : decode b_X7_forLoop 11 = .ok (.goto 182, 3) := by decide +kernel
theorem d_X7_forLoop_14 : decode b_X7_forLoop 14 = .ok (.iload_n 1, 1) := by decide +kernel
theorem d_X7_forLoop_15 : decode b_X7_forLoop 15 = .ok (.bipush 33, 2) := by decide +kernel
theorem d_X7_forLoop_17 : decode b_X7_forLoop 17 = .ok (.if_icmp .ne 64, 3) := by decide +kernel
theorem d_X7_forLoop_20 : decode b_X7_forLoop 20 = .ok (.iload_n 3, 1) := by decide +kernel
theorem d_X7_forLoop_21 : decode b_X7_forLoop 21 = .ok (.ifCond .eq 12, 3) := by decide +kernel
theorem d_X7_forLoop_24 : decode b_X7_forLoop 24 = .ok (.aload_n 0, 1) := by decide +kernel
theorem d_X7_forLoop_25 : decode b_X7_forLoop 25 = .ok (.aload_n 0, 1) := by decide +kernel
theorem d_X7_forLoop_26 : decode b_X7_forLoop 26 = .ok (.iload_n 2, 1) := by decide +kernel
theorem d_X7_forLoop_27 : decode b_X7_forLoop 27 = .ok (.invokevirtual 192, 3) := by decide +kernel
theorem d_X7_forLoop_30 : decode b_X7_forLoop 30 = .ok (.invokevirtual 199, 3) := by decide +kernel
theorem d_X7_forLoop_33 : decode b_X7_forLoop 33 = .ok (.aload_n 0, 1) := by decide +kernel
theorem d_X7_forLoop_34 : decode b_X7_forLoop 34 = .ok (.getfield 24, 3) := by decide +kernel
theorem d_X7_forLoop_37 : decode b_X7_forLoop 37 = .ok (.aload_n 0, 1) := by decide +kernel
theorem d_X7_forLoop_38 : decode b_X7_forLoop 38 = .ok (.getfield 68, 3) := by decide +kernel
theorem d_X7_forLoop_41 : decode b_X7_forLoop 41 = .ok (.iconst 1, 1) := by decide +kernel
theorem d_X7_forLoop_42 : decode b_X7_forLoop 42 = .ok (.isub, 1) := by decide +kernel
theorem d_X7_forLoop_43 : decode b_X7_forLoop 43 = .ok (.aload_n 0, 1) := by decide +kernel
theorem d_X7_forLoop_44 : decode b_X7_forLoop 44 = .ok (.getfield 44, 3) := by decide +kernel
theorem d_X7_forLoop_47 : decode b_X7_forLoop 47 = .ok (.bipush 26, 2) := by decide +kernel
theorem d_X7_forLoop_49 : decode b_X7_forLoop 49 = .ok (.iconst (-1), 1) := by decide +kernel
theorem d_X7_forLoop_50 : decode b_X7_forLoop 50 = .ok (.iconst 0, 1) := by decide +kernel
theorem d_X7_forLoop_51 : decode b_X7_forLoop 51 = .ok (.iconst 0, 1) := by decide +kernel
theorem d_X7_forLoop_52 : decode b_X7_forLoop 52 = .ok (.invokevirtual 141, 3) := by decide +kernel
theorem d_X7_forLoop_55 : decode b_X7_forLoop 55 = .ok (.invokestatic 166, 3) := by decide +kernel
theorem d_X7_forLoop_58 : decode b_X7_forLoop 58 = .ok (.aload_n 0, 1) := by decide +kernel
theorem d_X7_forLoop_59 : decode b_X7_forLoop 59 = .ok (.getfield 27, 3) := by decide +kernel
theorem d_X7_forLoop_62 : decode b_X7_forLoop 62 = .ok (.aload_n 0, 1) := by decide +kernel
theorem d_X7_forLoop_63 : decode b_X7_forLoop 63 = .ok (.getfield 68, 3) := by decide +kernel
theorem d_X7_forLoop_66 : decode b_X7_forLoop 66 = .ok (.iconst 1, 1) := by decide +kernel
theorem d_X7_forLoop_67 : decode b_X7_forLoop 67 = .ok (.isub, 1) := by decide +kernel
theorem d_X7_forLoop_68 : decode b_X7_forLoop 68 = .ok (.aload_n 0, 1) := by decide +kernel
theorem d_X7_forLoop_69 : decode b_X7_forLoop 69 = .ok (.getfield 44, 3) := by decide +kernel
theorem d_X7_forLoop_72 : decode b_X7_forLoop 72 = .ok (.getfield 109, 3) := by decide +kernel
theorem d_X7_forLoop_75 : decode b_X7_forLoop 75 = .ok (.invokestatic 166, 3) := by decide +kernel
theorem d_X7_forLoop_78 : decode b_X7_forLoop 78 = .ok (.goto 115, 3) := by decide +kernel
theorem d_X7_forLoop_81 : decode b_X7_forLoop 81 = .ok (.iload_n 1, 1) := by decide +kernel
theorem d_X7_forLoop_82 : decode b_X7_forLoop 82 = .ok (.bipush 34, 2) := by decide +kernel
theorem d_X7_forLoop_84 : decode b_X7_forLoop 84 = .ok (.if_icmp .ne 55, 3) := by decide +kernel
theorem d_X7_forLoop_87 : decode b_X7_forLoop 87 = .ok (.aload_n 0, 1) := by decide +kernel
theorem d_X7_forLoop_88 : decode b_X7_forLoop 88 = .ok (.aload_n 0, 1) := by decide +kernel
theorem d_X7_forLoop_89 : decode b_X7_forLoop 89 = .ok (.getfield 15, 3) := by decide +kernel
theorem d_X7_forLoop_92 : decode b_X7_forLoop 92 = .ok (.aload_n 0, 1) := by decide +kernel
theorem d_X7_forLoop_93 : decode b_X7_forLoop 93 = .ok (.getfield 68, 3) := by decide +kernel
theorem d_X7_forLoop_96 : decode b_X7_forLoop 96 = .ok (.iconst 1, 1) := by decide +kernel
theorem d_X7_forLoop_97 : decode b_X7_forLoop 97 = .ok (.isub, 1) := by decide +kernel
theorem d_X7_forLoop_98 : decode b_X7_forLoop 98 = .ok (.invokestatic 80, 3) := by decide +kernel
theorem d_X7_forLoop_101 : decode b_X7_forLoop 101 = .ok (.invokevirtual 223, 3) := by decide +kernel
theorem d_X7_forLoop_104 : decode b_X7_forLoop 104 = .ok (.aload_n 0, 1) := by decide +kernel
theorem d_X7_forLoop_105 : decode b_X7_forLoop 105 = .ok (.getfield 44, 3) := by decide +kernel
theorem d_X7_forLoop_108 : decode b_X7_forLoop 108 = .ok (.aload_n 0, 1) := by decide +kernel
theorem d_X7_forLoop_109 : decode b_X7_forLoop 109 = .ok (.getfield 24, 3) := by decide +kernel
theorem d_X7_forLoop_112 : decode b_X7_forLoop 112 = .ok (.aload_n 0, 1) := by decide +kernel
theorem d_X7_forLoop_113 : decode b_X7_forLoop 113 = .ok (.getfield 68, 3) := by decide +kernel
theorem d_X7_forLoop_116 : decode b_X7_forLoop 116 = .ok (.iconst 1, 1) := by decide +kernel
theorem d_X7_forLoop_117 : decode b_X7_forLoop 117 = .ok (.isub, 1) := by decide +kernel
theorem d_X7_forLoop_118 : decode b_X7_forLoop 118 = .ok (.invokestatic 80, 3) := by decide +kernel
theorem d_X7_forLoop_121 : decode b_X7_forLoop 121 = .ok (.aload_n 0, 1) := by decide +kernel
theorem d_X7_forLoop_122 : decode b_X7_forLoop 122 = .ok (.getfield 44, 3) := by decide +kernel
theorem d_X7_forLoop_125 : decode b_X7_forLoop 125 = .ok (.getfield 109, 3) := by decide +kernel
theorem d_X7_forLoop_128 : decode b_X7_forLoop 128 = .ok (.invokevirtual 170, 3) := by decide +kernel
theorem d_X7_forLoop_131 : decode b_X7_forLoop 131 = .ok (.aload_n 0, 1) := by decide +kernel
theorem d_X7_forLoop_132 : decode b_X7_forLoop 132 = .ok (.iload_n 2, 1) := by decide +kernel
theorem d_X7_forLoop_133 : decode b_X7_forLoop 133 = .ok (.invokevirtual 220, 3) := by decide +kernel
theorem d_X7_forLoop_136 : decode b_X7_forLoop 136 = .ok (.goto 57, 3) := by decide +kernel
theorem d_X7_forLoop_139 : decode b_X7_forLoop 139 = .ok (.aload_n 0, 1) := by decide +kernel
theorem d_X7_forLoop_140 : decode b_X7_forLoop 140 = .ok (.getfield 44, 3) := by decide +kernel
theorem d_X7_forLoop_143 : decode b_X7_forLoop 143 = .ok (.aload_n 0, 1) := by decide +kernel
theorem d_X7_forLoop_144 : decode b_X7_forLoop 144 = .ok (.getfield 21, 3) := by decide +kernel
theorem d_X7_forLoop_147 : decode b_X7_forLoop 147 = .ok (.aload_n 0, 1) := by decide +kernel
theorem d_X7_forLoop_148 : decode b_X7_forLoop 148 = .ok (.getfield 68, 3) := by decide +kernel
theorem d_X7_forLoop_151 : decode b_X7_forLoop 151 = .ok (.iconst 1, 1) := by decide +kernel
theorem d_X7_forLoop_152 : decode b_X7_forLoop 152 = .ok (.isub, 1) := by decide +kernel
theorem d_X7_forLoop_153 : decode b_X7_forLoop 153 = .ok (.invokestatic 80, 3) := by decide +kernel
theorem d_X7_forLoop_156 : decode b_X7_forLoop 156 = .ok (.aload_n 0, 1) := by decide +kernel
theorem d_X7_forLoop_157 : decode b_X7_forLoop 157 = .ok (.getfield 27, 3) := by decide +kernel
theorem d_X7_forLoop_160 : decode b_X7_forLoop 160 = .ok (.aload_n 0, 1) := by decide +kernel
theorem d_X7_forLoop_161 : decode b_X7_forLoop 161 = .ok (.getfield 68, 3) := by decide +kernel
theorem d_X7_forLoop_164 : decode b_X7_forLoop 164 = .ok (.iconst 1, 1) := by decide +kernel
theorem d_X7_forLoop_165 : decode b_X7_forLoop 165 = .ok (.isub, 1) := by decide +kernel
theorem d_X7_forLoop_166 : decode b_X7_forLoop 166 = .ok (.invokestatic 80, 3) := by decide +kernel
theorem d_X7_forLoop_169 : decode b_X7_forLoop 169 = .ok (.invokevirtual 170, 3) := by decide +kernel
theorem d_X7_forLoop_172 : decode b_X7_forLoop 172 = .ok (.aload_n 0, 1) := by decide +kernel
theorem d_X7_forLoop_173 : decode b_X7_forLoop 173 = .ok (.aload_n 0, 1) := by decide +kernel
theorem d_X7_forLoop_174 : decode b_X7_forLoop 174 = .ok (.getfield 27, 3) := by decide +kernel
theorem d_X7_forLoop_177 : decode b_X7_forLoop 177 = .ok (.aload_n 0, 1) := by decide +kernel
theorem d_X7_forLoop_178 : decode b_X7_forLoop 178 = .ok (.getfield 68, 3) := by decide +kernel
theorem d_X7_forLoop_181 : decode b_X7_forLoop 181 = .ok (.iconst 1, 1) := by decide +kernel
theorem d_X7_forLoop_182 : decode b_X7_forLoop 182 = .ok (.isub, 1) := by decide +kernel
theorem d_X7_forLoop_183 : decode b_X7_forLoop 183 = .ok (.invokestatic 80, 3) := by decide +kernel
theorem d_X7_forLoop_186 : decode b_X7_forLoop 186 = .ok (.invokevirtual 223, 3) := by decide +kernel
theorem d_X7_forLoop_189 : decode b_X7_forLoop 189 = .ok (.aload_n 0, 1) := by decide +kernel
theorem d_X7_forLoop_190 : decode b_X7_forLoop 190 = .ok (.invokevirtual 203, 3) := by decide +kernel
theorem d_X7_forLoop_193 : decode b_X7_forLoop 193 = .ok (.return_, 1) := by decide +kernel
theorem d_X7_giveBack_0 : decode b_X7_giveBack 0 = .ok (.aload_n 0, 1) := by decide +kernel
theorem d_X7_giveBack_1 : decode b_X7_giveBack 1 = .ok (.getfield 34, 3) := by decide +kernel
theorem d_X7_giveBack_4 : decode b_X7_giveBack 4 = .ok (.getfield 204, 3) := by decide +kernel
theorem d_X7_giveBack_7 : decode b_X7_giveBack 7 = .ok (.getfield 208, 3) := by decide +kernel
theorem d_X7_giveBack_10 : decode b_X7_giveBack 10 = .ok (.aload_n 0, 1) := by decide +kernel
theorem d_X7_giveBack_11 : decode b_X7_giveBack 11 = .ok (.getfield 34, 3) := by decide +kernel
theorem d_X7_giveBack_14 : decode b_X7_giveBack 14 = .ok (.getfield 213, 3) := by decide +kernel
theorem d_X7_giveBack_17 : decode b_X7_giveBack 17 = .ok (.invokestatic 80, 3) := by decide +kernel
theorem d_X7_giveBack_20 : decode b_X7_giveBack 20 = .ok (.istore_n 3, 1) := by decide +kernel
theorem d_X7_giveBack_21 : decode b_X7_giveBack 21 = .ok (.iload_n 3, 1) := by decide +kernel
theorem d_X7_giveBack_22 : decode b_X7_giveBack 22 = .ok (.iconst (-1), 1) := by decide +kernel
theorem d_X7_giveBack_23 : decode b_X7_giveBack 23 = .ok (.if_icmp .ne 7, 3) := by decide +kernel
theorem d_X7_giveBack_26 : decode b_X7_giveBack 26 = .ok (.iconst 1, 1) := by decide +kernel
theorem d_X7_giveBack_27 : decode b_X7_giveBack 27 = .ok (.goto 4, 3) := by decide +kernel
theorem d_X7_giveBack_30 : decode b_X7_giveBack 30 = .ok (.iconst 0, 1) := by decide +kernel
theorem d_X7_giveBack_31 : decode b_X7_giveBack 31 = .ok (.istore 4, 2) := by decide +kernel
theorem d_X7_giveBack_33 : decode b_X7_giveBack 33 = .ok (.iload_n 2, 1) := by decide +kernel
theorem d_X7_giveBack_34 : decode b_X7_giveBack 34 = .ok (.ifCond .eq 19, 3) := by decide +kernel
theorem d_X7_giveBack_37 : decode b_X7_giveBack 37 = .ok (.aload_n 0, 1) := by decide +kernel
theorem d_X7_giveBack_38 : decode b_X7_giveBack 38 = .ok (.getfield 49, 3) := by decide +kernel
theorem d_X7_giveBack_41 : decode b_X7_giveBack 41 = .ok (.invokevirtual 138, 3) := by decide +kernel
theorem d_X7_giveBack_44 : decode b_X7_giveBack 44 = .ok (.iload_n 3, 1) := by decide +kernel
theorem d_X7_giveBack_45 : decode b_X7_giveBack 45 = .ok (.invokevirtual 216, 3) := by decide +kernel
theorem d_X7_giveBack_48 : decode b_X7_giveBack 48 = .ok (.istore 4, 2) := by decide +kernel
theorem d_X7_giveBack_50 : decode b_X7_giveBack 50 = .ok (.goto 15, 3) := by decide +kernel
theorem d_X7_giveBack_53 : decode b_X7_giveBack 53 = .ok (.aload_n 0, 1) := by decide +kernel
theorem d_X7_giveBack_54 : decode b_X7_giveBack 54 = .ok (.getfield 44, 3) := by decide +kernel
theorem d_X7_giveBack_57 : decode b_X7_giveBack 57 = .ok (.iconst 1, 1) := by decide +kernel
theorem d_X7_giveBack_58 : decode b_X7_giveBack 58 = .ok (.iconst 0, 1) := by decide +kernel
theorem d_X7_giveBack_59 : decode b_X7_giveBack 59 = .ok (.iconst 0, 1) := by decide +kernel
theorem d_X7_giveBack_60 : decode b_X7_giveBack 60 = .ok (.iconst 0, 1) := by decide +kernel
theorem d_X7_giveBack_61 : decode b_X7_giveBack 61 = .ok (.invokevirtual 141, 3) := by decide +kernel
theorem d_X7_giveBack_64 : decode b_X7_giveBack 64 = .ok (.pop, 1) := by decide +kernel
theorem d_X7_giveBack_65 : decode b_X7_giveBack 65 = .ok (.aload_n 0, 1) := by decide +kernel
theorem d_X7_giveBack_66 : decode b_X7_giveBack 66 = .ok (.getfield 44, 3) := by decide +kernel
theorem d_X7_giveBack_69 : decode b_X7_giveBack 69 = .ok (.bipush 33, 2) := by decide +kernel
theorem d_X7_giveBack_71 : decode b_X7_giveBack 71 = .ok (.iconst 0, 1) := by decide +kernel
theorem d_X7_giveBack_72 : decode b_X7_giveBack 72 = .ok (.iconst 0, 1) := by decide +kernel
theorem d_X7_giveBack_73 : decode b_X7_giveBack 73 = .ok (.iconst 0, 1) := by decide +kernel
theorem d_X7_giveBack_74 : decode b_X7_giveBack 74 = .ok (.invokevirtual 141, 3) := by decide +kernel
theorem d_X7_giveBack_77 : decode b_X7_giveBack 77 = .ok (.pop, 1) := by decide +kernel
theorem d_X7_giveBack_78 : decode b_X7_giveBack 78 = .ok (.iload 4, 2) := by decide +kernel
theorem d_X7_giveBack_80 : decode b_X7_giveBack 80 = .ok (.ifCond .ne 12, 3) := by decide +kernel
theorem d_X7_giveBack_83 : decode b_X7_giveBack 83 = .ok (.aload_n 0, 1) := by decide +kernel
theorem d_X7_giveBack_84 : decode b_X7_giveBack 84 = .ok (.getfield 34, 3) := by decide +kernel
theorem d_X7_giveBack_87 : decode b_X7_giveBack 87 = .ok (.iconst 2, 1) := by decide +kernel
theorem d_X7_giveBack_88 : decode b_X7_giveBack 88 = .ok (.iload_n 1, 1) := by decide +kernel
theorem d_X7_giveBack_89 : decode b_X7_giveBack 89 = .ok (.invokevirtual 176, 3) := by decide +kernel
theorem d_X7_giveBack_92 : decode b_X7_giveBack 92 = .ok (.return_, 1) := by decide +kernel
theorem d_X7_jumpBack_0 : decode b_X7_jumpBack 0 = .ok (.aload_n 0, 1) := by decide +kernel
theorem d_X7_jumpBack_1 : decode b_X7_jumpBack 1 = .ok (.getfield 44, 3) := by decide +kernel
theorem d_X7_jumpBack_4 : decode b_X7_jumpBack 4 = .ok (.bipush 26, 2) := by decide +kernel
theorem d_X7_jumpBack_6 : decode b_X7_jumpBack 6 = .ok (.iload_n 1, 1) := by decide +kernel
theorem d_X7_jumpBack_7 : decode b_X7_jumpBack 7 = .ok (.iconst 0, 1) := by decide +kernel
theorem d_X7_jumpBack_8 : decode b_X7_jumpBack 8 = .ok (.iconst 0, 1) := by decide +kernel
theorem d_X7_jumpBack_9 : decode b_X7_jumpBack 9 = .ok (.invokevirtual 141, 3) := by decide +kernel
theorem d_X7_jumpBack_12 : decode b_X7_jumpBack 12 = .ok (.pop, 1) := by decide +kernel
theorem d_X7_jumpBack_13 : decode b_X7_jumpBack 13 = .ok (.return_, 1) := by decide +kernel
theorem d_X7_leave_0 : decode b_X7_leave 0 = .ok (.aload_n 0, 1) := by decide +kernel
theorem d_X7_leave_1 : decode b_X7_leave 1 = .ok (.getfield 68, 3) := by decide +kernel
theorem d_X7_leave_4 : decode b_X7_leave 4 = .ok (.iconst 1, 1) := by decide +kernel
theorem d_X7_leave_5 : decode b_X7_leave 5 = .ok (.isub, 1) := by decide +kernel
theorem d_X7_leave_6 : decode b_X7_leave 6 = .ok (.istore_n 3, 1) := by decide +kernel
theorem d_X7_leave_7 : decode b_X7_leave 7 = .ok (.iload_n 3, 1) := by decide +kernel
theorem d_X7_leave_8 : decode b_X7_leave 8 = .ok (.ifCond .lt 20, 3) := by decide +kernel
theorem d_X7_leave_11 : decode b_X7_leave 11 = .ok (.aload_n 0, 1) := by decide +kernel
theorem d_X7_leave_12 : decode b_X7_leave 12 = .ok (.getfield 11, 3) := by decide +kernel
theorem d_X7_leave_15 : decode b_X7_leave 15 = .ok (.iload_n 3, 1) := by decide +kernel
theorem d_X7_leave_16 : decode b_X7_leave 16 = .ok (.invokestatic 80, 3) := by decide +kernel
theorem d_X7_leave_19 : decode b_X7_leave 19 = .ok (.ifCond .ne 9, 3) := by decide +kernel
theorem d_X7_leave_22 : decode b_X7_leave 22 = .ok (.iinc 3 (-1), 3) := by decide +kernel
theorem d_X7_leave_25 : decode b_X7_leave 25 = .ok (.goto (-18), 3) := by decide +kernel
theorem d_X7_leave_28 : decode b_X7_leave 28 = .ok (.iload_n 3, 1) := by decide +kernel
theorem d_X7_leave_29 : decode b_X7_leave 29 = .ok (.ifCond .ge 15, 3) := by decide +kernel
theorem d_X7_leave_32 : decode b_X7_leave 32 = .ok (.aload_n 0, 1) := by decide +kernel
theorem d_X7_leave_33 : decode b_X7_leave 33 = .ok (.getfield 34, 3) := by decide +kernel
theorem d_X7_leave_36 : decode b_X7_leave 36 = .ok (.iconst 2, 1) := by decide +kernel
theorem d_X7_leave_37 : decode b_X7_leave 37 = .ok (.iload_n 1, 1) := by decide +kernel
theorem d_X7_leave_38 : decode b_X7_leave 38 = .ok (.invokevirtual 176, 3) := by decide +kernel
theorem d_X7_leave_41 : decode b_X7_leave 41 = .ok (.goto 24, 3) := by decide +kernel
theorem d_X7_leave_44 : decode b_X7_leave 44 = .ok (.aload_n 2, 1) := by decide +kernel
theorem d_X7_leave_45 : decode b_X7_leave 45 = .ok (.iload_n 3, 1) := by decide +kernel
theorem d_X7_leave_46 : decode b_X7_leave 46 = .ok (.aload_n 0, 1) := by decide +kernel
theorem d_X7_leave_47 : decode b_X7_leave 47 = .ok (.getfield 44, 3) := by decide +kernel
theorem d_X7_leave_50 : decode b_X7_leave 50 = .ok (.bipush 26, 2) := by decide +kernel
theorem d_X7_leave_52 : decode b_X7_leave 52 = .ok (.aload_n 2, 1) := by decide +kernel
theorem d_X7_leave_53 : decode b_X7_leave 53 = .ok (.iload_n 3, 1) := by decide +kernel
theorem d_X7_leave_54 : decode b_X7_leave 54 = .ok (.invokestatic 80, 3) := by decide +kernel
theorem d_X7_leave_57 : decode b_X7_leave 57 = .ok (.iconst 0, 1) := by decide +kernel
theorem d_X7_leave_58 : decode b_X7_leave 58 = .ok (.iconst 0, 1) := by decide +kernel
theorem d_X7_leave_59 : decode b_X7_leave 59 = .ok (.invokevirtual 141, 3) := by decide +kernel
theorem d_X7_leave_62 : decode b_X7_leave 62 = .ok (.invokestatic 166, 3) := by decide +kernel
theorem d_X7_leave_65 : decode b_X7_leave 65 = .ok (.return_, 1) := by decide +kernel
theorem d_X7_take_0 : decode b_X7_take 0 = .ok (.aload_n 0, 1) := by decide +kernel
theorem d_X7_take_1 : decode b_X7_take 1 = .ok (.getfield 30, 3) := by decide +kernel
theorem d_X7_take_4 : decode b_X7_take 4 = .ok (.getfield 130, 3) := by decide +kernel
theorem d_X7_take_7 : decode b_X7_take 7 = .ok (.iload_n 2, 1) := by decide +kernel
theorem d_X7_take_8 : decode b_X7_take 8 = .ok (.invokestatic 80, 3) := by decide +kernel
theorem d_X7_take_11 : decode b_X7_take 11 = .ok (.istore_n 3, 1) := by decide +kernel
theorem d_X7_take_12 : decode b_X7_take 12 = .ok (.aload_n 0, 1) := by decide +kernel
theorem d_X7_take_13 : decode b_X7_take 13 = .ok (.getfield 30, 3) := by decide +kernel
theorem d_X7_take_16 : decode b_X7_take 16 = .ok (.getfield 91, 3) := by decide +kernel
theorem d_X7_take_19 : decode b_X7_take 19 = .ok (.iload_n 2, 1) := by decide +kernel
theorem d_X7_take_20 : decode b_X7_take 20 = .ok (.invokestatic 80, 3) := by decide +kernel
theorem d_X7_take_23 : decode b_X7_take 23 = .ok (.ifCond .eq 7, 3) := by decide +kernel
theorem d_X7_take_26 : decode b_X7_take 26 = .ok (.iconst 1, 1) := by decide +kernel
theorem d_X7_take_27 : decode b_X7_take 27 = .ok (.goto 4, 3) := by decide +kernel
theorem d_X7_take_30 : decode b_X7_take 30 = .ok (.iconst 0, 1) := by decide +kernel
theorem d_X7_take_31 : decode b_X7_take 31 = .ok (.istore 4, 2) := by decide +kernel
theorem d_X7_take_33 : decode b_X7_take 33 = .ok (.iload_n 1, 1) := by decide +kernel
theorem d_X7_take_34 : decode b_X7_take 34 = .ok (.tableswitch 195 20 38 #[90, 100, 110, 133, 133, 133, 177, 177, 177, 186, 186, 186, 195, 195, 195, 195, 142, 142, 167], 90) := by decide +kernel
theorem d_X7_take_124 : decode b_X7_take 124 = .ok (.aload_n 0, 1) := by decide +kernel
theorem d_X7_take_125 : decode b_X7_take 125 = .ok (.getfield 34, 3) := by decide +kernel
theorem d_X7_take_128 : decode b_X7_take 128 = .ok (.invokevirtual 133, 3) := by decide +kernel
theorem d_X7_take_131 : decode b_X7_take 131 = .ok (.goto 106, 3) := by decide +kernel
theorem d_X7_take_134 : decode b_X7_take 134 = .ok (.aload_n 0, 1) := by decide +kernel
theorem d_X7_take_135 : decode b_X7_take 135 = .ok (.getfield 34, 3) := by decide +kernel
theorem d_X7_take_138 : decode b_X7_take 138 = .ok (.invokevirtual 135, 3) := by decide +kernel
theorem d_X7_take_141 : decode b_X7_take 141 = .ok (.goto 96, 3) := by decide +kernel
theorem d_X7_take_144 : decode b_X7_take 144 = .ok (.aload_n 0, 1) := by decide +kernel
theorem d_X7_take_145 : decode b_X7_take 145 = .ok (.getfield 49, 3) := by decide +kernel
theorem d_X7_take_148 : decode b_X7_take 148 = .ok (.invokevirtual 138, 3) := by decide +kernel
theorem d_X7_take_151 : decode b_X7_take 151 = .ok (.pop, 1) := by decide +kernel
theorem d_X7_take_152 : decode b_X7_take 152 = .ok (.aload_n 0, 1) := by decide +kernel
theorem d_X7_take_153 : decode b_X7_take 153 = .ok (.getfield 44, 3) := by decide +kernel
theorem d_X7_take_156 : decode b_X7_take 156 = .ok (.iconst 2, 1) := by decide +kernel
theorem d_X7_take_157 : decode b_X7_take 157 = .ok (.iconst 0, 1) := by decide +kernel
theorem d_X7_take_158 : decode b_X7_take 158 = .ok (.iconst 0, 1) := by decide +kernel
theorem d_X7_take_159 : decode b_X7_take 159 = .ok (.iconst 0, 1) := by decide +kernel
theorem d_X7_take_160 : decode b_X7_take 160 = .ok (.invokevirtual 141, 3) := by decide +kernel
theorem d_X7_take_163 : decode b_X7_take 163 = .ok (.pop, 1) := by decide +kernel
theorem d_X7_take_164 : decode b_X7_take 164 = .ok (.goto 73, 3) := by decide +kernel
theorem d_X7_take_167 : decode b_X7_take 167 = .ok (.aload_n 0, 1) := by decide +kernel
theorem d_X7_take_168 : decode b_X7_take 168 = .ok (.iload_n 1, 1) := by decide +kernel
theorem d_X7_take_169 : decode b_X7_take 169 = .ok (.iload_n 3, 1) := by decide +kernel
theorem d_X7_take_170 : decode b_X7_take 170 = .ok (.invokevirtual 145, 3) := by decide +kernel
theorem d_X7_take_173 : decode b_X7_take 173 = .ok (.goto 64, 3) := by decide +kernel
theorem d_X7_take_176 : decode b_X7_take 176 = .ok (.aload_n 0, 1) := by decide +kernel
theorem d_X7_take_177 : decode b_X7_take 177 = .ok (.iload_n 3, 1) := by decide +kernel
theorem d_X7_take_178 : decode b_X7_take 178 = .ok (.iload_n 1, 1) := by decide +kernel
theorem d_X7_take_179 : decode b_X7_take 179 = .ok (.bipush 36, 2) := by decide +kernel
theorem d_X7_take_181 : decode b_X7_take 181 = .ok (.if_icmp .ne 10, 3) := by decide +kernel
theorem d_X7_take_184 : decode b_X7_take 184 = .ok (.aload_n 0, 1) := by decide +kernel
theorem d_X7_take_185 : decode b_X7_take 185 = .ok (.getfield 18, 3) := by decide +kernel
theorem d_X7_take_188 : decode b_X7_take 188 = .ok (.goto 7, 3) := by decide +kernel
theorem d_X7_take_191 : decode b_X7_take 191 = .ok (.aload_n 0, 1) := by decide +kernel
theorem d_X7_take_192 : decode b_X7_take 192 = .ok (.getfield 21, 3) := by decide +kernel
theorem d_X7_take_195 : decode b_X7_take 195 = .ok (.invokevirtual 148, 3) := by decide +kernel
theorem d_X7_take_198 : decode b_X7_take 198 = .ok (.goto 39, 3) := by decide +kernel
theorem d_X7_take_201 : decode b_X7_take 201 = .ok (.aload_n 0, 1) := by decide +kernel
theorem d_X7_take_202 : decode b_X7_take 202 = .ok (.iload_n 3, 1) := by decide +kernel
theorem d_X7_take_203 : decode b_X7_take 203 = .ok (.iload 4, 2) := by decide +kernel
theorem d_X7_take_205 : decode b_X7_take 205 = .ok (.invokevirtual 152, 3) := by decide +kernel
theorem d_X7_take_208 : decode b_X7_take 208 = .ok (.goto 29, 3) := by decide +kernel
theorem d_X7_take_211 : decode b_X7_take 211 = .ok (.aload_n 0, 1) := by decide +kernel
theorem d_X7_take_212 : decode b_X7_take 212 = .ok (.iload_n 1, 1) := by decide +kernel
theorem d_X7_take_213 : decode b_X7_take 213 = .ok (.iload_n 3, 1) := by decide +kernel
theorem d_X7_take_214 : decode b_X7_take 214 = .ok (.invokevirtual 156, 3) := by decide +kernel
theorem d_X7_take_217 : decode b_X7_take 217 = .ok (.goto 20, 3) := by decide +kernel
theorem d_X7_take_220 : decode b_X7_take 220 = .ok (.aload_n 0, 1) := by decide +kernel
theorem d_X7_take_221 : decode b_X7_take 221 = .ok (.iload_n 1, 1) := by decide +kernel
theorem d_X7_take_222 : decode b_X7_take 222 = .ok (.iload_n 3, 1) := by decide +kernel
theorem d_X7_take_223 : decode b_X7_take 223 = .ok (.invokevirtual 159, 3) := by decide +kernel
theorem d_X7_take_226 : decode b_X7_take 226 = .ok (.goto 11, 3) := by decide +kernel
theorem d_X7_take_229 : decode b_X7_take 229 = .ok (.aload_n 0, 1) := by decide +kernel
theorem d_X7_take_230 : decode b_X7_take 230 = .ok (.iload_n 1, 1) := by decide +kernel
theorem d_X7_take_231 : decode b_X7_take 231 = .ok (.iload_n 3, 1) := by decide +kernel
theorem d_X7_take_232 : decode b_X7_take 232 = .ok (.iload 4, 2) := by decide +kernel
theorem d_X7_take_234 : decode b_X7_take 234 = .ok (.invokevirtual 162, 3) := by decide +kernel
theorem d_X7_take_237 : decode b_X7_take 237 = .ok (.return_, 1) := by decide +kernel
theorem d_X7_turn_0 : decode b_X7_turn 0 = .ok (.aload_n 0, 1) := by decide +kernel
theorem d_X7_turn_1 : decode b_X7_turn 1 = .ok (.getfield 44, 3) := by decide +kernel
theorem d_X7_turn_4 : decode b_X7_turn 4 = .ok (.bipush 31, 2) := by decide +kernel
theorem d_X7_turn_6 : decode b_X7_turn 6 = .ok (.aload_n 0, 1) := by decide +kernel
theorem d_X7_turn_7 : decode b_X7_turn 7 = .ok (.getfield 34, 3) := by decide +kernel
theorem d_X7_turn_10 : decode b_X7_turn 10 = .ok (.getfield 183, 3) := by decide +kernel
theorem d_X7_turn_13 : decode b_X7_turn 13 = .ok (.getfield 187, 3) := by decide +kernel
theorem d_X7_turn_16 : decode b_X7_turn 16 = .ok (.iload_n 1, 1) := by decide +kernel
theorem d_X7_turn_17 : decode b_X7_turn 17 = .ok (.invokestatic 80, 3) := by decide +kernel
theorem d_X7_turn_20 : decode b_X7_turn 20 = .ok (.iconst 0, 1) := by decide +kernel
theorem d_X7_turn_21 : decode b_X7_turn 21 = .ok (.iconst 0, 1) := by decide +kernel
theorem d_X7_turn_22 : decode b_X7_turn 22 = .ok (.invokevirtual 141, 3) := by decide +kernel
theorem d_X7_turn_25 : decode b_X7_turn 25 = .ok (.pop, 1) := by decide +kernel
theorem d_X7_turn_26 : decode b_X7_turn 26 = .ok (.return_, 1) := by decide +kernel
theorem d_X7_walk_0 : decode b_X7_walk 0 = .ok (.aload_n 0, 1) := by decide +kernel
theorem d_X7_walk_1 : decode b_X7_walk 1 = .ok (.getfield 34, 3) := by decide +kernel
theorem d_X7_walk_4 : decode b_X7_walk 4 = .ok (.iload_n 1, 1) := by decide +kernel
theorem d_X7_walk_5 : decode b_X7_walk 5 = .ok (.invokevirtual 54, 3) := by decide +kernel
theorem d_X7_walk_8 : decode b_X7_walk 8 = .ok (.aload_n 0, 1) := by decide +kernel
theorem d_X7_walk_9 : decode b_X7_walk 9 = .ok (.getfield 50, 3) := by decide +kernel
theorem d_X7_walk_12 : decode b_X7_walk 12 = .ok (.invokevirtual 60, 3) := by decide +kernel
theorem d_X7_walk_15 : decode b_X7_walk 15 = .ok (.aload_n 0, 1) := by decide +kernel
theorem d_X7_walk_16 : decode b_X7_walk 16 = .ok (.getfield 49, 3) := by decide +kernel
theorem d_X7_walk_19 : decode b_X7_walk 19 = .ok (.iconst 0, 1) := by decide +kernel
theorem d_X7_walk_20 : decode b_X7_walk 20 = .ok (.putfield 62, 3) := by decide +kernel
theorem d_X7_walk_23 : decode b_X7_walk 23 = .ok (.aload_n 0, 1) := by decide +kernel
theorem d_X7_walk_24 : decode b_X7_walk 24 = .ok (.iconst 0, 1) := by decide +kernel
theorem d_X7_walk_25 : decode b_X7_walk 25 = .ok (.putfield 68, 3) := by decide +kernel
theorem d_X7_walk_28 : decode b_X7_walk 28 = .ok (.iconst 0, 1) := by decide +kernel
theorem d_X7_walk_29 : decode b_X7_walk 29 = .ok (.istore_n 2, 1) := by decide +kernel
theorem d_X7_walk_30 : decode b_X7_walk 30 = .ok (.aload_n 0, 1) := by decide +kernel
theorem d_X7_walk_31 : decode b_X7_walk 31 = .ok (.getfield 30, 3) := by decide +kernel
theorem d_X7_walk_34 : decode b_X7_walk 34 = .ok (.getfield 71, 3) := by decide +kernel
theorem d_X7_walk_37 : decode b_X7_walk 37 = .ok (.istore_n 3, 1) := by decide +kernel
theorem d_X7_walk_38 : decode b_X7_walk 38 = .ok (.iload_n 3, 1) := by decide +kernel
theorem d_X7_walk_39 : decode b_X7_walk 39 = .ok (.ifCond .le 137, 3) := by decide +kernel
theorem d_X7_walk_42 : decode b_X7_walk 42 = .ok (.iload_n 2, 1) := by decide +kernel
theorem d_X7_walk_43 : decode b_X7_walk 43 = .ok (.aload_n 0, 1) := by decide +kernel
theorem d_X7_walk_44 : decode b_X7_walk 44 = .ok (.getfield 30, 3) := by decide +kernel
theorem d_X7_walk_47 : decode b_X7_walk 47 = .ok (.getfield 71, 3) := by decide +kernel
theorem d_X7_walk_50 : decode b_X7_walk 50 = .ok (.if_icmp .ge 126, 3) := by decide +kernel
theorem d_X7_walk_53 : decode b_X7_walk 53 = .ok (.aload_n 0, 1) := by decide +kernel
theorem d_X7_walk_54 : decode b_X7_walk 54 = .ok (.getfield 34, 3) := by decide +kernel
theorem d_X7_walk_57 : decode b_X7_walk 57 = .ok (.getfield 74, 3) := by decide +kernel
theorem d_X7_walk_60 : decode b_X7_walk 60 = .ok (.ifCond .ne 116, 3) := by decide +kernel
theorem d_X7_walk_63 : decode b_X7_walk 63 = .ok (.aload_n 0, 1) := by decide +kernel
theorem d_X7_walk_64 : decode b_X7_walk 64 = .ok (.getfield 30, 3) := by decide +kernel
theorem d_X7_walk_67 : decode b_X7_walk 67 = .ok (.getfield 77, 3) := by decide +kernel
theorem d_X7_walk_70 : decode b_X7_walk 70 = .ok (.iload_n 2, 1) := by decide +kernel
theorem d_X7_walk_71 : decode b_X7_walk 71 = .ok (.invokestatic 80, 3) := by decide +kernel
theorem d_X7_walk_74 : decode b_X7_walk 74 = .ok (.istore 4, 2) := by decide +kernel
theorem d_X7_walk_76 : decode b_X7_walk 76 = .ok (.iload 4, 2) := by decide +kernel
theorem d_X7_walk_78 : decode b_X7_walk 78 = .ok (.bipush 20, 2) := by decide +kernel
theorem d_X7_walk_80 : decode b_X7_walk 80 = .ok (.if_icmp .ge 14, 3) := by decide +kernel
theorem d_X7_walk_83 : decode b_X7_walk 83 = .ok (.aload_n 0, 1) := by decide +kernel
theorem d_X7_walk_84 : decode b_X7_walk 84 = .ok (.getfield 49, 3) := by decide +kernel
theorem d_X7_walk_87 : decode b_X7_walk 87 = .ok (.iload_n 2, 1) := by decide +kernel
theorem d_X7_walk_88 : decode b_X7_walk 88 = .ok (.invokevirtual 84, 3) := by decide +kernel
theorem d_X7_walk_91 : decode b_X7_walk 91 = .ok (.goto 76, 3) := by decide +kernel
theorem d_X7_walk_94 : decode b_X7_walk 94 = .ok (.iload 4, 2) := by decide +kernel
theorem d_X7_walk_96 : decode b_X7_walk 96 = .ok (.bipush 40, 2) := by decide +kernel
theorem d_X7_walk_98 : decode b_X7_walk 98 = .ok (.if_icmp .ge 13, 3) := by decide +kernel
theorem d_X7_walk_101 : decode b_X7_walk 101 = .ok (.aload_n 0, 1) := by decide +kernel
theorem d_X7_walk_102 : decode b_X7_walk 102 = .ok (.iload 4, 2) := by decide +kernel
theorem d_X7_walk_104 : decode b_X7_walk 104 = .ok (.iload_n 2, 1) := by decide +kernel
theorem d_X7_walk_105 : decode b_X7_walk 105 = .ok (.invokevirtual 87, 3) := by decide +kernel
theorem d_X7_walk_108 : decode b_X7_walk 108 = .ok (.goto 59, 3) := by decide +kernel
theorem d_X7_walk_111 : decode b_X7_walk 111 = .ok (.iload 4, 2) := by decide +kernel
theorem d_X7_walk_113 : decode b_X7_walk 113 = .ok (.bipush 40, 2) := by decide +kernel
theorem d_X7_walk_115 : decode b_X7_walk 115 = .ok (.if_icmp .eq 16, 3) := by decide +kernel
theorem d_X7_walk_118 : decode b_X7_walk 118 = .ok (.aload_n 0, 1) := by decide +kernel
theorem d_X7_walk_119 : decode b_X7_walk 119 = .ok (.getfield 50, 3) := by decide +kernel
theorem d_X7_walk_122 : decode b_X7_walk 122 = .ok (.iload 4, 2) := by decide +kernel
theorem d_X7_walk_124 : decode b_X7_walk 124 = .ok (.iload_n 2, 1) := by decide +kernel
theorem d_X7_walk_125 : decode b_X7_walk 125 = .ok (.invokevirtual 90, 3) := by decide +kernel
theorem d_X7_walk_128 : decode b_X7_walk 128 = .ok (.goto 39, 3) := by decide +kernel
theorem d_X7_walk_131 : decode b_X7_walk 131 = .ok (.aload_n 0, 1) := by decide +kernel
theorem d_X7_walk_132 : decode b_X7_walk 132 = .ok (.getfield 30, 3) := by decide +kernel
theorem d_X7_walk_135 : decode b_X7_walk 135 = .ok (.getfield 91, 3) := by decide +kernel
theorem d_X7_walk_138 : decode b_X7_walk 138 = .ok (.iload_n 2, 1) := by decide +kernel
theorem d_X7_walk_139 : decode b_X7_walk 139 = .ok (.invokestatic 80, 3) := by decide +kernel
theorem d_X7_walk_142 : decode b_X7_walk 142 = .ok (.istore 5, 2) := by decide +kernel
theorem d_X7_walk_144 : decode b_X7_walk 144 = .ok (.aload_n 0, 1) := by decide +kernel
theorem d_X7_walk_145 : decode b_X7_walk 145 = .ok (.getfield 50, 3) := by decide +kernel
theorem d_X7_walk_148 : decode b_X7_walk 148 = .ok (.aload_n 0, 1) := by decide +kernel
theorem d_X7_walk_149 : decode b_X7_walk 149 = .ok (.iload_n 2, 1) := by decide +kernel
theorem d_X7_walk_150 : decode b_X7_walk 150 = .ok (.iconst 1, 1) := by decide +kernel
theorem d_X7_walk_151 : decode b_X7_walk 151 = .ok (.iadd, 1) := by decide +kernel
theorem d_X7_walk_152 : decode b_X7_walk 152 = .ok (.iload 5, 2) := by decide +kernel
theorem d_X7_walk_154 : decode b_X7_walk 154 = .ok (.invokevirtual 94, 3) := by decide +kernel
theorem d_X7_walk_157 : decode b_X7_walk 157 = .ok (.putfield 98, 3) := by decide +kernel
theorem d_X7_walk_160 : decode b_X7_walk 160 = .ok (.iload_n 2, 1) := by decide +kernel
theorem d_X7_walk_161 : decode b_X7_walk 161 = .ok (.iload 5, 2) := by decide +kernel
theorem d_X7_walk_163 : decode b_X7_walk 163 = .ok (.invokestatic 101, 3) := by decide +kernel
theorem d_X7_walk_166 : decode b_X7_walk 166 = .ok (.istore_n 2, 1) := by decide +kernel
theorem d_X7_walk_167 : decode b_X7_walk 167 = .ok (.iinc 2 1, 3) := by decide +kernel
theorem d_X7_walk_170 : decode b_X7_walk 170 = .ok (.iinc 3 (-1), 3) := by decide +kernel
theorem d_X7_walk_173 : decode b_X7_walk 173 = .ok (.goto (-135), 3) := by decide +kernel
theorem d_X7_walk_176 : decode b_X7_walk 176 = .ok (.aload_n 0, 1) := by decide +kernel
theorem d_X7_walk_177 : decode b_X7_walk 177 = .ok (.getfield 34, 3) := by decide +kernel
theorem d_X7_walk_180 : decode b_X7_walk 180 = .ok (.invokevirtual 106, 3) := by decide +kernel
theorem d_X7_walk_183 : decode b_X7_walk 183 = .ok (.return_, 1) := by decide +kernel
theorem d_X7_whileLoop_0 : decode b_X7_whileLoop 0 = .ok (.iload_n 1, 1) := by decide +kernel
theorem d_X7_whileLoop_1 : decode b_X7_whileLoop 1 = .ok (.bipush 26, 2) := by decide +kernel
theorem d_X7_whileLoop_3 : decode b_X7_whileLoop 3 = .ok (.if_icmp .ne 11, 3) := by decide +kernel
theorem d_X7_whileLoop_6 : decode b_X7_whileLoop 6 = .ok (.aload_n 0, 1) := by decide +kernel
theorem d_X7_whileLoop_7 : decode b_X7_whileLoop 7 = .ok (.iconst 1, 1) := by decide +kernel
theorem d_X7_whileLoop_8 : decode b_X7_whileLoop 8 = .ok (.invokevirtual 196, 3) := by decide +kernel
theorem d_X7_whileLoop_11 : decode b_X7_whileLoop 11 = .ok (.goto 80, 3) := by decide +kernel
theorem d_X7_whileLoop_14 : decode b_X7_whileLoop 14 = .ok (.iload_n 1, 1) := by decide +kernel
theorem d_X7_whileLoop_15 : decode b_X7_whileLoop 15 = .ok (.bipush 27, 2) := by decide +kernel
theorem d_X7_whileLoop_17 : decode b_X7_whileLoop 17 = .ok (.if_icmp .ne 20, 3) := by decide +kernel
theorem d_X7_whileLoop_20 : decode b_X7_whileLoop 20 = .ok (.aload_n 0, 1) := by decide +kernel
theorem d_X7_whileLoop_21 : decode b_X7_whileLoop 21 = .ok (.aload_n 0, 1) := by decide +kernel
theorem d_X7_whileLoop_22 : decode b_X7_whileLoop 22 = .ok (.iload_n 2, 1) := by decide +kernel
theorem d_X7_whileLoop_23 : decode b_X7_whileLoop 23 = .ok (.invokevirtual 192, 3) := by decide +kernel
theorem d_X7_whileLoop_26 : decode b_X7_whileLoop 26 = .ok (.invokevirtual 199, 3) := by decide +kernel
theorem d_X7_whileLoop_29 : decode b_X7_whileLoop 29 = .ok (.aload_n 0, 1) := by decide +kernel
theorem d_X7_whileLoop_30 : decode b_X7_whileLoop 30 = .ok (.iload_n 2, 1) := by decide +kernel
theorem d_X7_whileLoop_31 : decode b_X7_whileLoop 31 = .ok (.invokevirtual 220, 3) := by decide +kernel
theorem d_X7_whileLoop_34 : decode b_X7_whileLoop 34 = .ok (.goto 57, 3) := by decide +kernel
theorem d_X7_whileLoop_37 : decode b_X7_whileLoop 37 = .ok (.aload_n 0, 1) := by decide +kernel
theorem d_X7_whileLoop_38 : decode b_X7_whileLoop 38 = .ok (.getfield 44, 3) := by decide +kernel
theorem d_X7_whileLoop_41 : decode b_X7_whileLoop 41 = .ok (.aload_n 0, 1) := by decide +kernel
theorem d_X7_whileLoop_42 : decode b_X7_whileLoop 42 = .ok (.getfield 21, 3) := by decide +kernel
theorem d_X7_whileLoop_45 : decode b_X7_whileLoop 45 = .ok (.aload_n 0, 1) := by decide +kernel
theorem d_X7_whileLoop_46 : decode b_X7_whileLoop 46 = .ok (.getfield 68, 3) := by decide +kernel
theorem d_X7_whileLoop_49 : decode b_X7_whileLoop 49 = .ok (.iconst 1, 1) := by decide +kernel
theorem d_X7_whileLoop_50 : decode b_X7_whileLoop 50 = .ok (.isub, 1) := by decide +kernel
theorem d_X7_whileLoop_51 : decode b_X7_whileLoop 51 = .ok (.invokestatic 80, 3) := by decide +kernel
theorem d_X7_whileLoop_54 : decode b_X7_whileLoop 54 = .ok (.aload_n 0, 1) := by decide +kernel
theorem d_X7_whileLoop_55 : decode b_X7_whileLoop 55 = .ok (.getfield 15, 3) := by decide +kernel
theorem d_X7_whileLoop_58 : decode b_X7_whileLoop 58 = .ok (.aload_n 0, 1) := by decide +kernel
theorem d_X7_whileLoop_59 : decode b_X7_whileLoop 59 = .ok (.getfield 68, 3) := by decide +kernel
theorem d_X7_whileLoop_62 : decode b_X7_whileLoop 62 = .ok (.iconst 1, 1) := by decide +kernel
theorem d_X7_whileLoop_63 : decode b_X7_whileLoop 63 = .ok (.isub, 1) := by decide +kernel
theorem d_X7_whileLoop_64 : decode b_X7_whileLoop 64 = .ok (.invokestatic 80, 3) := by decide +kernel
theorem d_X7_whileLoop_67 : decode b_X7_whileLoop 67 = .ok (.invokevirtual 170, 3) := by decide +kernel
theorem d_X7_whileLoop_70 : decode b_X7_whileLoop 70 = .ok (.aload_n 0, 1) := by decide +kernel
theorem d_X7_whileLoop_71 : decode b_X7_whileLoop 71 = .ok (.aload_n 0, 1) := by decide +kernel
theorem d_X7_whileLoop_72 : decode b_X7_whileLoop 72 = .ok (.getfield 15, 3) := by decide +kernel
theorem d_X7_whileLoop_75 : decode b_X7_whileLoop 75 = .ok (.aload_n 0, 1) := by decide +kernel
theorem d_X7_whileLoop_76 : decode b_X7_whileLoop 76 = .ok (.getfield 68, 3) := by decide +kernel
theorem d_X7_whileLoop_79 : decode b_X7_whileLoop 79 = .ok (.iconst 1, 1) := by decide +kernel
theorem d_X7_whileLoop_80 : decode b_X7_whileLoop 80 = .ok (.isub, 1) := by decide +kernel
theorem d_X7_whileLoop_81 : decode b_X7_whileLoop 81 = .ok (.invokestatic 80, 3) := by decide +kernel
theorem d_X7_whileLoop_84 : decode b_X7_whileLoop 84 = .ok (.invokevirtual 223, 3) := by decide +kernel
theorem d_X7_whileLoop_87 : decode b_X7_whileLoop 87 = .ok (.aload_n 0, 1) := by decide +kernel
theorem d_X7_whileLoop_88 : decode b_X7_whileLoop 88 = .ok (.invokevirtual 203, 3) := by decide +kernel
theorem d_X7_whileLoop_91 : decode b_X7_whileLoop 91 = .ok (.return_, 1) := by decide +kernel
theorem d_X8_init_0 : decode b_X8_init 0 = .ok (.aload_n 0, 1) := by decide +kernel
theorem d_X8_init_1 : decode b_X8_init 1 = .ok (.invokespecial 3, 3) := by decide +kernel
theorem d_X8_init_4 : decode b_X8_init 4 = .ok (.aload_n 0, 1) := by decide +kernel
theorem d_X8_init_5 : decode b_X8_init 5 = .ok (.iconst 0, 1) := by decide +kernel
theorem d_X8_init_6 : decode b_X8_init 6 = .ok (.putfield 9, 3) := by decide +kernel
theorem d_X8_init_9 : decode b_X8_init 9 = .ok (.aload_n 0, 1) := by decide +kernel
theorem d_X8_init_10 : decode b_X8_init 10 = .ok (.sipush 10100, 3) := by decide +kernel
theorem d_X8_init_13 : decode b_X8_init 13 = .ok (.newarray .int, 2) := by decide +kernel
theorem d_X8_init_15 : decode b_X8_init 15 = .ok (.putfield 15, 3) := by decide +kernel
theorem d_X8_init_18 : decode b_X8_init 18 = .ok (.aload_n 0, 1) := by decide +kernel
theorem d_X8_init_19 : decode b_X8_init 19 = .ok (.sipush 10100, 3) := by decide +kernel
theorem d_X8_init_22 : decode b_X8_init 22 = .ok (.newarray .int, 2) := by decide +kernel
theorem d_X8_init_24 : decode b_X8_init 24 = .ok (.putfield 19, 3) := by decide +kernel
theorem d_X8_init_27 : decode b_X8_init 27 = .ok (.aload_n 0, 1) := by decide +kernel
theorem d_X8_init_28 : decode b_X8_init 28 = .ok (.sipush 10100, 3) := by decide +kernel
theorem d_X8_init_31 : decode b_X8_init 31 = .ok (.newarray .int, 2) := by decide +kernel
theorem d_X8_init_33 : decode b_X8_init 33 = .ok (.putfield 22, 3) := by decide +kernel
theorem d_X8_init_36 : decode b_X8_init 36 = .ok (.aload_n 0, 1) := by decide +kernel
theorem d_X8_init_37 : decode b_X8_init 37 = .ok (.sipush 10100, 3) := by decide +kernel
theorem d_X8_init_40 : decode b_X8_init 40 = .ok (.newarray .int, 2) := by decide +kernel
theorem d_X8_init_42 : decode b_X8_init 42 = .ok (.putfield 25, 3) := by decide +kernel
theorem d_X8_init_45 : decode b_X8_init 45 = .ok (.aload_n 0, 1) := by decide +kernel
theorem d_X8_init_46 : decode b_X8_init 46 = .ok (.sipush 10100, 3) := by decide +kernel
theorem d_X8_init_49 : decode b_X8_init 49 = .ok (.newarray .int, 2) := by decide +kernel
theorem d_X8_init_51 : decode b_X8_init 51 = .ok (.putfield 28, 3) := by decide +kernel
theorem d_X8_init_54 : decode b_X8_init 54 = .ok (.aload_n 0, 1) := by decide +kernel
theorem d_X8_init_55 : decode b_X8_init 55 = .ok (.iconst 0, 1) := by decide +kernel
theorem d_X8_init_56 : decode b_X8_init 56 = .ok (.putfield 31, 3) := by decide +kernel
theorem d_X8_init_59 : decode b_X8_init 59 = .ok (.aload_n 0, 1) := by decide +kernel
theorem d_X8_init_60 : decode b_X8_init 60 = .ok (.ldc 34, 2) := by decide +kernel
theorem d_X8_init_62 : decode b_X8_init 62 = .ok (.newarray .byte, 2) := by decide +kernel
theorem d_X8_init_64 : decode b_X8_init 64 = .ok (.putfield 35, 3) := by decide +kernel
theorem d_X8_init_67 : decode b_X8_init 67 = .ok (.aload_n 0, 1) := by decide +kernel
theorem d_X8_init_68 : decode b_X8_init 68 = .ok (.iconst 0, 1) := by decide +kernel
theorem d_X8_init_69 : decode b_X8_init 69 = .ok (.putfield 39, 3) := by decide +kernel
theorem d_X8_init_72 : decode b_X8_init 72 = .ok (.aload_n 0, 1) := by decide +kernel
theorem d_X8_init_73 : decode b_X8_init 73 = .ok (.ldc 42, 2) := by decide +kernel
theorem d_X8_init_75 : decode b_X8_init 75 = .ok (.newarray .int, 2) := by decide +kernel
theorem d_X8_init_77 : decode b_X8_init 77 = .ok (.putfield 43, 3) := by decide +kernel
theorem d_X8_init_80 : decode b_X8_init 80 = .ok (.aload_n 0, 1) := by decide +kernel
theorem d_X8_init_81 : decode b_X8_init 81 = .ok (.ldc 42, 2) := by decide +kernel
theorem d_X8_init_83 : decode b_X8_init 83 = .ok (.newarray .int, 2) := by decide +kernel
theorem d_X8_init_85 : decode b_X8_init 85 = .ok (.putfield 46, 3) := by decide +kernel
theorem d_X8_init_88 : decode b_X8_init 88 = .ok (.aload_n 0, 1) := by decide +kernel
theorem d_X8_init_89 : decode b_X8_init 89 = .ok (.ldc 42, 2) := by decide +kernel
theorem d_X8_init_91 : decode b_X8_init 91 = .ok (.newarray .int, 2) := by decide +kernel
theorem d_X8_init_93 : decode b_X8_init 93 = .ok (.putfield 49, 3) := by decide +kernel
theorem d_X8_init_96 : decode b_X8_init 96 = .ok (.aload_n 0, 1) := by decide +kernel
theorem d_X8_init_97 : decode b_X8_init 97 = .ok (.iconst 0, 1) := by decide +kernel
theorem d_X8_init_98 : decode b_X8_init 98 = .ok (.putfield 52, 3) := by decide +kernel
theorem d_X8_init_101 : decode b_X8_init 101 = .ok (.aload_n 0, 1) := by decide +kernel
theorem d_X8_init_102 : decode b_X8_init 102 = .ok (.bipush 101, 2) := by decide +kernel
theorem d_X8_init_104 : decode b_X8_init 104 = .ok (.newarray .int, 2) := by decide +kernel
theorem d_X8_init_106 : decode b_X8_init 106 = .ok (.putfield 55, 3) := by decide +kernel
theorem d_X8_init_109 : decode b_X8_init 109 = .ok (.aload_n 0, 1) := by decide +kernel
theorem d_X8_init_110 : decode b_X8_init 110 = .ok (.bipush 101, 2) := by decide +kernel
theorem d_X8_init_112 : decode b_X8_init 112 = .ok (.newarray .int, 2) := by decide +kernel
theorem d_X8_init_114 : decode b_X8_init 114 = .ok (.putfield 58, 3) := by decide +kernel
theorem d_X8_init_117 : decode b_X8_init 117 = .ok (.aload_n 0, 1) := by decide +kernel
theorem d_X8_init_118 : decode b_X8_init 118 = .ok (.bipush 101, 2) := by decide +kernel
theorem d_X8_init_120 : decode b_X8_init 120 = .ok (.newarray .int, 2) := by decide +kernel
theorem d_X8_init_122 : decode b_X8_init 122 = .ok (.putfield 61, 3) := by decide +kernel
theorem d_X8_init_125 : decode b_X8_init 125 = .ok (.aload_n 0, 1) := by decide +kernel
theorem d_X8_init_126 : decode b_X8_init 126 = .ok (.bipush 101, 2) := by decide +kernel
theorem d_X8_init_128 : decode b_X8_init 128 = .ok (.newarray .int, 2) := by decide +kernel
theorem d_X8_init_130 : decode b_X8_init 130 = .ok (.putfield 64, 3) := by decide +kernel
theorem d_X8_init_133 : decode b_X8_init 133 = .ok (.aload_n 0, 1) := by decide +kernel
theorem d_X8_init_134 : decode b_X8_init 134 = .ok (.aload_n 1, 1) := by decide +kernel
theorem d_X8_init_135 : decode b_X8_init 135 = .ok (.putfield 67, 3) := by decide +kernel
theorem d_X8_init_138 : decode b_X8_init 138 = .ok (.iconst 0, 1) := by decide +kernel
theorem d_X8_init_139 : decode b_X8_init 139 = .ok (.istore_n 2, 1) := by decide +kernel
theorem d_X8_init_140 : decode b_X8_init 140 = .ok (.iload_n 2, 1) := by decide +kernel
theorem d_X8_init_141 : decode b_X8_init 141 = .ok (.ldc 71, 2) := by decide +kernel
theorem d_X8_init_143 : decode b_X8_init 143 = .ok (.invokevirtual 73, 3) := by decide +kernel
theorem d_X8_init_146 : decode b_X8_init 146 = .ok (.if_icmp .ge 140, 3) := by decide +kernel
theorem d_X8_init_149 : decode b_X8_init 149 = .ok (.ldc 71, 2) := by decide +kernel
theorem d_X8_init_151 : decode b_X8_init 151 = .ok (.iload_n 2, 1) := by decide +kernel
theorem d_X8_init_152 : decode b_X8_init 152 = .ok (.invokevirtual 79, 3) := by decide +kernel
theorem d_X8_init_155 : decode b_X8_init 155 = .ok (.bipush 32, 2) := by decide +kernel
theorem d_X8_init_157 : decode b_X8_init 157 = .ok (.if_icmp .eq 32, 3) := by decide +kernel
theorem d_X8_init_160 : decode b_X8_init 160 = .ok (.aload_n 0, 1) := by decide +kernel
theorem d_X8_init_161 : decode b_X8_init 161 = .ok (.getfield 35, 3) := by decide +kernel
theorem d_X8_init_164 : decode b_X8_init 164 = .ok (.aload_n 0, 1) := by decide +kernel
theorem d_X8_init_165 : decode b_X8_init 165 = .ok (.getfield 31, 3) := by decide +kernel
theorem d_X8_init_168 : decode b_X8_init 168 = .ok (.ldc 71, 2) := by decide +kernel
theorem d_X8_init_170 : decode b_X8_init 170 = .ok (.iload_n 2, 1) := by decide +kernel
theorem d_X8_init_171 : decode b_X8_init 171 = .ok (.invokevirtual 79, 3) := by decide +kernel
theorem d_X8_init_174 : decode b_X8_init 174 = .ok (.i2b, 1) := by decide +kernel
theorem d_X8_init_175 : decode b_X8_init 175 = .ok (.bastore, 1) := by decide +kernel
theorem d_X8_init_176 : decode b_X8_init 176 = .ok (.aload_n 0, 1) := by decide +kernel
theorem d_X8_init_177 : decode b_X8_init 177 = .ok (.dup, 1) := by decide +kernel
theorem d_X8_init_178 : decode b_X8_init 178 = .ok (.getfield 31, 3) := by decide +kernel
theorem d_X8_init_181 : decode b_X8_init 181 = .ok (.iconst 1, 1) := by decide +kernel
theorem d_X8_init_182 : decode b_X8_init 182 = .ok (.iadd, 1) := by decide +kernel
theorem d_X8_init_183 : decode b_X8_init 183 = .ok (.putfield 31, 3) := by decide +kernel
theorem d_X8_init_186 : decode b_X8_init 186 = .ok (.goto 94, 3) := by decide +kernel
theorem d_X8_init_189 : decode b_X8_init 189 = .ok (.aload_n 0, 1) := by decide +kernel
theorem d_X8_init_190 : decode b_X8_init 190 = .ok (.getfield 15, 3) := by decide +kernel
theorem d_X8_init_193 : decode b_X8_init 193 = .ok (.aload_n 0, 1) := by decide +kernel
theorem d_X8_init_194 : decode b_X8_init 194 = .ok (.getfield 9, 3) := by decide +kernel
theorem d_X8_init_197 : decode b_X8_init 197 = .ok (.iconst 5, 1) := by decide +kernel
theorem d_X8_init_198 : decode b_X8_init 198 = .ok (.iastore, 1) := by decide +kernel
theorem d_X8_init_199 : decode b_X8_init 199 = .ok (.aload_n 0, 1) := by decide +kernel
theorem d_X8_init_200 : decode b_X8_init 200 = .ok (.getfield 19, 3) := by decide +kernel
theorem d_X8_init_203 : decode b_X8_init 203 = .ok (.aload_n 0, 1) := by decide +kernel
theorem d_X8_init_204 : decode b_X8_init 204 = .ok (.getfield 9, 3) := by decide +kernel
theorem d_X8_init_207 : decode b_X8_init 207 = .ok (.aload_n 0, 1) := by decide +kernel
theorem d_X8_init_208 : decode b_X8_init 208 = .ok (.getfield 9, 3) := by decide +kernel
theorem d_X8_init_211 : decode b_X8_init 211 = .ok (.ifCond .ne 7, 3) := by decide +kernel
theorem d_X8_init_214 : decode b_X8_init 214 = .ok (.iconst 0, 1) := by decide +kernel
theorem d_X8_init_215 : decode b_X8_init 215 = .ok (.goto 4, 3) := by decide +kernel
theorem d_X8_init_218 : decode b_X8_init 218 = .ok (.iconst (-1), 1) := by decide +kernel
theorem d_X8_init_219 : decode b_X8_init 219 = .ok (.iastore, 1) := by decide +kernel
theorem d_X8_init_220 : decode b_X8_init 220 = .ok (.aload_n 0, 1) := by decide +kernel
theorem d_X8_init_221 : decode b_X8_init 221 = .ok (.getfield 22, 3) := by decide +kernel
theorem d_X8_init_224 : decode b_X8_init 224 = .ok (.aload_n 0, 1) := by decide +kernel
theorem d_X8_init_225 : decode b_X8_init 225 = .ok (.getfield 9, 3) := by decide +kernel
theorem d_X8_init_228 : decode b_X8_init 228 = .ok (.aload_n 0, 1) := by decide +kernel
theorem d_X8_init_229 : decode b_X8_init 229 = .ok (.getfield 9, 3) := by decide +kernel
theorem d_X8_init_232 : decode b_X8_init 232 = .ok (.ifCond .ne 7, 3) := by decide +kernel
theorem d_X8_init_235 : decode b_X8_init 235 = .ok (.iconst 0, 1) := by decide +kernel
theorem d_X8_init_236 : decode b_X8_init 236 = .ok (.goto 5, 3) := by decide +kernel
theorem d_X8_init_239 : decode b_X8_init 239 = .ok (.ldc 83, 2) := by decide +kernel
theorem d_X8_init_241 : decode b_X8_init 241 = .ok (.iastore, 1) := by decide +kernel
theorem d_X8_init_242 : decode b_X8_init 242 = .ok (.aload_n 0, 1) := by decide +kernel
theorem d_X8_init_243 : decode b_X8_init 243 = .ok (.getfield 25, 3) := by decide +kernel
theorem d_X8_init_246 : decode b_X8_init 246 = .ok (.aload_n 0, 1) := by decide +kernel
theorem d_X8_init_247 : decode b_X8_init 247 = .ok (.getfield 9, 3) := by decide +kernel
theorem d_X8_init_250 : decode b_X8_init 250 = .ok (.iconst (-1), 1) := by decide +kernel
theorem d_X8_init_251 : decode b_X8_init 251 = .ok (.aload_n 0, 1) := by decide +kernel
theorem d_X8_init_252 : decode b_X8_init 252 = .ok (.getfield 9, 3) := by decide +kernel
theorem d_X8_init_255 : decode b_X8_init 255 = .ok (.isub, 1) := by decide +kernel
theorem d_X8_init_256 : decode b_X8_init 256 = .ok (.iastore, 1) := by decide +kernel
theorem d_X8_init_257 : decode b_X8_init 257 = .ok (.aload_n 0, 1) := by decide +kernel
theorem d_X8_init_258 : decode b_X8_init 258 = .ok (.getfield 28, 3) := by decide +kernel
theorem d_X8_init_261 : decode b_X8_init 261 = .ok (.aload_n 0, 1) := by decide +kernel
theorem d_X8_init_262 : decode b_X8_init 262 = .ok (.getfield 9, 3) := by decide +kernel
theorem d_X8_init_265 : decode b_X8_init 265 = .ok (.aload_n 0, 1) := by decide +kernel
theorem d_X8_init_266 : decode b_X8_init 266 = .ok (.getfield 31, 3) := by decide +kernel
theorem d_X8_init_269 : decode b_X8_init 269 = .ok (.iastore, 1) := by decide +kernel
theorem d_X8_init_270 : decode b_X8_init 270 = .ok (.aload_n 0, 1) := by decide +kernel
theorem d_X8_init_271 : decode b_X8_init 271 = .ok (.dup, 1) := by decide +kernel
theorem d_X8_init_272 : decode b_X8_init 272 = .ok (.getfield 9, 3) := by decide +kernel
theorem d_X8_init_275 : decode b_X8_init 275 = .ok (.iconst 1, 1) := by decide +kernel
theorem d_X8_init_276 : decode b_X8_init 276 = .ok (.iadd, 1) := by decide +kernel
theorem d_X8_init_277 : decode b_X8_init 277 = .ok (.putfield 9, 3) := by decide +kernel
theorem d_X8_init_280 : decode b_X8_init 280 = .ok (.iinc 2 1, 3) := by decide +kernel
theorem d_X8_init_283 : decode b_X8_init 283 = .ok (.goto (-143), 3) := by decide +kernel
theorem d_X8_init_286 : decode b_X8_init 286 = .ok (.aload_n 0, 1) := by decide +kernel
theorem d_X8_init_287 : decode b_X8_init 287 = .ok (.getfield 55, 3) := by decide +kernel
theorem d_X8_init_290 : decode b_X8_init 290 = .ok (.iconst 0, 1) := by decide +kernel
theorem d_X8_init_291 : decode b_X8_init 291 = .ok (.aload_n 0, 1) := by decide +kernel
theorem d_X8_init_292 : decode b_X8_init 292 = .ok (.getfield 9, 3) := by decide +kernel
theorem d_X8_init_295 : decode b_X8_init 295 = .ok (.iastore, 1) := by decide +kernel
theorem d_X8_init_296 : decode b_X8_init 296 = .ok (.return_, 1) := by decide +kernel
theorem d_X8_addInitial_0 : decode b_X8_addInitial 0 = .ok (.aload_n 0, 1) := by decide +kernel
theorem d_X8_addInitial_1 : decode b_X8_addInitial 1 = .ok (.getfield 43, 3) := by decide +kernel
theorem d_X8_addInitial_4 : decode b_X8_addInitial 4 = .ok (.aload_n 0, 1) := by decide +kernel
theorem d_X8_addInitial_5 : decode b_X8_addInitial 5 = .ok (.getfield 39, 3) := by decide +kernel
theorem d_X8_addInitial_8 : decode b_X8_addInitial 8 = .ok (.iload_n 1, 1) := by decide +kernel
theorem d_X8_addInitial_9 : decode b_X8_addInitial 9 = .ok (.invokestatic 112, 3) := by decide +kernel
theorem d_X8_addInitial_12 : decode b_X8_addInitial 12 = .ok (.aload_n 0, 1) := by decide +kernel
theorem d_X8_addInitial_13 : decode b_X8_addInitial 13 = .ok (.getfield 46, 3) := by decide +kernel
theorem d_X8_addInitial_16 : decode b_X8_addInitial 16 = .ok (.aload_n 0, 1) := by decide +kernel
theorem d_X8_addInitial_17 : decode b_X8_addInitial 17 = .ok (.getfield 39, 3) := by decide +kernel
theorem d_X8_addInitial_20 : decode b_X8_addInitial 20 = .ok (.iload_n 2, 1) := by decide +kernel
theorem d_X8_addInitial_21 : decode b_X8_addInitial 21 = .ok (.invokestatic 112, 3) := by decide +kernel
theorem d_X8_addInitial_24 : decode b_X8_addInitial 24 = .ok (.aload_n 0, 1) := by decide +kernel
theorem d_X8_addInitial_25 : decode b_X8_addInitial 25 = .ok (.getfield 49, 3) := by decide +kernel
theorem d_X8_addInitial_28 : decode b_X8_addInitial 28 = .ok (.aload_n 0, 1) := by decide +kernel
theorem d_X8_addInitial_29 : decode b_X8_addInitial 29 = .ok (.getfield 39, 3) := by decide +kernel
theorem d_X8_addInitial_32 : decode b_X8_addInitial 32 = .ok (.iload_n 3, 1) := by decide +kernel
theorem d_X8_addInitial_33 : decode b_X8_addInitial 33 = .ok (.invokestatic 112, 3) := by decide +kernel
theorem d_X8_addInitial_36 : decode b_X8_addInitial 36 = .ok (.aload_n 0, 1) := by decide +kernel
theorem d_X8_addInitial_37 : decode b_X8_addInitial 37 = .ok (.aload_n 0, 1) := by decide +kernel
theorem d_X8_addInitial_38 : decode b_X8_addInitial 38 = .ok (.getfield 39, 3) := by decide +kernel
theorem d_X8_addInitial_41 : decode b_X8_addInitial 41 = .ok (.iconst 1, 1) := by decide +kernel
theorem d_X8_addInitial_42 : decode b_X8_addInitial 42 = .ok (.iadd, 1) := by decide +kernel
theorem d_X8_addInitial_43 : decode b_X8_addInitial 43 = .ok (.ldc 42, 2) := by decide +kernel
theorem d_X8_addInitial_45 : decode b_X8_addInitial 45 = .ok (.invokestatic 116, 3) := by decide +kernel
theorem d_X8_addInitial_48 : decode b_X8_addInitial 48 = .ok (.putfield 39, 3) := by decide +kernel
theorem d_X8_addInitial_51 : decode b_X8_addInitial 51 = .ok (.return_, 1) := by decide +kernel
theorem d_X8_declare_0 : decode b_X8_declare 0 = .ok (.aload_n 0, 1) := by decide +kernel
theorem d_X8_declare_1 : decode b_X8_declare 1 = .ok (.getfield 9, 3) := by decide +kernel
theorem d_X8_declare_4 : decode b_X8_declare 4 = .ok (.istore 4, 2) := by decide +kernel
theorem d_X8_declare_6 : decode b_X8_declare 6 = .ok (.iload 4, 2) := by decide +kernel
theorem d_X8_declare_8 : decode b_X8_declare 8 = .ok (.aload_n 0, 1) := by decide +kernel
theorem d_X8_declare_9 : decode b_X8_declare 9 = .ok (.getfield 28, 3) := by decide +kernel
theorem d_X8_declare_12 : decode b_X8_declare 12 = .ok (.arraylength, 1) := by decide +kernel
theorem d_X8_declare_13 : decode b_X8_declare 13 = .ok (.if_icmp .ge 33, 3) := by decide +kernel
theorem d_X8_declare_16 : decode b_X8_declare 16 = .ok (.iload_n 2, 1) := by decide +kernel
theorem d_X8_declare_17 : decode b_X8_declare 17 = .ok (.ifCond .lt 29, 3) := by decide +kernel
theorem d_X8_declare_20 : decode b_X8_declare 20 = .ok (.iload_n 3, 1) := by decide +kernel
theorem d_X8_declare_21 : decode b_X8_declare 21 = .ok (.ifCond .lt 25, 3) := by decide +kernel
theorem d_X8_declare_24 : decode b_X8_declare 24 = .ok (.iload_n 2, 1) := by decide +kernel
theorem d_X8_declare_25 : decode b_X8_declare 25 = .ok (.iload_n 3, 1) := by decide +kernel
theorem d_X8_declare_26 : decode b_X8_declare 26 = .ok (.iadd, 1) := by decide +kernel
theorem d_X8_declare_27 : decode b_X8_declare 27 = .ok (.aload_n 1, 1) := by decide +kernel
theorem d_X8_declare_28 : decode b_X8_declare 28 = .ok (.arraylength, 1) := by decide +kernel
theorem d_X8_declare_29 : decode b_X8_declare 29 = .ok (.if_icmp .gt 17, 3) := by decide +kernel
theorem d_X8_declare_32 : decode b_X8_declare 32 = .ok (.aload_n 0, 1) := by decide +kernel
theorem d_X8_declare_33 : decode b_X8_declare 33 = .ok (.getfield 31, 3) := by decide +kernel
theorem d_X8_declare_36 : decode b_X8_declare 36 = .ok (.iload_n 3, 1) := by decide +kernel
theorem d_X8_declare_37 : decode b_X8_declare 37 = .ok (.iadd, 1) := by decide +kernel
theorem d_X8_declare_38 : decode b_X8_declare 38 = .ok (.aload_n 0, 1) := by decide +kernel
theorem d_X8_declare_39 : decode b_X8_declare 39 = .ok (.getfield 35, 3) := by decide +kernel
theorem d_X8_declare_42 : decode b_X8_declare 42 = .ok (.arraylength, 1) := by decide +kernel
theorem d_X8_declare_43 : decode b_X8_declare 43 = .ok (.if_icmp .le 5, 3) := by decide +kernel
theorem d_X8_declare_46 : decode b_X8_declare 46 = .ok (.iconst (-1), 1) := by decide +kernel
theorem d_X8_declare_47 : decode b_X8_declare 47 = .ok (.ireturn, 1) := by decide +kernel
theorem d_X8_declare_48 : decode b_X8_declare 48 = .ok (.aload_n 1, 1) := by decide +kernel
theorem d_X8_declare_49 : decode b_X8_declare 49 = .ok (.iload_n 2, 1) := by decide +kernel
theorem d_X8_declare_50 : decode b_X8_declare 50 = .ok (.aload_n 0, 1) := by decide +kernel
theorem d_X8_declare_51 : decode b_X8_declare 51 = .ok (.getfield 35, 3) := by decide +kernel
theorem d_X8_declare_54 : decode b_X8_declare 54 = .ok (.aload_n 0, 1) := by decide +kernel
theorem d_X8_declare_55 : decode b_X8_declare 55 = .ok (.getfield 31, 3) := by decide +kernel
theorem d_X8_declare_58 : decode b_X8_declare 58 = .ok (.iload_n 3, 1) := by decide +kernel
theorem d_X8_declare_59 : decode b_X8_declare 59 = .ok (.invokestatic 106, 3) := by decide +kernel
theorem d_X8_declare_62 : decode b_X8_declare 62 = .ok (.aload_n 0, 1) := by decide +kernel
theorem d_X8_declare_63 : decode b_X8_declare 63 = .ok (.dup, 1) := by decide +kernel
theorem d_X8_declare_64 : decode b_X8_declare 64 = .ok (.getfield 31, 3) := by decide +kernel
theorem d_X8_declare_67 : decode b_X8_declare 67 = .ok (.iload_n 3, 1) := by decide +kernel
theorem d_X8_declare_68 : decode b_X8_declare 68 = .ok (.iadd, 1) := by decide +kernel
theorem d_X8_declare_69 : decode b_X8_declare 69 = .ok (.putfield 31, 3) := by decide +kernel
theorem d_X8_declare_72 : decode b_X8_declare 72 = .ok (.aload_n 0, 1) := by decide +kernel
theorem d_X8_declare_73 : decode b_X8_declare 73 = .ok (.getfield 28, 3) := by decide +kernel
theorem d_X8_declare_76 : decode b_X8_declare 76 = .ok (.iload 4, 2) := by decide +kernel
theorem d_X8_declare_78 : decode b_X8_declare 78 = .ok (.aload_n 0, 1) := by decide +kernel
theorem d_X8_declare_79 : decode b_X8_declare 79 = .ok (.getfield 31, 3) := by decide +kernel
theorem d_X8_declare_82 : decode b_X8_declare 82 = .ok (.iastore, 1) := by decide +kernel
theorem d_X8_declare_83 : decode b_X8_declare 83 = .ok (.aload_n 0, 1) := by decide +kernel
theorem d_X8_declare_84 : decode b_X8_declare 84 = .ok (.dup, 1) := by decide +kernel
theorem d_X8_declare_85 : decode b_X8_declare 85 = .ok (.getfield 9, 3) := by decide +kernel
theorem d_X8_declare_88 : decode b_X8_declare 88 = .ok (.iconst 1, 1) := by decide +kernel
theorem d_X8_declare_89 : decode b_X8_declare 89 = .ok (.iadd, 1) := by decide +kernel
theorem d_X8_declare_90 : decode b_X8_declare 90 = .ok (.putfield 9, 3) := by decide +kernel
theorem d_X8_declare_93 : decode b_X8_declare 93 = .ok (.aload_n 0, 1) := by decide +kernel
theorem d_X8_declare_94 : decode b_X8_declare 94 = .ok (.getfield 15, 3) := by decide +kernel
theorem d_X8_declare_97 : decode b_X8_declare 97 = .ok (.iload 4, 2) := by decide +kernel
theorem d_X8_declare_99 : decode b_X8_declare 99 = .ok (.iconst 0, 1) := by decide +kernel
theorem d_X8_declare_100 : decode b_X8_declare 100 = .ok (.invokestatic 112, 3) := by decide +kernel
theorem d_X8_declare_103 : decode b_X8_declare 103 = .ok (.aload_n 0, 1) := by decide +kernel
theorem d_X8_declare_104 : decode b_X8_declare 104 = .ok (.getfield 25, 3) := by decide +kernel
theorem d_X8_declare_107 : decode b_X8_declare 107 = .ok (.iload 4, 2) := by decide +kernel
theorem d_X8_declare_109 : decode b_X8_declare 109 = .ok (.iconst 0, 1) := by decide +kernel
theorem d_X8_declare_110 : decode b_X8_declare 110 = .ok (.invokestatic 112, 3) := by decide +kernel
theorem d_X8_declare_113 : decode b_X8_declare 113 = .ok (.iload 4, 2) := by decide +kernel
theorem d_X8_declare_115 : decode b_X8_declare 115 = .ok (.ireturn, 1) := by decide +kernel
theorem d_X8_firstOf_0 : decode b_X8_firstOf 0 = .ok (.iload_n 1, 1) := by decide +kernel
theorem d_X8_firstOf_1 : decode b_X8_firstOf 1 = .ok (.ifCond .gt 7, 3) := by decide +kernel
theorem d_X8_firstOf_4 : decode b_X8_firstOf 4 = .ok (.iconst 0, 1) := by decide +kernel
theorem d_X8_firstOf_5 : decode b_X8_firstOf 5 = .ok (.goto 13, 3) := by decide +kernel
theorem d_X8_firstOf_8 : decode b_X8_firstOf 8 = .ok (.aload_n 0, 1) := by decide +kernel
theorem d_X8_firstOf_9 : decode b_X8_firstOf 9 = .ok (.getfield 55, 3) := by decide +kernel
theorem d_X8_firstOf_12 : decode b_X8_firstOf 12 = .ok (.iload_n 1, 1) := by decide +kernel
theorem d_X8_firstOf_13 : decode b_X8_firstOf 13 = .ok (.iconst 1, 1) := by decide +kernel
theorem d_X8_firstOf_14 : decode b_X8_firstOf 14 = .ok (.isub, 1) := by decide +kernel
theorem d_X8_firstOf_15 : decode b_X8_firstOf 15 = .ok (.invokestatic 88, 3) := by decide +kernel
theorem d_X8_firstOf_18 : decode b_X8_firstOf 18 = .ok (.ireturn, 1) := by decide +kernel
theorem d_X8_forget_0 : decode b_X8_forget 0 = .ok (.aload_n 0, 1) := by decide +kernel
theorem d_X8_forget_1 : decode b_X8_forget 1 = .ok (.aload_n 0, 1) := by decide +kernel
theorem d_X8_forget_2 : decode b_X8_forget 2 = .ok (.getfield 55, 3) := by decide +kernel
theorem d_X8_forget_5 : decode b_X8_forget 5 = .ok (.aload_n 0, 1) := by decide +kernel
theorem d_X8_forget_6 : decode b_X8_forget 6 = .ok (.getfield 52, 3) := by decide +kernel
theorem d_X8_forget_9 : decode b_X8_forget 9 = .ok (.invokestatic 88, 3) := by decide +kernel
theorem d_X8_forget_12 : decode b_X8_forget 12 = .ok (.putfield 9, 3) := by decide +kernel
theorem d_X8_forget_15 : decode b_X8_forget 15 = .ok (.aload_n 0, 1) := by decide +kernel
theorem d_X8_forget_16 : decode b_X8_forget 16 = .ok (.aload_n 0, 1) := by decide +kernel
theorem d_X8_forget_17 : decode b_X8_forget 17 = .ok (.aload_n 0, 1) := by decide +kernel
theorem d_X8_forget_18 : decode b_X8_forget 18 = .ok (.getfield 9, 3) := by decide +kernel
theorem d_X8_forget_21 : decode b_X8_forget 21 = .ok (.invokevirtual 103, 3) := by decide +kernel
theorem d_X8_forget_24 : decode b_X8_forget 24 = .ok (.putfield 31, 3) := by decide +kernel
theorem d_X8_forget_27 : decode b_X8_forget 27 = .ok (.aload_n 0, 1) := by decide +kernel
theorem d_X8_forget_28 : decode b_X8_forget 28 = .ok (.aload_n 0, 1) := by decide +kernel
theorem d_X8_forget_29 : decode b_X8_forget 29 = .ok (.getfield 58, 3) := by decide +kernel
theorem d_X8_forget_32 : decode b_X8_forget 32 = .ok (.aload_n 0, 1) := by decide +kernel
theorem d_X8_forget_33 : decode b_X8_forget 33 = .ok (.getfield 52, 3) := by decide +kernel
theorem d_X8_forget_36 : decode b_X8_forget 36 = .ok (.invokestatic 88, 3) := by decide +kernel
theorem d_X8_forget_39 : decode b_X8_forget 39 = .ok (.putfield 39, 3) := by decide +kernel
theorem d_X8_forget_42 : decode b_X8_forget 42 = .ok (.aload_n 0, 1) := by decide +kernel
theorem d_X8_forget_43 : decode b_X8_forget 43 = .ok (.getfield 67, 3) := by decide +kernel
theorem d_X8_forget_46 : decode b_X8_forget 46 = .ok (.aload_n 0, 1) := by decide +kernel
theorem d_X8_forget_47 : decode b_X8_forget 47 = .ok (.getfield 61, 3) := by decide +kernel
theorem d_X8_forget_50 : decode b_X8_forget 50 = .ok (.aload_n 0, 1) := by decide +kernel
theorem d_X8_forget_51 : decode b_X8_forget 51 = .ok (.getfield 52, 3) := by decide +kernel
theorem d_X8_forget_54 : decode b_X8_forget 54 = .ok (.invokestatic 88, 3) := by decide +kernel
theorem d_X8_forget_57 : decode b_X8_forget 57 = .ok (.invokevirtual 126, 3) := by decide +kernel
theorem d_X8_forget_60 : decode b_X8_forget 60 = .ok (.return_, 1) := by decide +kernel
theorem d_X8_has_0 : decode b_X8_has 0 = .ok (.iload_n 1, 1) := by decide +kernel
theorem d_X8_has_1 : decode b_X8_has 1 = .ok (.iconst 1, 1) := by decide +kernel
theorem d_X8_has_2 : decode b_X8_has 2 = .ok (.if_icmp .lt 15, 3) := by decide +kernel
theorem d_X8_has_5 : decode b_X8_has 5 = .ok (.iload_n 1, 1) := by decide +kernel
theorem d_X8_has_6 : decode b_X8_has 6 = .ok (.aload_n 0, 1) := by decide +kernel
theorem d_X8_has_7 : decode b_X8_has 7 = .ok (.getfield 52, 3) := by decide +kernel
theorem d_X8_has_10 : decode b_X8_has 10 = .ok (.if_icmp .gt 7, 3) := by decide +kernel
theorem d_X8_has_13 : decode b_X8_has 13 = .ok (.iconst 1, 1) := by decide +kernel
theorem d_X8_has_14 : decode b_X8_has 14 = .ok (.goto 4, 3) := by decide +kernel
theorem d_X8_has_17 : decode b_X8_has 17 = .ok (.iconst 0, 1) := by decide +kernel
theorem d_X8_has_18 : decode b_X8_has 18 = .ok (.ireturn, 1) := by decide +kernel
theorem d_X8_is_0 : decode b_X8_is 0 = .ok (.aload_n 0, 1) := by decide +kernel
theorem d_X8_is_1 : decode b_X8_is 1 = .ok (.getfield 15, 3) := by decide +kernel
theorem d_X8_is_4 : decode b_X8_is 4 = .ok (.iload_n 1, 1) := by decide +kernel
theorem d_X8_is_5 : decode b_X8_is 5 = .ok (.invokestatic 88, 3) := by decide +kernel
theorem d_X8_is_8 : decode b_X8_is 8 = .ok (.iload_n 2, 1) := by decide +kernel
theorem d_X8_is_9 : decode b_X8_is 9 = .ok (.iand, 1) := by decide +kernel
theorem d_X8_is_10 : decode b_X8_is 10 = .ok (.ifCond .eq 7, 3) := by decide +kernel
theorem d_X8_is_13 : decode b_X8_is 13 = .ok (.iconst 1, 1) := by decide +kernel
theorem d_X8_is_14 : decode b_X8_is 14 = .ok (.goto 4, 3) := by decide +kernel
theorem d_X8_is_17 : decode b_X8_is 17 = .ok (.iconst 0, 1) := by decide +kernel
theorem d_X8_is_18 : decode b_X8_is 18 = .ok (.ireturn, 1) := by decide +kernel
theorem d_X8_isNamed_0 : decode b_X8_isNamed 0 = .ok (.aload_n 0, 1) := by decide +kernel
theorem d_X8_isNamed_1 : decode b_X8_isNamed 1 = .ok (.getfield 28, 3) := by decide +kernel
theorem d_X8_isNamed_4 : decode b_X8_isNamed 4 = .ok (.iload_n 1, 1) := by decide +kernel
theorem d_X8_isNamed_5 : decode b_X8_isNamed 5 = .ok (.iconst 1, 1) := by decide +kernel
theorem d_X8_isNamed_6 : decode b_X8_isNamed 6 = .ok (.isub, 1) := by decide +kernel
theorem d_X8_isNamed_7 : decode b_X8_isNamed 7 = .ok (.invokestatic 88, 3) := by decide +kernel
theorem d_X8_isNamed_10 : decode b_X8_isNamed 10 = .ok (.istore 5, 2) := by decide +kernel
theorem d_X8_isNamed_12 : decode b_X8_isNamed 12 = .ok (.aload_n 0, 1) := by decide +kernel
theorem d_X8_isNamed_13 : decode b_X8_isNamed 13 = .ok (.getfield 28, 3) := by decide +kernel
theorem d_X8_isNamed_16 : decode b_X8_isNamed 16 = .ok (.iload_n 1, 1) := by decide +kernel
theorem d_X8_isNamed_17 : decode b_X8_isNamed 17 = .ok (.invokestatic 88, 3) := by decide +kernel
theorem d_X8_isNamed_20 : decode b_X8_isNamed 20 = .ok (.iload 5, 2) := by decide +kernel
theorem d_X8_isNamed_22 : decode b_X8_isNamed 22 = .ok (.isub, 1) := by decide +kernel
theorem d_X8_isNamed_23 : decode b_X8_isNamed 23 = .ok (.iload 4, 2) := by decide +kernel
theorem d_X8_isNamed_25 : decode b_X8_isNamed 25 = .ok (.if_icmp .eq 5, 3) := by decide +kernel
theorem d_X8_isNamed_28 : decode b_X8_isNamed 28 = .ok (.iconst 0, 1) := by decide +kernel
theorem d_X8_isNamed_29 : decode b_X8_isNamed 29 = .ok (.ireturn, 1) := by decide +kernel
theorem d_X8_isNamed_30 : decode b_X8_isNamed 30 = .ok (.iconst 0, 1) := by decide +kernel
theorem d_X8_isNamed_31 : decode b_X8_isNamed 31 = .ok (.istore 6, 2) := by decide +kernel
theorem d_X8_isNamed_33 : decode b_X8_isNamed 33 = .ok (.iload 6, 2) := by decide +kernel
theorem d_X8_isNamed_35 : decode b_X8_isNamed 35 = .ok (.iload 4, 2) := by decide +kernel
theorem d_X8_isNamed_37 : decode b_X8_isNamed 37 = .ok (.if_icmp .ge 56, 3) := by decide +kernel
theorem d_X8_isNamed_40 : decode b_X8_isNamed 40 = .ok (.iload 5, 2) := by decide +kernel
theorem d_X8_isNamed_42 : decode b_X8_isNamed 42 = .ok (.iload 6, 2) := by decide +kernel
theorem d_X8_isNamed_44 : decode b_X8_isNamed 44 = .ok (.iadd, 1) := by decide +kernel
theorem d_X8_isNamed_45 : decode b_X8_isNamed 45 = .ok (.aload_n 0, 1) := by decide +kernel
theorem d_X8_isNamed_46 : decode b_X8_isNamed 46 = .ok (.getfield 35, 3) := by decide +kernel
theorem d_X8_isNamed_49 : decode b_X8_isNamed 49 = .ok (.arraylength, 1) := by decide +kernel
theorem d_X8_isNamed_50 : decode b_X8_isNamed 50 = .ok (.if_icmp .ge 35, 3) := by decide +kernel
theorem d_X8_isNamed_53 : decode b_X8_isNamed 53 = .ok (.iload_n 3, 1) := by decide +kernel
theorem d_X8_isNamed_54 : decode b_X8_isNamed 54 = .ok (.ifCond .lt 31, 3) := by decide +kernel
theorem d_X8_isNamed_57 : decode b_X8_isNamed 57 = .ok (.iload_n 3, 1) := by decide +kernel
theorem d_X8_isNamed_58 : decode b_X8_isNamed 58 = .ok (.iload 6, 2) := by decide +kernel
theorem d_X8_isNamed_60 : decode b_X8_isNamed 60 = .ok (.iadd, 1) := by decide +kernel
theorem d_X8_isNamed_61 : decode b_X8_isNamed 61 = .ok (.aload_n 2, 1) := by decide +kernel
theorem d_X8_isNamed_62 : decode b_X8_isNamed 62 = .ok (.arraylength, 1) := by decide +kernel
theorem d_X8_isNamed_63 : decode b_X8_isNamed 63 = .ok (.if_icmp .ge 22, 3) := by decide +kernel
theorem d_X8_isNamed_66 : decode b_X8_isNamed 66 = .ok (.aload_n 0, 1) := by decide +kernel
theorem d_X8_isNamed_67 : decode b_X8_isNamed 67 = .ok (.getfield 35, 3) := by decide +kernel
theorem d_X8_isNamed_70 : decode b_X8_isNamed 70 = .ok (.iload 5, 2) := by decide +kernel
theorem d_X8_isNamed_72 : decode b_X8_isNamed 72 = .ok (.iload 6, 2) := by decide +kernel
theorem d_X8_isNamed_74 : decode b_X8_isNamed 74 = .ok (.iadd, 1) := by decide +kernel
theorem d_X8_isNamed_75 : decode b_X8_isNamed 75 = .ok (.baload, 1) := by decide +kernel
theorem d_X8_isNamed_76 : decode b_X8_isNamed 76 = .ok (.aload_n 2, 1) := by decide +kernel
theorem d_X8_isNamed_77 : decode b_X8_isNamed 77 = .ok (.iload_n 3, 1) := by decide +kernel
theorem d_X8_isNamed_78 : decode b_X8_isNamed 78 = .ok (.iload 6, 2) := by decide +kernel
theorem d_X8_isNamed_80 : decode b_X8_isNamed 80 = .ok (.iadd, 1) := by decide +kernel
theorem d_X8_isNamed_81 : decode b_X8_isNamed 81 = .ok (.baload, 1) := by decide +kernel
theorem d_X8_isNamed_82 : decode b_X8_isNamed 82 = .ok (.if_icmp .eq 5, 3) := by decide +kernel
theorem d_X8_isNamed_85 : decode b_X8_isNamed 85 = .ok (.iconst 0, 1) := by decide +kernel
theorem d_X8_isNamed_86 : decode b_X8_isNamed 86 = .ok (.ireturn, 1) := by decide +kernel
theorem d_X8_isNamed_87 : decode b_X8_isNamed 87 = .ok (.iinc 6 1, 3) := by decide +kernel
theorem d_X8_isNamed_90 : decode b_X8_isNamed 90 = .ok (.goto (-57), 3) := by decide +kernel
theorem d_X8_isNamed_93 : decode b_X8_isNamed 93 = .ok (.iconst 1, 1) := by decide +kernel
theorem d_X8_isNamed_94 : decode b_X8_isNamed 94 = .ok (.ireturn, 1) := by decide +kernel
theorem d_X8_keep_0 : decode b_X8_keep 0 = .ok (.aload_n 0, 1) := by decide +kernel
theorem d_X8_keep_1 : decode b_X8_keep 1 = .ok (.dup, 1) := by decide +kernel
theorem d_X8_keep_2 : decode b_X8_keep 2 = .ok (.getfield 52, 3) := by decide +kernel
theorem d_X8_keep_5 : decode b_X8_keep 5 = .ok (.iconst 1, 1) := by decide +kernel
theorem d_X8_keep_6 : decode b_X8_keep 6 = .ok (.iadd, 1) := by decide +kernel
theorem d_X8_keep_7 : decode b_X8_keep 7 = .ok (.putfield 52, 3) := by decide +kernel
theorem d_X8_keep_10 : decode b_X8_keep 10 = .ok (.aload_n 0, 1) := by decide +kernel
theorem d_X8_keep_11 : decode b_X8_keep 11 = .ok (.getfield 55, 3) := by decide +kernel
theorem d_X8_keep_14 : decode b_X8_keep 14 = .ok (.aload_n 0, 1) := by decide +kernel
theorem d_X8_keep_15 : decode b_X8_keep 15 = .ok (.getfield 52, 3) := by decide +kernel
theorem d_X8_keep_18 : decode b_X8_keep 18 = .ok (.aload_n 0, 1) := by decide +kernel
theorem d_X8_keep_19 : decode b_X8_keep 19 = .ok (.getfield 9, 3) := by decide +kernel
theorem d_X8_keep_22 : decode b_X8_keep 22 = .ok (.invokestatic 112, 3) := by decide +kernel
theorem d_X8_keep_25 : decode b_X8_keep 25 = .ok (.aload_n 0, 1) := by decide +kernel
theorem d_X8_keep_26 : decode b_X8_keep 26 = .ok (.getfield 58, 3) := by decide +kernel
theorem d_X8_keep_29 : decode b_X8_keep 29 = .ok (.aload_n 0, 1) := by decide +kernel
theorem d_X8_keep_30 : decode b_X8_keep 30 = .ok (.getfield 52, 3) := by decide +kernel
theorem d_X8_keep_33 : decode b_X8_keep 33 = .ok (.aload_n 0, 1) := by decide +kernel
theorem d_X8_keep_34 : decode b_X8_keep 34 = .ok (.getfield 39, 3) := by decide +kernel
theorem d_X8_keep_37 : decode b_X8_keep 37 = .ok (.invokestatic 112, 3) := by decide +kernel
theorem d_X8_keep_40 : decode b_X8_keep 40 = .ok (.aload_n 0, 1) := by decide +kernel
theorem d_X8_keep_41 : decode b_X8_keep 41 = .ok (.getfield 61, 3) := by decide +kernel
theorem d_X8_keep_44 : decode b_X8_keep 44 = .ok (.aload_n 0, 1) := by decide +kernel
theorem d_X8_keep_45 : decode b_X8_keep 45 = .ok (.getfield 52, 3) := by decide +kernel
theorem d_X8_keep_48 : decode b_X8_keep 48 = .ok (.aload_n 0, 1) := by decide +kernel
theorem d_X8_keep_49 : decode b_X8_keep 49 = .ok (.getfield 67, 3) := by decide +kernel
theorem d_X8_keep_52 : decode b_X8_keep 52 = .ok (.getfield 122, 3) := by decide +kernel
theorem d_X8_keep_55 : decode b_X8_keep 55 = .ok (.invokestatic 112, 3) := by decide +kernel
theorem d_X8_keep_58 : decode b_X8_keep 58 = .ok (.aload_n 0, 1) := by decide +kernel
theorem d_X8_keep_59 : decode b_X8_keep 59 = .ok (.getfield 64, 3) := by decide +kernel
theorem d_X8_keep_62 : decode b_X8_keep 62 = .ok (.aload_n 0, 1) := by decide +kernel
theorem d_X8_keep_63 : decode b_X8_keep 63 = .ok (.getfield 52, 3) := by decide +kernel
theorem d_X8_keep_66 : decode b_X8_keep 66 = .ok (.iload_n 1, 1) := by decide +kernel
theorem d_X8_keep_67 : decode b_X8_keep 67 = .ok (.invokestatic 112, 3) := by decide +kernel
theorem d_X8_keep_70 : decode b_X8_keep 70 = .ok (.aload_n 0, 1) := by decide +kernel
theorem d_X8_keep_71 : decode b_X8_keep 71 = .ok (.getfield 52, 3) := by decide +kernel
theorem d_X8_keep_74 : decode b_X8_keep 74 = .ok (.ireturn, 1) := by decide +kernel
theorem d_X8_mark_0 : decode b_X8_mark 0 = .ok (.aload_n 0, 1) := by decide +kernel
theorem d_X8_mark_1 : decode b_X8_mark 1 = .ok (.getfield 15, 3) := by decide +kernel
theorem d_X8_mark_4 : decode b_X8_mark 4 = .ok (.iload_n 1, 1) := by decide +kernel
theorem d_X8_mark_5 : decode b_X8_mark 5 = .ok (.aload_n 0, 1) := by decide +kernel
theorem d_X8_mark_6 : decode b_X8_mark 6 = .ok (.getfield 15, 3) := by decide +kernel
theorem d_X8_mark_9 : decode b_X8_mark 9 = .ok (.iload_n 1, 1) := by decide +kernel
theorem d_X8_mark_10 : decode b_X8_mark 10 = .ok (.invokestatic 88, 3) := by decide +kernel
theorem d_X8_mark_13 : decode b_X8_mark 13 = .ok (.iload_n 2, 1) := by decide +kernel
theorem d_X8_mark_14 : decode b_X8_mark 14 = .ok (.ior, 1) := by decide +kernel
theorem d_X8_mark_15 : decode b_X8_mark 15 = .ok (.invokestatic 112, 3) := by decide +kernel
theorem d_X8_mark_18 : decode b_X8_mark 18 = .ok (.return_, 1) := by decide +kernel
theorem d_X8_nameByte_0 : decode b_X8_nameByte 0 = .ok (.iload_n 1, 1) := by decide +kernel
theorem d_X8_nameByte_1 : decode b_X8_nameByte 1 = .ok (.ifCond .ge 7, 3) := by decide +kernel
theorem d_X8_nameByte_4 : decode b_X8_nameByte 4 = .ok (.iconst 0, 1) := by decide +kernel
theorem d_X8_nameByte_5 : decode b_X8_nameByte 5 = .ok (.goto 17, 3) := by decide +kernel
theorem d_X8_nameByte_8 : decode b_X8_nameByte 8 = .ok (.aload_n 0, 1) := by decide +kernel
theorem d_X8_nameByte_9 : decode b_X8_nameByte 9 = .ok (.getfield 28, 3) := by decide +kernel
theorem d_X8_nameByte_12 : decode b_X8_nameByte 12 = .ok (.iload_n 1, 1) := by decide +kernel
theorem d_X8_nameByte_13 : decode b_X8_nameByte 13 = .ok (.invokestatic 88, 3) := by decide +kernel
theorem d_X8_nameByte_16 : decode b_X8_nameByte 16 = .ok (.aload_n 0, 1) := by decide +kernel
theorem d_X8_nameByte_17 : decode b_X8_nameByte 17 = .ok (.iload_n 1, 1) := by decide +kernel
theorem d_X8_nameByte_18 : decode b_X8_nameByte 18 = .ok (.invokevirtual 103, 3) := by decide +kernel
theorem d_X8_nameByte_21 : decode b_X8_nameByte 21 = .ok (.isub, 1) := by decide +kernel
theorem d_X8_nameByte_22 : decode b_X8_nameByte 22 = .ok (.istore_n 3, 1) := by decide +kernel
theorem d_X8_nameByte_23 : decode b_X8_nameByte 23 = .ok (.aload_n 0, 1) := by decide +kernel
theorem d_X8_nameByte_24 : decode b_X8_nameByte 24 = .ok (.iload_n 1, 1) := by decide +kernel
theorem d_X8_nameByte_25 : decode b_X8_nameByte 25 = .ok (.invokevirtual 103, 3) := by decide +kernel
theorem d_X8_nameByte_28 : decode b_X8_nameByte 28 = .ok (.iload_n 2, 1) := by decide +kernel
theorem d_X8_nameByte_29 : decode b_X8_nameByte 29 = .ok (.iadd, 1) := by decide +kernel
theorem d_X8_nameByte_30 : decode b_X8_nameByte 30 = .ok (.istore 4, 2) := by decide +kernel
theorem d_X8_nameByte_32 : decode b_X8_nameByte 32 = .ok (.iload_n 2, 1) := by decide +kernel
theorem d_X8_nameByte_33 : decode b_X8_nameByte 33 = .ok (.ifCond .lt 32, 3) := by decide +kernel
theorem d_X8_nameByte_36 : decode b_X8_nameByte 36 = .ok (.iload_n 2, 1) := by decide +kernel
theorem d_X8_nameByte_37 : decode b_X8_nameByte 37 = .ok (.iload_n 3, 1) := by decide +kernel
theorem d_X8_nameByte_38 : decode b_X8_nameByte 38 = .ok (.if_icmp .ge 27, 3) := by decide +kernel
theorem d_X8_nameByte_41 : decode b_X8_nameByte 41 = .ok (.iload 4, 2) := by decide +kernel
theorem d_X8_nameByte_43 : decode b_X8_nameByte 43 = .ok (.aload_n 0, 1) := by decide +kernel
theorem d_X8_nameByte_44 : decode b_X8_nameByte 44 = .ok (.getfield 35, 3) := by decide +kernel
theorem d_X8_nameByte_47 : decode b_X8_nameByte 47 = .ok (.arraylength, 1) := by decide +kernel
theorem d_X8_nameByte_48 : decode b_X8_nameByte 48 = .ok (.if_icmp .ge 17, 3) := by decide +kernel
theorem d_X8_nameByte_51 : decode b_X8_nameByte 51 = .ok (.aload_n 0, 1) := by decide +kernel
theorem d_X8_nameByte_52 : decode b_X8_nameByte 52 = .ok (.getfield 35, 3) := by decide +kernel
theorem d_X8_nameByte_55 : decode b_X8_nameByte 55 = .ok (.iload 4, 2) := by decide +kernel
theorem d_X8_nameByte_57 : decode b_X8_nameByte 57 = .ok (.baload, 1) := by decide +kernel
theorem d_X8_nameByte_58 : decode b_X8_nameByte 58 = .ok (.sipush 255, 3) := by decide +kernel
theorem d_X8_nameByte_61 : decode b_X8_nameByte 61 = .ok (.iand, 1) := by decide +kernel
theorem d_X8_nameByte_62 : decode b_X8_nameByte 62 = .ok (.goto 4, 3) := by decide +kernel
theorem d_X8_nameByte_65 : decode b_X8_nameByte 65 = .ok (.iconst (-1), 1) := by decide +kernel
theorem d_X8_nameByte_66 : decode b_X8_nameByte 66 = .ok (.ireturn, 1) := by decide +kernel
theorem d_X8_nameStart_0 : decode b_X8_nameStart 0 = .ok (.aload_n 0, 1) := by decide +kernel
theorem d_X8_nameStart_1 : decode b_X8_nameStart 1 = .ok (.getfield 28, 3) := by decide +kernel
theorem d_X8_nameStart_4 : decode b_X8_nameStart 4 = .ok (.iload_n 1, 1) := by decide +kernel
theorem d_X8_nameStart_5 : decode b_X8_nameStart 5 = .ok (.iconst 1, 1) := by decide +kernel
theorem d_X8_nameStart_6 : decode b_X8_nameStart 6 = .ok (.isub, 1) := by decide +kernel
theorem d_X8_nameStart_7 : decode b_X8_nameStart 7 = .ok (.invokestatic 88, 3) := by decide +kernel
theorem d_X8_nameStart_10 : decode b_X8_nameStart 10 = .ok (.ireturn, 1) := by decide +kernel
theorem d_X8_objectAt_0 : decode b_X8_objectAt 0 = .ok (.iconst 1, 1) := by decide +kernel
theorem d_X8_objectAt_1 : decode b_X8_objectAt 1 = .ok (.istore_n 2, 1) := by decide +kernel
theorem d_X8_objectAt_2 : decode b_X8_objectAt 2 = .ok (.iload_n 2, 1) := by decide +kernel
theorem d_X8_objectAt_3 : decode b_X8_objectAt 3 = .ok (.aload_n 0, 1) := by decide +kernel
theorem d_X8_objectAt_4 : decode b_X8_objectAt 4 = .ok (.getfield 52, 3) := by decide +kernel
theorem d_X8_objectAt_7 : decode b_X8_objectAt 7 = .ok (.if_icmp .gt 27, 3) := by decide +kernel
theorem d_X8_objectAt_10 : decode b_X8_objectAt 10 = .ok (.iload_n 1, 1) := by decide +kernel
theorem d_X8_objectAt_11 : decode b_X8_objectAt 11 = .ok (.ifCond .lt 23, 3) := by decide +kernel
theorem d_X8_objectAt_14 : decode b_X8_objectAt 14 = .ok (.iload_n 1, 1) := by decide +kernel
theorem d_X8_objectAt_15 : decode b_X8_objectAt 15 = .ok (.aload_n 0, 1) := by decide +kernel
theorem d_X8_objectAt_16 : decode b_X8_objectAt 16 = .ok (.getfield 61, 3) := by decide +kernel
theorem d_X8_objectAt_19 : decode b_X8_objectAt 19 = .ok (.iload_n 2, 1) := by decide +kernel
theorem d_X8_objectAt_20 : decode b_X8_objectAt 20 = .ok (.invokestatic 88, 3) := by decide +kernel
theorem d_X8_objectAt_23 : decode b_X8_objectAt 23 = .ok (.if_icmp .ge 5, 3) := by decide +kernel
theorem d_X8_objectAt_26 : decode b_X8_objectAt 26 = .ok (.iload_n 2, 1) := by decide +kernel
theorem d_X8_objectAt_27 : decode b_X8_objectAt 27 = .ok (.ireturn, 1) := by decide +kernel
theorem d_X8_objectAt_28 : decode b_X8_objectAt 28 = .ok (.iinc 2 1, 3) := by decide +kernel
theorem d_X8_objectAt_31 : decode b_X8_objectAt 31 = .ok (.goto (-29), 3) := by decide +kernel
theorem d_X8_objectAt_34 : decode b_X8_objectAt 34 = .ok (.iconst 0, 1) := by decide +kernel
theorem d_X8_objectAt_35 : decode b_X8_objectAt 35 = .ok (.ireturn, 1) := by decide +kernel
theorem d_X8_parameter_0 : decode b_X8_parameter 0 = .ok (.iload_n 0, 1) := by decide +kernel
theorem d_X8_parameter_1 : decode b_X8_parameter 1 = .ok (.iconst 3, 1) := by decide +kernel
theorem d_X8_parameter_2 : decode b_X8_parameter 2 = .ok (.iload_n 1, 1) := by decide +kernel
theorem d_X8_parameter_3 : decode b_X8_parameter 3 = .ok (.imul, 1) := by decide +kernel
theorem d_X8_parameter_4 : decode b_X8_parameter 4 = .ok (.iushr, 1) := by decide +kernel
theorem d_X8_parameter_5 : decode b_X8_parameter 5 = .ok (.bipush 7, 2) := by decide +kernel
theorem d_X8_parameter_7 : decode b_X8_parameter 7 = .ok (.iand, 1) := by decide +kernel
theorem d_X8_parameter_8 : decode b_X8_parameter 8 = .ok (.ireturn, 1) := by decide +kernel
theorem d_X8_parameters_0 : decode b_X8_parameters 0 = .ok (.iload_n 0, 1) := by decide +kernel
theorem d_X8_parameters_1 : decode b_X8_parameters 1 = .ok (.bipush 24, 2) := by decide +kernel
theorem d_X8_parameters_3 : decode b_X8_parameters 3 = .ok (.iushr, 1) := by decide +kernel
theorem d_X8_parameters_4 : decode b_X8_parameters 4 = .ok (.ireturn, 1) := by decide +kernel
theorem d_X8_symbolAt_0 : decode b_X8_symbolAt 0 = .ok (.aload_n 0, 1) := by decide +kernel
theorem d_X8_symbolAt_1 : decode b_X8_symbolAt 1 = .ok (.iload_n 1, 1) := by decide +kernel
theorem d_X8_symbolAt_2 : decode b_X8_symbolAt 2 = .ok (.invokevirtual 99, 3) := by decide +kernel
theorem d_X8_symbolAt_5 : decode b_X8_symbolAt 5 = .ok (.ifCond .eq 11, 3) := by decide +kernel
theorem d_X8_symbolAt_8 : decode b_X8_symbolAt 8 = .ok (.iload_n 2, 1) := by decide +kernel
theorem d_X8_symbolAt_9 : decode b_X8_symbolAt 9 = .ok (.ifCond .lt 7, 3) := by decide +kernel
theorem d_X8_symbolAt_12 : decode b_X8_symbolAt 12 = .ok (.iload_n 2, 1) := by decide +kernel
theorem d_X8_symbolAt_13 : decode b_X8_symbolAt 13 = .ok (.goto 4, 3) := by decide +kernel
theorem d_X8_symbolAt_16 : decode b_X8_symbolAt 16 = .ok (.iconst (-1), 1) := by decide +kernel
theorem d_X8_symbolAt_17 : decode b_X8_symbolAt 17 = .ok (.istore_n 3, 1) := by decide +kernel
theorem d_X8_symbolAt_18 : decode b_X8_symbolAt 18 = .ok (.aload_n 0, 1) := by decide +kernel
theorem d_X8_symbolAt_19 : decode b_X8_symbolAt 19 = .ok (.iload_n 1, 1) := by decide +kernel
theorem d_X8_symbolAt_20 : decode b_X8_symbolAt 20 = .ok (.invokevirtual 92, 3) := by decide +kernel
theorem d_X8_symbolAt_23 : decode b_X8_symbolAt 23 = .ok (.istore 4, 2) := by decide +kernel
theorem d_X8_symbolAt_25 : decode b_X8_symbolAt 25 = .ok (.iload_n 3, 1) := by decide +kernel
theorem d_X8_symbolAt_26 : decode b_X8_symbolAt 26 = .ok (.ifCond .lt 42, 3) := by decide +kernel
theorem d_X8_symbolAt_29 : decode b_X8_symbolAt 29 = .ok (.iload 4, 2) := by decide +kernel
theorem d_X8_symbolAt_31 : decode b_X8_symbolAt 31 = .ok (.aload_n 0, 1) := by decide +kernel
theorem d_X8_symbolAt_32 : decode b_X8_symbolAt 32 = .ok (.getfield 55, 3) := by decide +kernel
theorem d_X8_symbolAt_35 : decode b_X8_symbolAt 35 = .ok (.iload_n 1, 1) := by decide +kernel
theorem d_X8_symbolAt_36 : decode b_X8_symbolAt 36 = .ok (.invokestatic 88, 3) := by decide +kernel
theorem d_X8_symbolAt_39 : decode b_X8_symbolAt 39 = .ok (.if_icmp .ge 29, 3) := by decide +kernel
theorem d_X8_symbolAt_42 : decode b_X8_symbolAt 42 = .ok (.aload_n 0, 1) := by decide +kernel
theorem d_X8_symbolAt_43 : decode b_X8_symbolAt 43 = .ok (.iload 4, 2) := by decide +kernel
theorem d_X8_symbolAt_45 : decode b_X8_symbolAt 45 = .ok (.iconst 2, 1) := by decide +kernel
theorem d_X8_symbolAt_46 : decode b_X8_symbolAt 46 = .ok (.invokevirtual 95, 3) := by decide +kernel
theorem d_X8_symbolAt_49 : decode b_X8_symbolAt 49 = .ok (.ifCond .ne 13, 3) := by decide +kernel
theorem d_X8_symbolAt_52 : decode b_X8_symbolAt 52 = .ok (.iload_n 3, 1) := by decide +kernel
theorem d_X8_symbolAt_53 : decode b_X8_symbolAt 53 = .ok (.ifCond .ne 6, 3) := by decide +kernel
theorem d_X8_symbolAt_56 : decode b_X8_symbolAt 56 = .ok (.iload 4, 2) := by decide +kernel
theorem d_X8_symbolAt_58 : decode b_X8_symbolAt 58 = .ok (.ireturn, 1) := by decide +kernel
theorem d_X8_symbolAt_59 : decode b_X8_symbolAt 59 = .ok (.iinc 3 (-1), 3) := by decide +kernel
theorem d_X8_symbolAt_62 : decode b_X8_symbolAt 62 = .ok (.iinc 4 1, 3) := by decide +kernel
theorem d_X8_symbolAt_65 : decode b_X8_symbolAt 65 = .ok (.goto (-40), 3) := by decide +kernel
theorem d_X8_symbolAt_68 : decode b_X8_symbolAt 68 = .ok (.iconst (-1), 1) := by decide +kernel
theorem d_X8_symbolAt_69 : decode b_X8_symbolAt 69 = .ok (.ireturn, 1) := by decide +kernel
theorem d_X8_symbolsOf_0 : decode b_X8_symbolsOf 0 = .ok (.iconst 0, 1) := by decide +kernel
theorem d_X8_symbolsOf_1 : decode b_X8_symbolsOf 1 = .ok (.istore_n 2, 1) := by decide +kernel
theorem d_X8_symbolsOf_2 : decode b_X8_symbolsOf 2 = .ok (.aload_n 0, 1) := by decide +kernel
theorem d_X8_symbolsOf_3 : decode b_X8_symbolsOf 3 = .ok (.iload_n 1, 1) := by decide +kernel
theorem d_X8_symbolsOf_4 : decode b_X8_symbolsOf 4 = .ok (.invokevirtual 92, 3) := by decide +kernel
theorem d_X8_symbolsOf_7 : decode b_X8_symbolsOf 7 = .ok (.istore_n 3, 1) := by decide +kernel
theorem d_X8_symbolsOf_8 : decode b_X8_symbolsOf 8 = .ok (.iload_n 3, 1) := by decide +kernel
theorem d_X8_symbolsOf_9 : decode b_X8_symbolsOf 9 = .ok (.aload_n 0, 1) := by decide +kernel
theorem d_X8_symbolsOf_10 : decode b_X8_symbolsOf 10 = .ok (.getfield 55, 3) := by decide +kernel
theorem d_X8_symbolsOf_13 : decode b_X8_symbolsOf 13 = .ok (.iload_n 1, 1) := by decide +kernel
theorem d_X8_symbolsOf_14 : decode b_X8_symbolsOf 14 = .ok (.invokestatic 88, 3) := by decide +kernel
theorem d_X8_symbolsOf_17 : decode b_X8_symbolsOf 17 = .ok (.if_icmp .ge 26, 3) := by decide +kernel
theorem d_X8_symbolsOf_20 : decode b_X8_symbolsOf 20 = .ok (.iload_n 2, 1) := by decide +kernel
theorem d_X8_symbolsOf_21 : decode b_X8_symbolsOf 21 = .ok (.aload_n 0, 1) := by decide +kernel
theorem d_X8_symbolsOf_22 : decode b_X8_symbolsOf 22 = .ok (.iload_n 3, 1) := by decide +kernel
theorem d_X8_symbolsOf_23 : decode b_X8_symbolsOf 23 = .ok (.iconst 2, 1) := by decide +kernel
theorem d_X8_symbolsOf_24 : decode b_X8_symbolsOf 24 = .ok (.invokevirtual 95, 3) := by decide +kernel
theorem d_X8_symbolsOf_27 : decode b_X8_symbolsOf 27 = .ok (.ifCond .eq 7, 3) := by decide +kernel
theorem d_X8_symbolsOf_30 : decode b_X8_symbolsOf 30 = .ok (.iconst 0, 1) := by decide +kernel
theorem d_X8_symbolsOf_31 : decode b_X8_symbolsOf 31 = .ok (.goto 4, 3) := by decide +kernel
theorem d_X8_symbolsOf_34 : decode b_X8_symbolsOf 34 = .ok (.iconst 1, 1) := by decide +kernel
theorem d_X8_symbolsOf_35 : decode b_X8_symbolsOf 35 = .ok (.iadd, 1) := by decide +kernel
theorem d_X8_symbolsOf_36 : decode b_X8_symbolsOf 36 = .ok (.istore_n 2, 1) := by decide +kernel
theorem d_X8_symbolsOf_37 : decode b_X8_symbolsOf 37 = .ok (.iinc 3 1, 3) := by decide +kernel
theorem d_X8_symbolsOf_40 : decode b_X8_symbolsOf 40 = .ok (.goto (-32), 3) := by decide +kernel
theorem d_X8_symbolsOf_43 : decode b_X8_symbolsOf 43 = .ok (.iload_n 2, 1) := by decide +kernel
theorem d_X8_symbolsOf_44 : decode b_X8_symbolsOf 44 = .ok (.ireturn, 1) := by decide +kernel
theorem d_X8_withParameter_0 : decode b_X8_withParameter 0 = .ok (.iload_n 0, 1) := by decide +kernel
theorem d_X8_withParameter_1 : decode b_X8_withParameter 1 = .ok (.ldc 83, 2) := by decide +kernel
theorem d_X8_withParameter_3 : decode b_X8_withParameter 3 = .ok (.iadd, 1) := by decide +kernel
theorem d_X8_withParameter_4 : decode b_X8_withParameter 4 = .ok (.iload_n 1, 1) := by decide +kernel
theorem d_X8_withParameter_5 : decode b_X8_withParameter 5 = .ok (.iconst 3, 1) := by decide +kernel
theorem d_X8_withParameter_6 : decode b_X8_withParameter 6 = .ok (.iload_n 0, 1) := by decide +kernel
theorem d_X8_withParameter_7 : decode b_X8_withParameter 7 = .ok (.invokestatic 84, 3) := by decide +kernel
theorem d_X8_withParameter_10 : decode b_X8_withParameter 10 = .ok (.imul, 1) := by decide +kernel
theorem d_X8_withParameter_11 : decode b_X8_withParameter 11 = .ok (.ishl, 1) := by decide +kernel
theorem d_X8_withParameter_12 : decode b_X8_withParameter 12 = .ok (.ior, 1) := by decide +kernel
theorem d_X8_withParameter_13 : decode b_X8_withParameter 13 = .ok (.ireturn, 1) := by decide +kernel
theorem d_X9_init_0 : decode b_X9_init 0 = .ok (.aload_n 0, 1) := by decide +kernel
theorem d_X9_init_1 : decode b_X9_init 1 = .ok (.invokespecial 1, 3) := by decide +kernel
theorem d_X9_init_4 : decode b_X9_init 4 = .ok (.aload_n 0, 1) := by decide +kernel
theorem d_X9_init_5 : decode b_X9_init 5 = .ok (.iconst 0, 1) := by decide +kernel
theorem d_X9_init_6 : decode b_X9_init 6 = .ok (.putfield 7, 3) := by decide +kernel
theorem d_X9_init_9 : decode b_X9_init 9 = .ok (.aload_n 0, 1) := by decide +kernel
theorem d_X9_init_10 : decode b_X9_init 10 = .ok (.iconst 0, 1) := by decide +kernel
theorem d_X9_init_11 : decode b_X9_init 11 = .ok (.putfield 13, 3) := by decide +kernel
theorem d_X9_init_14 : decode b_X9_init 14 = .ok (.aload_n 0, 1) := by decide +kernel
theorem d_X9_init_15 : decode b_X9_init 15 = .ok (.iconst 0, 1) := by decide +kernel
theorem d_X9_init_16 : decode b_X9_init 16 = .ok (.putfield 16, 3) := by decide +kernel
theorem d_X9_init_19 : decode b_X9_init 19 = .ok (.aload_n 0, 1) := by decide +kernel
theorem d_X9_init_20 : decode b_X9_init 20 = .ok (.sipush 4096, 3) := by decide +kernel
theorem d_X9_init_23 : decode b_X9_init 23 = .ok (.newarray .byte, 2) := by decide +kernel
theorem d_X9_init_25 : decode b_X9_init 25 = .ok (.putfield 19, 3) := by decide +kernel
theorem d_X9_init_28 : decode b_X9_init 28 = .ok (.aload_n 0, 1) := by decide +kernel
theorem d_X9_init_29 : decode b_X9_init 29 = .ok (.sipush 4096, 3) := by decide +kernel
theorem d_X9_init_32 : decode b_X9_init 32 = .ok (.newarray .byte, 2) := by decide +kernel
theorem d_X9_init_34 : decode b_X9_init 34 = .ok (.putfield 23, 3) := by decide +kernel
theorem d_X9_init_37 : decode b_X9_init 37 = .ok (.return_, 1) := by decide +kernel
theorem d_X9_begin_0 : decode b_X9_begin 0 = .ok (.aload_n 0, 1) := by decide +kernel
theorem d_X9_begin_1 : decode b_X9_begin 1 = .ok (.iconst 0, 1) := by decide +kernel
theorem d_X9_begin_2 : decode b_X9_begin 2 = .ok (.putfield 13, 3) := by decide +kernel
theorem d_X9_begin_5 : decode b_X9_begin 5 = .ok (.aload_n 0, 1) := by decide +kernel
theorem d_X9_begin_6 : decode b_X9_begin 6 = .ok (.iconst 0, 1) := by decide +kernel
theorem d_X9_begin_7 : decode b_X9_begin 7 = .ok (.putfield 16, 3) := by decide +kernel
theorem d_X9_begin_10 : decode b_X9_begin 10 = .ok (.return_, 1) := by decide +kernel
theorem d_X9_byteAt_0 : decode b_X9_byteAt 0 = .ok (.iload_n 1, 1) := by decide +kernel
theorem d_X9_byteAt_1 : decode b_X9_byteAt 1 = .ok (.ifCond .lt 33, 3) := by decide +kernel
theorem d_X9_byteAt_4 : decode b_X9_byteAt 4 = .ok (.iload_n 1, 1) := by decide +kernel
theorem d_X9_byteAt_5 : decode b_X9_byteAt 5 = .ok (.aload_n 0, 1) := by decide +kernel
theorem d_X9_byteAt_6 : decode b_X9_byteAt 6 = .ok (.getfield 16, 3) := by decide +kernel
theorem d_X9_byteAt_9 : decode b_X9_byteAt 9 = .ok (.if_icmp .ge 25, 3) := by decide +kernel
theorem d_X9_byteAt_12 : decode b_X9_byteAt 12 = .ok (.iload_n 1, 1) := by decide +kernel
theorem d_X9_byteAt_13 : decode b_X9_byteAt 13 = .ok (.aload_n 0, 1) := by decide +kernel
theorem d_X9_byteAt_14 : decode b_X9_byteAt 14 = .ok (.getfield 23, 3) := by decide +kernel
theorem d_X9_byteAt_17 : decode b_X9_byteAt 17 = .ok (.arraylength, 1) := by decide +kernel
theorem d_X9_byteAt_18 : decode b_X9_byteAt 18 = .ok (.if_icmp .ge 16, 3) := by decide +kernel
theorem d_X9_byteAt_21 : decode b_X9_byteAt 21 = .ok (.aload_n 0, 1) := by decide +kernel
theorem d_X9_byteAt_22 : decode b_X9_byteAt 22 = .ok (.getfield 23, 3) := by decide +kernel
theorem d_X9_byteAt_25 : decode b_X9_byteAt 25 = .ok (.iload_n 1, 1) := by decide +kernel
theorem d_X9_byteAt_26 : decode b_X9_byteAt 26 = .ok (.baload, 1) := by decide +kernel
theorem d_X9_byteAt_27 : decode b_X9_byteAt 27 = .ok (.sipush 255, 3) := by decide +kernel
theorem d_X9_byteAt_30 : decode b_X9_byteAt 30 = .ok (.iand, 1) := by decide +kernel
theorem d_X9_byteAt_31 : decode b_X9_byteAt 31 = .ok (.goto 4, 3) := by decide +kernel
theorem d_X9_byteAt_34 : decode b_X9_byteAt 34 = .ok (.iconst (-1), 1) := by decide +kernel
theorem d_X9_byteAt_35 : decode b_X9_byteAt 35 = .ok (.ireturn, 1) := by decide +kernel
theorem d_X9_give_0 : decode b_X9_give 0 = .ok (.aload_n 0, 1) := by decide +kernel
theorem d_X9_give_1 : decode b_X9_give 1 = .ok (.getfield 7, 3) := by decide +kernel
theorem d_X9_give_4 : decode b_X9_give 4 = .ok (.sipush 4096, 3) := by decide +kernel
theorem d_X9_give_7 : decode b_X9_give 7 = .ok (.if_icmp .ge 15, 3) := by decide +kernel
theorem d_X9_give_10 : decode b_X9_give 10 = .ok (.aload_n 0, 1) := by decide +kernel
theorem d_X9_give_11 : decode b_X9_give 11 = .ok (.getfield 7, 3) := by decide +kernel
theorem d_X9_give_14 : decode b_X9_give 14 = .ok (.aload_n 0, 1) := by decide +kernel
theorem d_X9_give_15 : decode b_X9_give 15 = .ok (.getfield 19, 3) := by decide +kernel
theorem d_X9_give_18 : decode b_X9_give 18 = .ok (.arraylength, 1) := by decide +kernel
theorem d_X9_give_19 : decode b_X9_give 19 = .ok (.if_icmp .lt 5, 3) := by decide +kernel
theorem d_X9_give_22 : decode b_X9_give 22 = .ok (.iconst (-1), 1) := by decide +kernel
theorem d_X9_give_23 : decode b_X9_give 23 = .ok (.ireturn, 1) := by decide +kernel
theorem d_X9_give_24 : decode b_X9_give 24 = .ok (.aload_n 0, 1) := by decide +kernel
theorem d_X9_give_25 : decode b_X9_give 25 = .ok (.getfield 19, 3) := by decide +kernel
theorem d_X9_give_28 : decode b_X9_give 28 = .ok (.aload_n 0, 1) := by decide +kernel
theorem d_X9_give_29 : decode b_X9_give 29 = .ok (.getfield 7, 3) := by decide +kernel
theorem d_X9_give_32 : decode b_X9_give 32 = .ok (.iload_n 1, 1) := by decide +kernel
theorem d_X9_give_33 : decode b_X9_give 33 = .ok (.i2b, 1) := by decide +kernel
theorem d_X9_give_34 : decode b_X9_give 34 = .ok (.bastore, 1) := by decide +kernel
theorem d_X9_give_35 : decode b_X9_give 35 = .ok (.aload_n 0, 1) := by decide +kernel
theorem d_X9_give_36 : decode b_X9_give 36 = .ok (.dup, 1) := by decide +kernel
theorem d_X9_give_37 : decode b_X9_give 37 = .ok (.getfield 7, 3) := by decide +kernel
theorem d_X9_give_40 : decode b_X9_give 40 = .ok (.iconst 1, 1) := by decide +kernel
theorem d_X9_give_41 : decode b_X9_give 41 = .ok (.iadd, 1) := by decide +kernel
theorem d_X9_give_42 : decode b_X9_give 42 = .ok (.putfield 7, 3) := by decide +kernel
theorem d_X9_give_45 : decode b_X9_give 45 = .ok (.aload_n 0, 1) := by decide +kernel
theorem d_X9_give_46 : decode b_X9_give 46 = .ok (.getfield 7, 3) := by decide +kernel
theorem d_X9_give_49 : decode b_X9_give 49 = .ok (.ireturn, 1) := by decide +kernel
theorem d_X9_next_0 : decode b_X9_next 0 = .ok (.aload_n 0, 1) := by decide +kernel
theorem d_X9_next_1 : decode b_X9_next 1 = .ok (.getfield 13, 3) := by decide +kernel
theorem d_X9_next_4 : decode b_X9_next 4 = .ok (.ifCond .lt 26, 3) := by decide +kernel
theorem d_X9_next_7 : decode b_X9_next 7 = .ok (.aload_n 0, 1) := by decide +kernel
theorem d_X9_next_8 : decode b_X9_next 8 = .ok (.getfield 13, 3) := by decide +kernel
theorem d_X9_next_11 : decode b_X9_next 11 = .ok (.aload_n 0, 1) := by decide +kernel
theorem d_X9_next_12 : decode b_X9_next 12 = .ok (.getfield 7, 3) := by decide +kernel
theorem d_X9_next_15 : decode b_X9_next 15 = .ok (.if_icmp .ge 15, 3) := by decide +kernel
theorem d_X9_next_18 : decode b_X9_next 18 = .ok (.aload_n 0, 1) := by decide +kernel
theorem d_X9_next_19 : decode b_X9_next 19 = .ok (.getfield 13, 3) := by decide +kernel
theorem d_X9_next_22 : decode b_X9_next 22 = .ok (.aload_n 0, 1) := by decide +kernel
theorem d_X9_next_23 : decode b_X9_next 23 = .ok (.getfield 19, 3) := by decide +kernel
theorem d_X9_next_26 : decode b_X9_next 26 = .ok (.arraylength, 1) := by decide +kernel
theorem d_X9_next_27 : decode b_X9_next 27 = .ok (.if_icmp .lt 5, 3) := by decide +kernel
theorem d_X9_next_30 : decode b_X9_next 30 = .ok (.iconst (-1), 1) := by decide +kernel
theorem d_X9_next_31 : decode b_X9_next 31 = .ok (.ireturn, 1) := by decide +kernel
theorem d_X9_next_32 : decode b_X9_next 32 = .ok (.aload_n 0, 1) := by decide +kernel
theorem d_X9_next_33 : decode b_X9_next 33 = .ok (.dup, 1) := by decide +kernel
theorem d_X9_next_34 : decode b_X9_next 34 = .ok (.getfield 13, 3) := by decide +kernel
theorem d_X9_next_37 : decode b_X9_next 37 = .ok (.iconst 1, 1) := by decide +kernel
theorem d_X9_next_38 : decode b_X9_next 38 = .ok (.iadd, 1) := by decide +kernel
theorem d_X9_next_39 : decode b_X9_next 39 = .ok (.putfield 13, 3) := by decide +kernel
theorem d_X9_next_42 : decode b_X9_next 42 = .ok (.aload_n 0, 1) := by decide +kernel
theorem d_X9_next_43 : decode b_X9_next 43 = .ok (.getfield 19, 3) := by decide +kernel
theorem d_X9_next_46 : decode b_X9_next 46 = .ok (.aload_n 0, 1) := by decide +kernel
theorem d_X9_next_47 : decode b_X9_next 47 = .ok (.getfield 13, 3) := by decide +kernel
theorem d_X9_next_50 : decode b_X9_next 50 = .ok (.iconst 1, 1) := by decide +kernel
theorem d_X9_next_51 : decode b_X9_next 51 = .ok (.isub, 1) := by decide +kernel
theorem d_X9_next_52 : decode b_X9_next 52 = .ok (.baload, 1) := by decide +kernel
theorem d_X9_next_53 : decode b_X9_next 53 = .ok (.sipush 255, 3) := by decide +kernel
theorem d_X9_next_56 : decode b_X9_next 56 = .ok (.iand, 1) := by decide +kernel
theorem d_X9_next_57 : decode b_X9_next 57 = .ok (.ireturn, 1) := by decide +kernel
theorem d_X9_print_0 : decode b_X9_print 0 = .ok (.iload_n 1, 1) := by decide +kernel
theorem d_X9_print_1 : decode b_X9_print 1 = .ok (.i2l, 1) := by decide +kernel
theorem d_X9_print_2 : decode b_X9_print 2 = .ok (.invokestatic 26, 3) := by decide +kernel
theorem d_X9_print_5 : decode b_X9_print 5 = .ok (.lstore_n 2, 1) := by decide +kernel
theorem d_X9_print_6 : decode b_X9_print 6 = .ok (.lconst 1, 1) := by decide +kernel
theorem d_X9_print_7 : decode b_X9_print 7 = .ok (.lstore 4, 2) := by decide +kernel
theorem d_X9_print_9 : decode b_X9_print 9 = .ok (.iconst 0, 1) := by decide +kernel
theorem d_X9_print_10 : decode b_X9_print 10 = .ok (.istore 6, 2) := by decide +kernel
theorem d_X9_print_12 : decode b_X9_print 12 = .ok (.iload 6, 2) := by decide +kernel
theorem d_X9_print_14 : decode b_X9_print 14 = .ok (.bipush 10, 2) := by decide +kernel
theorem d_X9_print_16 : decode b_X9_print 16 = .ok (.if_icmp .ge 28, 3) := by decide +kernel
theorem d_X9_print_19 : decode b_X9_print 19 = .ok (.lload 4, 2) := by decide +kernel
theorem d_X9_print_21 : decode b_X9_print 21 = .ok (.ldc2_w 32, 3) := by decide +kernel
theorem d_X9_print_24 : decode b_X9_print 24 = .ok (.lmul, 1) := by decide +kernel
theorem d_X9_print_25 : decode b_X9_print 25 = .ok (.lload_n 2, 1) := by decide +kernel
theorem d_X9_print_26 : decode b_X9_print 26 = .ok (.lcmp, 1) := by decide +kernel
theorem d_X9_print_27 : decode b_X9_print 27 = .ok (.ifCond .gt 17, 3) := by decide +kernel
theorem d_X9_print_30 : decode b_X9_print 30 = .ok (.lload 4, 2) := by decide +kernel
theorem d_X9_print_32 : decode b_X9_print 32 = .ok (.ldc2_w 32, 3) := by decide +kernel
theorem d_X9_print_35 : decode b_X9_print 35 = .ok (.lmul, 1) := by decide +kernel
theorem d_X9_print_36 : decode b_X9_print 36 = .ok (.lstore 4, 2) := by decide +kernel
theorem d_X9_print_38 : decode b_X9_print 38 = .ok (.iinc 6 1, 3) := by decide +kernel
theorem d_X9_print_41 : decode b_X9_print 41 = .ok (.goto (-29), 3) := by decide +kernel
theorem d_X9_print_44 : decode b_X9_print 44 = .ok (.iload_n 1, 1) := by decide +kernel
theorem d_X9_print_45 : decode b_X9_print 45 = .ok (.ifCond .ge 12, 3) := by decide +kernel
theorem d_X9_print_48 : decode b_X9_print 48 = .ok (.aload_n 0, 1) := by decide +kernel
theorem d_X9_print_49 : decode b_X9_print 49 = .ok (.bipush 45, 2) := by decide +kernel
theorem d_X9_print_51 : decode b_X9_print 51 = .ok (.invokevirtual 34, 3) := by decide +kernel
theorem d_X9_print_54 : decode b_X9_print 54 = .ok (.ifCond .eq 7, 3) := by decide +kernel
theorem d_X9_print_57 : decode b_X9_print 57 = .ok (.iconst 1, 1) := by decide +kernel
theorem d_X9_print_58 : decode b_X9_print 58 = .ok (.goto 4, 3) := by decide +kernel
theorem d_X9_print_61 : decode b_X9_print 61 = .ok (.iconst 0, 1) := by decide +kernel
theorem d_X9_print_62 : decode b_X9_print 62 = .ok (.istore 6, 2) := by decide +kernel
theorem d_X9_print_64 : decode b_X9_print 64 = .ok (.lload 4, 2) := by decide +kernel
theorem d_X9_print_66 : decode b_X9_print 66 = .ok (.lconst 0, 1) := by decide +kernel
theorem d_X9_print_67 : decode b_X9_print 67 = .ok (.lcmp, 1) := by decide +kernel
theorem d_X9_print_68 : decode b_X9_print 68 = .ok (.ifCond .le 38, 3) := by decide +kernel
theorem d_X9_print_71 : decode b_X9_print 71 = .ok (.iload 6, 2) := by decide +kernel
theorem d_X9_print_73 : decode b_X9_print 73 = .ok (.ifCond .eq 33, 3) := by decide +kernel
theorem d_X9_print_76 : decode b_X9_print 76 = .ok (.aload_n 0, 1) := by decide +kernel
theorem d_X9_print_77 : decode b_X9_print 77 = .ok (.ldc2_w 38, 3) := by decide +kernel
theorem d_X9_print_80 : decode b_X9_print 80 = .ok (.lload_n 2, 1) := by decide +kernel
theorem d_X9_print_81 : decode b_X9_print 81 = .ok (.lload 4, 2) := by decide +kernel
theorem d_X9_print_83 : decode b_X9_print 83 = .ok (.ldiv, 1) := by decide +kernel
theorem d_X9_print_84 : decode b_X9_print 84 = .ok (.ldc2_w 32, 3) := by decide +kernel
theorem d_X9_print_87 : decode b_X9_print 87 = .ok (.lrem, 1) := by decide +kernel
theorem d_X9_print_88 : decode b_X9_print 88 = .ok (.ladd, 1) := by decide +kernel
theorem d_X9_print_89 : decode b_X9_print 89 = .ok (.l2i, 1) := by decide +kernel
theorem d_X9_print_90 : decode b_X9_print 90 = .ok (.invokevirtual 34, 3) := by decide +kernel
theorem d_X9_print_93 : decode b_X9_print 93 = .ok (.istore 6, 2) := by decide +kernel
theorem d_X9_print_95 : decode b_X9_print 95 = .ok (.lload 4, 2) := by decide +kernel
theorem d_X9_print_97 : decode b_X9_print 97 = .ok (.ldc2_w 32, 3) := by decide +kernel
theorem d_X9_print_100 : decode b_X9_print 100 = .ok (.ldiv, 1) := by decide +kernel
theorem d_X9_print_101 : decode b_X9_print 101 = .ok (.lstore 4, 2) := by decide +kernel
theorem d_X9_print_103 : decode b_X9_print 103 = .ok (.goto (-39), 3) := by decide +kernel
theorem d_X9_print_106 : decode b_X9_print 106 = .ok (.iload 6, 2) := by decide +kernel
theorem d_X9_print_108 : decode b_X9_print 108 = .ok (.ireturn, 1) := by decide +kernel
theorem d_X9_put_0 : decode b_X9_put 0 = .ok (.aload_n 0, 1) := by decide +kernel
theorem d_X9_put_1 : decode b_X9_put 1 = .ok (.getfield 16, 3) := by decide +kernel
theorem d_X9_put_4 : decode b_X9_put 4 = .ok (.ifCond .lt 15, 3) := by decide +kernel
theorem d_X9_put_7 : decode b_X9_put 7 = .ok (.aload_n 0, 1) := by decide +kernel
theorem d_X9_put_8 : decode b_X9_put 8 = .ok (.getfield 16, 3) := by decide +kernel
theorem d_X9_put_11 : decode b_X9_put 11 = .ok (.aload_n 0, 1) := by decide +kernel
theorem d_X9_put_12 : decode b_X9_put 12 = .ok (.getfield 23, 3) := by decide +kernel
theorem d_X9_put_15 : decode b_X9_put 15 = .ok (.arraylength, 1) := by decide +kernel
theorem d_X9_put_16 : decode b_X9_put 16 = .ok (.if_icmp .lt 5, 3) := by decide +kernel
theorem d_X9_put_19 : decode b_X9_put 19 = .ok (.iconst 0, 1) := by decide +kernel
theorem d_X9_put_20 : decode b_X9_put 20 = .ok (.ireturn, 1) := by decide +kernel
theorem d_X9_put_21 : decode b_X9_put 21 = .ok (.aload_n 0, 1) := by decide +kernel
theorem d_X9_put_22 : decode b_X9_put 22 = .ok (.getfield 23, 3) := by decide +kernel
theorem d_X9_put_25 : decode b_X9_put 25 = .ok (.aload_n 0, 1) := by decide +kernel
theorem d_X9_put_26 : decode b_X9_put 26 = .ok (.getfield 16, 3) := by decide +kernel
theorem d_X9_put_29 : decode b_X9_put 29 = .ok (.iload_n 1, 1) := by decide +kernel
theorem d_X9_put_30 : decode b_X9_put 30 = .ok (.i2b, 1) := by decide +kernel
theorem d_X9_put_31 : decode b_X9_put 31 = .ok (.bastore, 1) := by decide +kernel
theorem d_X9_put_32 : decode b_X9_put 32 = .ok (.aload_n 0, 1) := by decide +kernel
theorem d_X9_put_33 : decode b_X9_put 33 = .ok (.dup, 1) := by decide +kernel
theorem d_X9_put_34 : decode b_X9_put 34 = .ok (.getfield 16, 3) := by decide +kernel
theorem d_X9_put_37 : decode b_X9_put 37 = .ok (.iconst 1, 1) := by decide +kernel
theorem d_X9_put_38 : decode b_X9_put 38 = .ok (.iadd, 1) := by decide +kernel
theorem d_X9_put_39 : decode b_X9_put 39 = .ok (.putfield 16, 3) := by decide +kernel
theorem d_X9_put_42 : decode b_X9_put 42 = .ok (.iconst 1, 1) := by decide +kernel
theorem d_X9_put_43 : decode b_X9_put 43 = .ok (.ireturn, 1) := by decide +kernel
theorem d_X9_useUp_0 : decode b_X9_useUp 0 = .ok (.aload_n 0, 1) := by decide +kernel
theorem d_X9_useUp_1 : decode b_X9_useUp 1 = .ok (.iconst 0, 1) := by decide +kernel
theorem d_X9_useUp_2 : decode b_X9_useUp 2 = .ok (.putfield 7, 3) := by decide +kernel
theorem d_X9_useUp_5 : decode b_X9_useUp 5 = .ok (.return_, 1) := by decide +kernel
theorem d_X10_init_0 : decode b_X10_init 0 = .ok (.aload_n 0, 1) := by decide +kernel
theorem d_X10_init_1 : decode b_X10_init 1 = .ok (.invokespecial 3, 3) := by decide +kernel
theorem d_X10_init_4 : decode b_X10_init 4 = .ok (.aload_n 0, 1) := by decide +kernel
theorem d_X10_init_5 : decode b_X10_init 5 = .ok (.sipush 16002, 3) := by decide +kernel
theorem d_X10_init_8 : decode b_X10_init 8 = .ok (.newarray .int, 2) := by decide +kernel
theorem d_X10_init_10 : decode b_X10_init 10 = .ok (.putfield 9, 3) := by decide +kernel
theorem d_X10_init_13 : decode b_X10_init 13 = .ok (.aload_n 0, 1) := by decide +kernel
theorem d_X10_init_14 : decode b_X10_init 14 = .ok (.sipush 16002, 3) := by decide +kernel
theorem d_X10_init_17 : decode b_X10_init 17 = .ok (.newarray .int, 2) := by decide +kernel
theorem d_X10_init_19 : decode b_X10_init 19 = .ok (.putfield 15, 3) := by decide +kernel
theorem d_X10_init_22 : decode b_X10_init 22 = .ok (.aload_n 0, 1) := by decide +kernel
theorem d_X10_init_23 : decode b_X10_init 23 = .ok (.sipush 16002, 3) := by decide +kernel
theorem d_X10_init_26 : decode b_X10_init 26 = .ok (.newarray .int, 2) := by decide +kernel
theorem d_X10_init_28 : decode b_X10_init 28 = .ok (.putfield 18, 3) := by decide +kernel
theorem d_X10_init_31 : decode b_X10_init 31 = .ok (.aload_n 0, 1) := by decide +kernel
theorem d_X10_init_32 : decode b_X10_init 32 = .ok (.sipush 16002, 3) := by decide +kernel
theorem d_X10_init_35 : decode b_X10_init 35 = .ok (.newarray .int, 2) := by decide +kernel
theorem d_X10_init_37 : decode b_X10_init 37 = .ok (.putfield 21, 3) := by decide +kernel
theorem d_X10_init_40 : decode b_X10_init 40 = .ok (.aload_n 0, 1) := by decide +kernel
theorem d_X10_init_41 : decode b_X10_init 41 = .ok (.sipush 200, 3) := by decide +kernel
theorem d_X10_init_44 : decode b_X10_init 44 = .ok (.newarray .int, 2) := by decide +kernel
theorem d_X10_init_46 : decode b_X10_init 46 = .ok (.putfield 24, 3) := by decide +kernel
theorem d_X10_init_49 : decode b_X10_init 49 = .ok (.aload_n 0, 1) := by decide +kernel
theorem d_X10_init_50 : decode b_X10_init 50 = .ok (.aload_n 1, 1) := by decide +kernel
theorem d_X10_init_51 : decode b_X10_init 51 = .ok (.putfield 27, 3) := by decide +kernel
theorem d_X10_init_54 : decode b_X10_init 54 = .ok (.return_, 1) := by decide +kernel
theorem d_X10_add_0 : decode b_X10_add 0 = .ok (.aload_n 0, 1) := by decide +kernel
theorem d_X10_add_1 : decode b_X10_add 1 = .ok (.getfield 41, 3) := by decide +kernel
theorem d_X10_add_4 : decode b_X10_add 4 = .ok (.ifCond .lt 107, 3) := by decide +kernel
theorem d_X10_add_7 : decode b_X10_add 7 = .ok (.aload_n 0, 1) := by decide +kernel
theorem d_X10_add_8 : decode b_X10_add 8 = .ok (.getfield 41, 3) := by decide +kernel
theorem d_X10_add_11 : decode b_X10_add 11 = .ok (.aload_n 0, 1) := by decide +kernel
theorem d_X10_add_12 : decode b_X10_add 12 = .ok (.getfield 9, 3) := by decide +kernel
theorem d_X10_add_15 : decode b_X10_add 15 = .ok (.arraylength, 1) := by decide +kernel
theorem d_X10_add_16 : decode b_X10_add 16 = .ok (.if_icmp .ge 95, 3) := by decide +kernel
theorem d_X10_add_19 : decode b_X10_add 19 = .ok (.aload_n 0, 1) := by decide +kernel
theorem d_X10_add_20 : decode b_X10_add 20 = .ok (.getfield 41, 3) := by decide +kernel
theorem d_X10_add_23 : decode b_X10_add 23 = .ok (.aload_n 0, 1) := by decide +kernel
theorem d_X10_add_24 : decode b_X10_add 24 = .ok (.getfield 15, 3) := by decide +kernel
theorem d_X10_add_27 : decode b_X10_add 27 = .ok (.arraylength, 1) := by decide +kernel
theorem d_X10_add_28 : decode b_X10_add 28 = .ok (.if_icmp .ge 83, 3) := by decide +kernel
theorem d_X10_add_31 : decode b_X10_add 31 = .ok (.aload_n 0, 1) := by decide +kernel
theorem d_X10_add_32 : decode b_X10_add 32 = .ok (.getfield 41, 3) := by decide +kernel
theorem d_X10_add_35 : decode b_X10_add 35 = .ok (.aload_n 0, 1) := by decide +kernel
theorem d_X10_add_36 : decode b_X10_add 36 = .ok (.getfield 18, 3) := by decide +kernel
theorem d_X10_add_39 : decode b_X10_add 39 = .ok (.arraylength, 1) := by decide +kernel
theorem d_X10_add_40 : decode b_X10_add 40 = .ok (.if_icmp .ge 71, 3) := by decide +kernel
theorem d_X10_add_43 : decode b_X10_add 43 = .ok (.aload_n 0, 1) := by decide +kernel
theorem d_X10_add_44 : decode b_X10_add 44 = .ok (.getfield 41, 3) := by decide +kernel
theorem d_X10_add_47 : decode b_X10_add 47 = .ok (.aload_n 0, 1) := by decide +kernel
theorem d_X10_add_48 : decode b_X10_add 48 = .ok (.getfield 21, 3) := by decide +kernel
theorem d_X10_add_51 : decode b_X10_add 51 = .ok (.arraylength, 1) := by decide +kernel
theorem d_X10_add_52 : decode b_X10_add 52 = .ok (.if_icmp .ge 59, 3) := by decide +kernel
theorem d_X10_add_55 : decode b_X10_add 55 = .ok (.aload_n 0, 1) := by decide +kernel
theorem d_X10_add_56 : decode b_X10_add 56 = .ok (.getfield 9, 3) := by decide +kernel
theorem d_X10_add_59 : decode b_X10_add 59 = .ok (.aload_n 0, 1) := by decide +kernel
theorem d_X10_add_60 : decode b_X10_add 60 = .ok (.getfield 41, 3) := by decide +kernel
theorem d_X10_add_63 : decode b_X10_add 63 = .ok (.iload_n 1, 1) := by decide +kernel
theorem d_X10_add_64 : decode b_X10_add 64 = .ok (.iastore, 1) := by decide +kernel
theorem d_X10_add_65 : decode b_X10_add 65 = .ok (.aload_n 0, 1) := by decide +kernel
theorem d_X10_add_66 : decode b_X10_add 66 = .ok (.getfield 15, 3) := by decide +kernel
theorem d_X10_add_69 : decode b_X10_add 69 = .ok (.aload_n 0, 1) := by decide +kernel
theorem d_X10_add_70 : decode b_X10_add 70 = .ok (.getfield 41, 3) := by decide +kernel
theorem d_X10_add_73 : decode b_X10_add 73 = .ok (.iload_n 2, 1) := by decide +kernel
theorem d_X10_add_74 : decode b_X10_add 74 = .ok (.iastore, 1) := by decide +kernel
theorem d_X10_add_75 : decode b_X10_add 75 = .ok (.aload_n 0, 1) := by decide +kernel
theorem d_X10_add_76 : decode b_X10_add 76 = .ok (.getfield 18, 3) := by decide +kernel
theorem d_X10_add_79 : decode b_X10_add 79 = .ok (.aload_n 0, 1) := by decide +kernel
theorem d_X10_add_80 : decode b_X10_add 80 = .ok (.getfield 41, 3) := by decide +kernel
theorem d_X10_add_83 : decode b_X10_add 83 = .ok (.aload_n 0, 1) := by decide +kernel
theorem d_X10_add_84 : decode b_X10_add 84 = .ok (.getfield 35, 3) := by decide +kernel
theorem d_X10_add_87 : decode b_X10_add 87 = .ok (.iastore, 1) := by decide +kernel
theorem d_X10_add_88 : decode b_X10_add 88 = .ok (.aload_n 0, 1) := by decide +kernel
theorem d_X10_add_89 : decode b_X10_add 89 = .ok (.getfield 21, 3) := by decide +kernel
theorem d_X10_add_92 : decode b_X10_add 92 = .ok (.aload_n 0, 1) := by decide +kernel
theorem d_X10_add_93 : decode b_X10_add 93 = .ok (.getfield 41, 3) := by decide +kernel
theorem d_X10_add_96 : decode b_X10_add 96 = .ok (.aload_n 0, 1) := by decide +kernel
theorem d_X10_add_97 : decode b_X10_add 97 = .ok (.getfield 38, 3) := by decide +kernel
theorem d_X10_add_100 : decode b_X10_add 100 = .ok (.iastore, 1) := by decide +kernel
theorem d_X10_add_101 : decode b_X10_add 101 = .ok (.aload_n 0, 1) := by decide +kernel
theorem d_X10_add_102 : decode b_X10_add 102 = .ok (.dup, 1) := by decide +kernel
theorem d_X10_add_103 : decode b_X10_add 103 = .ok (.getfield 41, 3) := by decide +kernel
theorem d_X10_add_106 : decode b_X10_add 106 = .ok (.iconst 1, 1) := by decide +kernel
theorem d_X10_add_107 : decode b_X10_add 107 = .ok (.iadd, 1) := by decide +kernel
theorem d_X10_add_108 : decode b_X10_add 108 = .ok (.putfield 41, 3) := by decide +kernel
theorem d_X10_add_111 : decode b_X10_add 111 = .ok (.aload_n 0, 1) := by decide +kernel
theorem d_X10_add_112 : decode b_X10_add 112 = .ok (.dup, 1) := by decide +kernel
theorem d_X10_add_113 : decode b_X10_add 113 = .ok (.getfield 35, 3) := by decide +kernel
theorem d_X10_add_116 : decode b_X10_add 116 = .ok (.iload_n 3, 1) := by decide +kernel
theorem d_X10_add_117 : decode b_X10_add 117 = .ok (.iadd, 1) := by decide +kernel
theorem d_X10_add_118 : decode b_X10_add 118 = .ok (.putfield 35, 3) := by decide +kernel
theorem d_X10_add_121 : decode b_X10_add 121 = .ok (.iconst 1, 1) := by decide +kernel
theorem d_X10_add_122 : decode b_X10_add 122 = .ok (.ireturn, 1) := by decide +kernel
theorem d_X10_bad_0 : decode b_X10_bad 0 = .ok (.aload_n 0, 1) := by decide +kernel
theorem d_X10_bad_1 : decode b_X10_bad 1 = .ok (.iload_n 1, 1) := by decide +kernel
theorem d_X10_bad_2 : decode b_X10_bad 2 = .ok (.putfield 35, 3) := by decide +kernel
theorem d_X10_bad_5 : decode b_X10_bad 5 = .ok (.aload_n 0, 1) := by decide +kernel
theorem d_X10_bad_6 : decode b_X10_bad 6 = .ok (.iconst 1, 1) := by decide +kernel
theorem d_X10_bad_7 : decode b_X10_bad 7 = .ok (.iconst 0, 1) := by decide +kernel
theorem d_X10_bad_8 : decode b_X10_bad 8 = .ok (.iconst 0, 1) := by decide +kernel
theorem d_X10_bad_9 : decode b_X10_bad 9 = .ok (.invokevirtual 68, 3) := by decide +kernel
theorem d_X10_bad_12 : decode b_X10_bad 12 = .ok (.pop, 1) := by decide +kernel
theorem d_X10_bad_13 : decode b_X10_bad 13 = .ok (.iconst 0, 1) := by decide +kernel
theorem d_X10_bad_14 : decode b_X10_bad 14 = .ok (.ireturn, 1) := by decide +kernel
theorem d_X10_byteAt_0 : decode b_X10_byteAt 0 = .ok (.iload_n 1, 1) := by decide +kernel
theorem d_X10_byteAt_1 : decode b_X10_byteAt 1 = .ok (.ifCond .lt 33, 3) := by decide +kernel
theorem d_X10_byteAt_4 : decode b_X10_byteAt 4 = .ok (.iload_n 1, 1) := by decide +kernel
theorem d_X10_byteAt_5 : decode b_X10_byteAt 5 = .ok (.aload_n 0, 1) := by decide +kernel
theorem d_X10_byteAt_6 : decode b_X10_byteAt 6 = .ok (.getfield 31, 3) := by decide +kernel
theorem d_X10_byteAt_9 : decode b_X10_byteAt 9 = .ok (.if_icmp .ge 25, 3) := by decide +kernel
theorem d_X10_byteAt_12 : decode b_X10_byteAt 12 = .ok (.iload_n 1, 1) := by decide +kernel
theorem d_X10_byteAt_13 : decode b_X10_byteAt 13 = .ok (.aload_n 0, 1) := by decide +kernel
theorem d_X10_byteAt_14 : decode b_X10_byteAt 14 = .ok (.getfield 27, 3) := by decide +kernel
theorem d_X10_byteAt_17 : decode b_X10_byteAt 17 = .ok (.arraylength, 1) := by decide +kernel
theorem d_X10_byteAt_18 : decode b_X10_byteAt 18 = .ok (.if_icmp .ge 16, 3) := by decide +kernel
theorem d_X10_byteAt_21 : decode b_X10_byteAt 21 = .ok (.aload_n 0, 1) := by decide +kernel
theorem d_X10_byteAt_22 : decode b_X10_byteAt 22 = .ok (.getfield 27, 3) := by decide +kernel
theorem d_X10_byteAt_25 : decode b_X10_byteAt 25 = .ok (.iload_n 1, 1) := by decide +kernel
theorem d_X10_byteAt_26 : decode b_X10_byteAt 26 = .ok (.baload, 1) := by decide +kernel
theorem d_X10_byteAt_27 : decode b_X10_byteAt 27 = .ok (.sipush 255, 3) := by decide +kernel
theorem d_X10_byteAt_30 : decode b_X10_byteAt 30 = .ok (.iand, 1) := by decide +kernel
theorem d_X10_byteAt_31 : decode b_X10_byteAt 31 = .ok (.goto 4, 3) := by decide +kernel
theorem d_X10_byteAt_34 : decode b_X10_byteAt 34 = .ok (.iconst (-1), 1) := by decide +kernel
theorem d_X10_byteAt_35 : decode b_X10_byteAt 35 = .ok (.ireturn, 1) := by decide +kernel
theorem d_X10_character_0 : decode b_X10_character 0 = .ok (.aload_n 0, 1) := by decide +kernel
theorem d_X10_character_1 : decode b_X10_character 1 = .ok (.aload_n 0, 1) := by decide +kernel
theorem d_X10_character_2 : decode b_X10_character 2 = .ok (.getfield 35, 3) := by decide +kernel
theorem d_X10_character_5 : decode b_X10_character 5 = .ok (.iconst 1, 1) := by decide +kernel
theorem d_X10_character_6 : decode b_X10_character 6 = .ok (.iadd, 1) := by decide +kernel
theorem d_X10_character_7 : decode b_X10_character 7 = .ok (.bipush 39, 2) := by decide +kernel
theorem d_X10_character_9 : decode b_X10_character 9 = .ok (.invokevirtual 133, 3) := by decide +kernel
theorem d_X10_character_12 : decode b_X10_character 12 = .ok (.istore_n 1, 1) := by decide +kernel
theorem d_X10_character_13 : decode b_X10_character 13 = .ok (.iconst 1, 1) := by decide +kernel
theorem d_X10_character_14 : decode b_X10_character 14 = .ok (.aload_n 0, 1) := by decide +kernel
theorem d_X10_character_15 : decode b_X10_character 15 = .ok (.aload_n 0, 1) := by decide +kernel
theorem d_X10_character_16 : decode b_X10_character 16 = .ok (.getfield 35, 3) := by decide +kernel
theorem d_X10_character_19 : decode b_X10_character 19 = .ok (.iconst 1, 1) := by decide +kernel
theorem d_X10_character_20 : decode b_X10_character 20 = .ok (.iadd, 1) := by decide +kernel
theorem d_X10_character_21 : decode b_X10_character 21 = .ok (.invokevirtual 137, 3) := by decide +kernel
theorem d_X10_character_24 : decode b_X10_character 24 = .ok (.iadd, 1) := by decide +kernel
theorem d_X10_character_25 : decode b_X10_character 25 = .ok (.istore_n 2, 1) := by decide +kernel
theorem d_X10_character_26 : decode b_X10_character 26 = .ok (.iload_n 1, 1) := by decide +kernel
theorem d_X10_character_27 : decode b_X10_character 27 = .ok (.ifCond .lt 18, 3) := by decide +kernel
theorem d_X10_character_30 : decode b_X10_character 30 = .ok (.aload_n 0, 1) := by decide +kernel
theorem d_X10_character_31 : decode b_X10_character 31 = .ok (.aload_n 0, 1) := by decide +kernel
theorem d_X10_character_32 : decode b_X10_character 32 = .ok (.getfield 35, 3) := by decide +kernel
theorem d_X10_character_35 : decode b_X10_character 35 = .ok (.iload_n 2, 1) := by decide +kernel
theorem d_X10_character_36 : decode b_X10_character 36 = .ok (.iadd, 1) := by decide +kernel
theorem d_X10_character_37 : decode b_X10_character 37 = .ok (.invokevirtual 51, 3) := by decide +kernel
theorem d_X10_character_40 : decode b_X10_character 40 = .ok (.bipush 39, 2) := by decide +kernel
theorem d_X10_character_42 : decode b_X10_character 42 = .ok (.if_icmp .eq 14, 3) := by decide +kernel
theorem d_X10_character_45 : decode b_X10_character 45 = .ok (.aload_n 0, 1) := by decide +kernel
theorem d_X10_character_46 : decode b_X10_character 46 = .ok (.aload_n 0, 1) := by decide +kernel
theorem d_X10_character_47 : decode b_X10_character 47 = .ok (.getfield 35, 3) := by decide +kernel
theorem d_X10_character_50 : decode b_X10_character 50 = .ok (.invokevirtual 65, 3) := by decide +kernel
theorem d_X10_character_53 : decode b_X10_character 53 = .ok (.goto 12, 3) := by decide +kernel
theorem d_X10_character_56 : decode b_X10_character 56 = .ok (.aload_n 0, 1) := by decide +kernel
theorem d_X10_character_57 : decode b_X10_character 57 = .ok (.iconst 3, 1) := by decide +kernel
theorem d_X10_character_58 : decode b_X10_character 58 = .ok (.iload_n 1, 1) := by decide +kernel
theorem d_X10_character_59 : decode b_X10_character 59 = .ok (.iload_n 2, 1) := by decide +kernel
theorem d_X10_character_60 : decode b_X10_character 60 = .ok (.iconst 1, 1) := by decide +kernel
theorem d_X10_character_61 : decode b_X10_character 61 = .ok (.iadd, 1) := by decide +kernel
theorem d_X10_character_62 : decode b_X10_character 62 = .ok (.invokevirtual 68, 3) := by decide +kernel
theorem d_X10_character_65 : decode b_X10_character 65 = .ok (.ireturn, 1) := by decide +kernel
theorem d_X10_codeAt_0 : decode b_X10_codeAt 0 = .ok (.aload_n 0, 1) := by decide +kernel
theorem d_X10_codeAt_1 : decode b_X10_codeAt 1 = .ok (.iload_n 1, 1) := by decide +kernel
theorem d_X10_codeAt_2 : decode b_X10_codeAt 2 = .ok (.invokevirtual 51, 3) := by decide +kernel
theorem d_X10_codeAt_5 : decode b_X10_codeAt 5 = .ok (.istore_n 3, 1) := by decide +kernel
theorem d_X10_codeAt_6 : decode b_X10_codeAt 6 = .ok (.iload_n 3, 1) := by decide +kernel
theorem d_X10_codeAt_7 : decode b_X10_codeAt 7 = .ok (.bipush 92, 2) := by decide +kernel
theorem d_X10_codeAt_9 : decode b_X10_codeAt 9 = .ok (.if_icmp .eq 26, 3) := by decide +kernel
theorem d_X10_codeAt_12 : decode b_X10_codeAt 12 = .ok (.iload_n 3, 1) := by decide +kernel
theorem d_X10_codeAt_13 : decode b_X10_codeAt 13 = .ok (.bipush 32, 2) := by decide +kernel
theorem d_X10_codeAt_15 : decode b_X10_codeAt 15 = .ok (.if_icmp .lt 14, 3) := by decide +kernel
theorem d_X10_codeAt_18 : decode b_X10_codeAt 18 = .ok (.iload_n 3, 1) := by decide +kernel
theorem d_X10_codeAt_19 : decode b_X10_codeAt 19 = .ok (.bipush 126, 2) := by decide +kernel
theorem d_X10_codeAt_21 : decode b_X10_codeAt 21 = .ok (.if_icmp .gt 8, 3) := by decide +kernel
theorem d_X10_codeAt_24 : decode b_X10_codeAt 24 = .ok (.iload_n 3, 1) := by decide +kernel
theorem d_X10_codeAt_25 : decode b_X10_codeAt 25 = .ok (.iload_n 2, 1) := by decide +kernel
theorem d_X10_codeAt_26 : decode b_X10_codeAt 26 = .ok (.if_icmp .ne 7, 3) := by decide +kernel
theorem d_X10_codeAt_29 : decode b_X10_codeAt 29 = .ok (.iconst (-1), 1) := by decide +kernel
theorem d_X10_codeAt_30 : decode b_X10_codeAt 30 = .ok (.goto 4, 3) := by decide +kernel
theorem d_X10_codeAt_33 : decode b_X10_codeAt 33 = .ok (.iload_n 3, 1) := by decide +kernel
theorem d_X10_codeAt_34 : decode b_X10_codeAt 34 = .ok (.ireturn, 1) := by decide +kernel
theorem d_X10_codeAt_35 : decode b_X10_codeAt 35 = .ok (.aload_n 0, 1) := by decide +kernel
theorem d_X10_codeAt_36 : decode b_X10_codeAt 36 = .ok (.iload_n 1, 1) := by decide +kernel
theorem d_X10_codeAt_37 : decode b_X10_codeAt 37 = .ok (.iconst 1, 1) := by decide +kernel
theorem d_X10_codeAt_38 : decode b_X10_codeAt 38 = .ok (.iadd, 1) := by decide +kernel
theorem d_X10_codeAt_39 : decode b_X10_codeAt 39 = .ok (.invokevirtual 51, 3) := by decide +kernel
theorem d_X10_codeAt_42 : decode b_X10_codeAt 42 = .ok (.istore 4, 2) := by decide +kernel
theorem d_X10_codeAt_44 : decode b_X10_codeAt 44 = .ok (.iload 4, 2) := by decide +kernel
theorem d_X10_codeAt_46 : decode b_X10_codeAt 46 = .ok (.lookupswitch 58 #[(34, 55), (39, 55), (48, 53), (92, 55), (110, 50)], 50) := by decide +kernel
theorem d_X10_codeAt_96 : decode b_X10_codeAt 96 = .ok (.bipush 10, 2) := by decide +kernel
theorem d_X10_codeAt_98 : decode b_X10_codeAt 98 = .ok (.ireturn, 1) := by decide +kernel
theorem d_X10_codeAt_99 : decode b_X10_codeAt 99 = .ok (.iconst 0, 1) := by decide +kernel
theorem d_X10_codeAt_100 : decode b_X10_codeAt 100 = .ok (.ireturn, 1) := by decide +kernel
theorem d_X10_codeAt_101 : decode b_X10_codeAt 101 = .ok (.iload 4, 2) := by decide +kernel
theorem d_X10_codeAt_103 : decode b_X10_codeAt 103 = .ok (.ireturn, 1) := by decide +kernel
theorem d_X10_codeAt_104 : decode b_X10_codeAt 104 = .ok (.iconst (-1), 1) := by decide +kernel
theorem d_X10_codeAt_105 : decode b_X10_codeAt 105 = .ok (.ireturn, 1) := by decide +kernel
theorem d_X10_digits_0 : decode b_X10_digits 0 = .ok (.lconst 0, 1) := by decide +kernel
theorem d_X10_digits_1 : decode b_X10_digits 1 = .ok (.lstore_n 1, 1) := by decide +kernel
theorem d_X10_digits_2 : decode b_X10_digits 2 = .ok (.iconst 0, 1) := by decide +kernel
theorem d_X10_digits_3 : decode b_X10_digits 3 = .ok (.istore_n 3, 1) := by decide +kernel
theorem d_X10_digits_4 : decode b_X10_digits 4 = .ok (.aload_n 0, 1) := by decide +kernel
theorem d_X10_digits_5 : decode b_X10_digits 5 = .ok (.aload_n 0, 1) := by decide +kernel
theorem d_X10_digits_6 : decode b_X10_digits 6 = .ok (.getfield 35, 3) := by decide +kernel
theorem d_X10_digits_9 : decode b_X10_digits 9 = .ok (.invokevirtual 51, 3) := by decide +kernel
theorem d_X10_digits_12 : decode b_X10_digits 12 = .ok (.istore 4, 2) := by decide +kernel
theorem d_X10_digits_14 : decode b_X10_digits 14 = .ok (.iload_n 3, 1) := by decide +kernel
theorem d_X10_digits_15 : decode b_X10_digits 15 = .ok (.aload_n 0, 1) := by decide +kernel
theorem d_X10_digits_16 : decode b_X10_digits 16 = .ok (.getfield 31, 3) := by decide +kernel
theorem d_X10_digits_19 : decode b_X10_digits 19 = .ok (.if_icmp .gt 50, 3) := by decide +kernel
theorem d_X10_digits_22 : decode b_X10_digits 22 = .ok (.iload 4, 2) := by decide +kernel
theorem d_X10_digits_24 : decode b_X10_digits 24 = .ok (.invokestatic 78, 3) := by decide +kernel
theorem d_X10_digits_27 : decode b_X10_digits 27 = .ok (.ifCond .eq 42, 3) := by decide +kernel
theorem d_X10_digits_30 : decode b_X10_digits 30 = .ok (.lload_n 1, 1) := by decide +kernel
theorem d_X10_digits_31 : decode b_X10_digits 31 = .ok (.ldc2_w 119, 3) := by decide +kernel
theorem d_X10_digits_34 : decode b_X10_digits 34 = .ok (.lmul, 1) := by decide +kernel
theorem d_X10_digits_35 : decode b_X10_digits 35 = .ok (.iload 4, 2) := by decide +kernel
theorem d_X10_digits_37 : decode b_X10_digits 37 = .ok (.bipush 48, 2) := by decide +kernel
theorem d_X10_digits_39 : decode b_X10_digits 39 = .ok (.isub, 1) := by decide +kernel
theorem d_X10_digits_40 : decode b_X10_digits 40 = .ok (.i2l, 1) := by decide +kernel
theorem d_X10_digits_41 : decode b_X10_digits 41 = .ok (.ladd, 1) := by decide +kernel
theorem d_X10_digits_42 : decode b_X10_digits 42 = .ok (.ldc2_w 121, 3) := by decide +kernel
theorem d_X10_digits_45 : decode b_X10_digits 45 = .ok (.invokestatic 123, 3) := by decide +kernel
theorem d_X10_digits_48 : decode b_X10_digits 48 = .ok (.lstore_n 1, 1) := by decide +kernel
theorem d_X10_digits_49 : decode b_X10_digits 49 = .ok (.aload_n 0, 1) := by decide +kernel
theorem d_X10_digits_50 : decode b_X10_digits 50 = .ok (.aload_n 0, 1) := by decide +kernel
theorem d_X10_digits_51 : decode b_X10_digits 51 = .ok (.getfield 35, 3) := by decide +kernel
theorem d_X10_digits_54 : decode b_X10_digits 54 = .ok (.iload_n 3, 1) := by decide +kernel
theorem d_X10_digits_55 : decode b_X10_digits 55 = .ok (.iadd, 1) := by decide +kernel
theorem d_X10_digits_56 : decode b_X10_digits 56 = .ok (.iconst 1, 1) := by decide +kernel
theorem d_X10_digits_57 : decode b_X10_digits 57 = .ok (.iadd, 1) := by decide +kernel
theorem d_X10_digits_58 : decode b_X10_digits 58 = .ok (.invokevirtual 51, 3) := by decide +kernel
theorem d_X10_digits_61 : decode b_X10_digits 61 = .ok (.istore 4, 2) := by decide +kernel
theorem d_X10_digits_63 : decode b_X10_digits 63 = .ok (.iinc 3 1, 3) := by decide +kernel
theorem d_X10_digits_66 : decode b_X10_digits 66 = .ok (.goto (-52), 3) := by decide +kernel
theorem d_X10_digits_69 : decode b_X10_digits 69 = .ok (.lload_n 1, 1) := by decide +kernel
theorem d_X10_digits_70 : decode b_X10_digits 70 = .ok (.ldc2_w 131, 3) := by decide +kernel
theorem d_X10_digits_73 : decode b_X10_digits 73 = .ok (.lcmp, 1) := by decide +kernel
theorem d_X10_digits_74 : decode b_X10_digits 74 = .ok (.ifCond .le 14, 3) := by decide +kernel
theorem d_X10_digits_77 : decode b_X10_digits 77 = .ok (.aload_n 0, 1) := by decide +kernel
theorem d_X10_digits_78 : decode b_X10_digits 78 = .ok (.aload_n 0, 1) := by decide +kernel
theorem d_X10_digits_79 : decode b_X10_digits 79 = .ok (.getfield 35, 3) := by decide +kernel
theorem d_X10_digits_82 : decode b_X10_digits 82 = .ok (.invokevirtual 65, 3) := by decide +kernel
theorem d_X10_digits_85 : decode b_X10_digits 85 = .ok (.goto 11, 3) := by decide +kernel
theorem d_X10_digits_88 : decode b_X10_digits 88 = .ok (.aload_n 0, 1) := by decide +kernel
theorem d_X10_digits_89 : decode b_X10_digits 89 = .ok (.iconst 3, 1) := by decide +kernel
theorem d_X10_digits_90 : decode b_X10_digits 90 = .ok (.lload_n 1, 1) := by decide +kernel
theorem d_X10_digits_91 : decode b_X10_digits 91 = .ok (.l2i, 1) := by decide +kernel
theorem d_X10_digits_92 : decode b_X10_digits 92 = .ok (.iload_n 3, 1) := by decide +kernel
theorem d_X10_digits_93 : decode b_X10_digits 93 = .ok (.invokevirtual 68, 3) := by decide +kernel
theorem d_X10_digits_96 : decode b_X10_digits 96 = .ok (.ireturn, 1) := by decide +kernel
theorem d_X10_isDigit_0 : decode b_X10_isDigit 0 = .ok (.iload_n 0, 1) := by decide +kernel
theorem d_X10_isDigit_1 : decode b_X10_isDigit 1 = .ok (.bipush 48, 2) := by decide +kernel
theorem d_X10_isDigit_3 : decode b_X10_isDigit 3 = .ok (.if_icmp .lt 13, 3) := by decide +kernel
theorem d_X10_isDigit_6 : decode b_X10_isDigit 6 = .ok (.iload_n 0, 1) := by decide +kernel
theorem d_X10_isDigit_7 : decode b_X10_isDigit 7 = .ok (.bipush 57, 2) := by decide +kernel
theorem d_X10_isDigit_9 : decode b_X10_isDigit 9 = .ok (.if_icmp .gt 7, 3) := by decide +kernel
theorem d_X10_isDigit_12 : decode b_X10_isDigit 12 = .ok (.iconst 1, 1) := by decide +kernel
theorem d_X10_isDigit_13 : decode b_X10_isDigit 13 = .ok (.goto 4, 3) := by decide +kernel
theorem d_X10_isDigit_16 : decode b_X10_isDigit 16 = .ok (.iconst 0, 1) := by decide +kernel
theorem d_X10_isDigit_17 : decode b_X10_isDigit 17 = .ok (.ireturn, 1) := by decide +kernel
theorem d_X10_isLetter_0 : decode b_X10_isLetter 0 = .ok (.iload_n 0, 1) := by decide +kernel
theorem d_X10_isLetter_1 : decode b_X10_isLetter 1 = .ok (.bipush 97, 2) := by decide +kernel
theorem d_X10_isLetter_3 : decode b_X10_isLetter 3 = .ok (.if_icmp .lt 9, 3) := by decide +kernel
theorem d_X10_isLetter_6 : decode b_X10_isLetter 6 = .ok (.iload_n 0, 1) := by decide +kernel
theorem d_X10_isLetter_7 : decode b_X10_isLetter 7 = .ok (.bipush 122, 2) := by decide +kernel
theorem d_X10_isLetter_9 : decode b_X10_isLetter 9 = .ok (.if_icmp .le 21, 3) := by decide +kernel
theorem d_X10_isLetter_12 : decode b_X10_isLetter 12 = .ok (.iload_n 0, 1) := by decide +kernel
theorem d_X10_isLetter_13 : decode b_X10_isLetter 13 = .ok (.bipush 65, 2) := by decide +kernel
theorem d_X10_isLetter_15 : decode b_X10_isLetter 15 = .ok (.if_icmp .lt 9, 3) := by decide +kernel
theorem d_X10_isLetter_18 : decode b_X10_isLetter 18 = .ok (.iload_n 0, 1) := by decide +kernel
theorem d_X10_isLetter_19 : decode b_X10_isLetter 19 = .ok (.bipush 90, 2) := by decide +kernel
theorem d_X10_isLetter_21 : decode b_X10_isLetter 21 = .ok (.if_icmp .le 9, 3) := by decide +kernel
theorem d_X10_isLetter_24 : decode b_X10_isLetter 24 = .ok (.iload_n 0, 1) := by decide +kernel
theorem d_X10_isLetter_25 : decode b_X10_isLetter 25 = .ok (.bipush 95, 2) := by decide +kernel
theorem d_X10_isLetter_27 : decode b_X10_isLetter 27 = .ok (.if_icmp .ne 7, 3) := by decide +kernel
theorem d_X10_isLetter_30 : decode b_X10_isLetter 30 = .ok (.iconst 1, 1) := by decide +kernel
theorem d_X10_isLetter_31 : decode b_X10_isLetter 31 = .ok (.goto 4, 3) := by decide +kernel
theorem d_X10_isLetter_34 : decode b_X10_isLetter 34 = .ok (.iconst 0, 1) := by decide +kernel
theorem d_X10_isLetter_35 : decode b_X10_isLetter 35 = .ok (.ireturn, 1) := by decide +kernel
theorem d_X10_isNext_0 : decode b_X10_isNext 0 = .ok (.iconst 0, 1) := by decide +kernel
theorem d_X10_isNext_1 : decode b_X10_isNext 1 = .ok (.istore 4, 2) := by decide +kernel
theorem d_X10_isNext_3 : decode b_X10_isNext 3 = .ok (.iload 4, 2) := by decide +kernel
theorem d_X10_isNext_5 : decode b_X10_isNext 5 = .ok (.iload_n 3, 1) := by decide +kernel
theorem d_X10_isNext_6 : decode b_X10_isNext 6 = .ok (.if_icmp .ge 44, 3) := by decide +kernel
theorem d_X10_isNext_9 : decode b_X10_isNext 9 = .ok (.iload_n 2, 1) := by decide +kernel
theorem d_X10_isNext_10 : decode b_X10_isNext 10 = .ok (.iload 4, 2) := by decide +kernel
theorem d_X10_isNext_12 : decode b_X10_isNext 12 = .ok (.iadd, 1) := by decide +kernel
theorem d_X10_isNext_13 : decode b_X10_isNext 13 = .ok (.aload_n 1, 1) := by decide +kernel
theorem d_X10_isNext_14 : decode b_X10_isNext 14 = .ok (.invokevirtual 105, 3) := by decide +kernel
theorem d_X10_isNext_17 : decode b_X10_isNext 17 = .ok (.if_icmp .ge 25, 3) := by decide +kernel
theorem d_X10_isNext_20 : decode b_X10_isNext 20 = .ok (.aload_n 1, 1) := by decide +kernel
theorem d_X10_isNext_21 : decode b_X10_isNext 21 = .ok (.iload_n 2, 1) := by decide +kernel
theorem d_X10_isNext_22 : decode b_X10_isNext 22 = .ok (.iload 4, 2) := by decide +kernel
theorem d_X10_isNext_24 : decode b_X10_isNext 24 = .ok (.iadd, 1) := by decide +kernel
theorem d_X10_isNext_25 : decode b_X10_isNext 25 = .ok (.invokevirtual 111, 3) := by decide +kernel
theorem d_X10_isNext_28 : decode b_X10_isNext 28 = .ok (.aload_n 0, 1) := by decide +kernel
theorem d_X10_isNext_29 : decode b_X10_isNext 29 = .ok (.aload_n 0, 1) := by decide +kernel
theorem d_X10_isNext_30 : decode b_X10_isNext 30 = .ok (.getfield 35, 3) := by decide +kernel
theorem d_X10_isNext_33 : decode b_X10_isNext 33 = .ok (.iload 4, 2) := by decide +kernel
theorem d_X10_isNext_35 : decode b_X10_isNext 35 = .ok (.iadd, 1) := by decide +kernel
theorem d_X10_isNext_36 : decode b_X10_isNext 36 = .ok (.invokevirtual 51, 3) := by decide +kernel
theorem d_X10_isNext_39 : decode b_X10_isNext 39 = .ok (.if_icmp .eq 5, 3) := by decide +kernel
theorem d_X10_isNext_42 : decode b_X10_isNext 42 = .ok (.iconst 0, 1) := by decide +kernel
theorem d_X10_isNext_43 : decode b_X10_isNext 43 = .ok (.ireturn, 1) := by decide +kernel
theorem d_X10_isNext_44 : decode b_X10_isNext 44 = .ok (.iinc 4 1, 3) := by decide +kernel
theorem d_X10_isNext_47 : decode b_X10_isNext 47 = .ok (.goto (-44), 3) := by decide +kernel
theorem d_X10_isNext_50 : decode b_X10_isNext 50 = .ok (.iconst 1, 1) := by decide +kernel
theorem d_X10_isNext_51 : decode b_X10_isNext 51 = .ok (.ireturn, 1) := by decide +kernel
theorem d_X10_listed_0 : decode b_X10_listed 0 = .ok (.iconst 0, 1) := by decide +kernel
theorem d_X10_listed_1 : decode b_X10_listed 1 = .ok (.istore_n 3, 1) := by decide +kernel
theorem d_X10_listed_2 : decode b_X10_listed 2 = .ok (.iconst 0, 1) := by decide +kernel
theorem d_X10_listed_3 : decode b_X10_listed 3 = .ok (.istore 4, 2) := by decide +kernel
theorem d_X10_listed_5 : decode b_X10_listed 5 = .ok (.iconst 0, 1) := by decide +kernel
theorem d_X10_listed_6 : decode b_X10_listed 6 = .ok (.istore 5, 2) := by decide +kernel
theorem d_X10_listed_8 : decode b_X10_listed 8 = .ok (.iload 5, 2) := by decide +kernel
theorem d_X10_listed_10 : decode b_X10_listed 10 = .ok (.aload_n 1, 1) := by decide +kernel
theorem d_X10_listed_11 : decode b_X10_listed 11 = .ok (.invokevirtual 105, 3) := by decide +kernel
theorem d_X10_listed_14 : decode b_X10_listed 14 = .ok (.if_icmp .ge 51, 3) := by decide +kernel
theorem d_X10_listed_17 : decode b_X10_listed 17 = .ok (.aload_n 1, 1) := by decide +kernel
theorem d_X10_listed_18 : decode b_X10_listed 18 = .ok (.iload 5, 2) := by decide +kernel
theorem d_X10_listed_20 : decode b_X10_listed 20 = .ok (.invokevirtual 111, 3) := by decide +kernel
theorem d_X10_listed_23 : decode b_X10_listed 23 = .ok (.bipush 32, 2) := by decide +kernel
theorem d_X10_listed_25 : decode b_X10_listed 25 = .ok (.if_icmp .ne 34, 3) := by decide +kernel
theorem d_X10_listed_28 : decode b_X10_listed 28 = .ok (.iload 5, 2) := by decide +kernel
theorem d_X10_listed_30 : decode b_X10_listed 30 = .ok (.iload 4, 2) := by decide +kernel
theorem d_X10_listed_32 : decode b_X10_listed 32 = .ok (.isub, 1) := by decide +kernel
theorem d_X10_listed_33 : decode b_X10_listed 33 = .ok (.iload_n 2, 1) := by decide +kernel
theorem d_X10_listed_34 : decode b_X10_listed 34 = .ok (.if_icmp .ne 16, 3) := by decide +kernel
theorem d_X10_listed_37 : decode b_X10_listed 37 = .ok (.aload_n 0, 1) := by decide +kernel
theorem d_X10_listed_38 : decode b_X10_listed 38 = .ok (.aload_n 1, 1) := by decide +kernel
theorem d_X10_listed_39 : decode b_X10_listed 39 = .ok (.iload 4, 2) := by decide +kernel
theorem d_X10_listed_41 : decode b_X10_listed 41 = .ok (.iload_n 2, 1) := by decide +kernel
theorem d_X10_listed_42 : decode b_X10_listed 42 = .ok (.invokevirtual 115, 3) := by decide +kernel
theorem d_X10_listed_45 : decode b_X10_listed 45 = .ok (.ifCond .eq 5, 3) := by decide +kernel
theorem d_X10_listed_48 : decode b_X10_listed 48 = .ok (.iload_n 3, 1) := by decide +kernel
theorem d_X10_listed_49 : decode b_X10_listed 49 = .ok (.ireturn, 1) := by decide +kernel
theorem d_X10_listed_50 : decode b_X10_listed 50 = .ok (.iload 5, 2) := by decide +kernel
theorem d_X10_listed_52 : decode b_X10_listed 52 = .ok (.iconst 1, 1) := by decide +kernel
theorem d_X10_listed_53 : decode b_X10_listed 53 = .ok (.iadd, 1) := by decide +kernel
theorem d_X10_listed_54 : decode b_X10_listed 54 = .ok (.istore 4, 2) := by decide +kernel
theorem d_X10_listed_56 : decode b_X10_listed 56 = .ok (.iinc 3 1, 3) := by decide +kernel
theorem d_X10_listed_59 : decode b_X10_listed 59 = .ok (.iinc 5 1, 3) := by decide +kernel
theorem d_X10_listed_62 : decode b_X10_listed 62 = .ok (.goto (-54), 3) := by decide +kernel
theorem d_X10_listed_65 : decode b_X10_listed 65 = .ok (.iconst (-1), 1) := by decide +kernel
theorem d_X10_listed_66 : decode b_X10_listed 66 = .ok (.ireturn, 1) := by decide +kernel
theorem d_X10_mayGoOn_0 : decode b_X10_mayGoOn 0 = .ok (.iload_n 0, 1) := by decide +kernel
theorem d_X10_mayGoOn_1 : decode b_X10_mayGoOn 1 = .ok (.bipush 61, 2) := by decide +kernel
theorem d_X10_mayGoOn_3 : decode b_X10_mayGoOn 3 = .ok (.if_icmp .eq 39, 3) := by decide +kernel
theorem d_X10_mayGoOn_6 : decode b_X10_mayGoOn 6 = .ok (.iload_n 0, 1) := by decide +kernel
theorem d_X10_mayGoOn_7 : decode b_X10_mayGoOn 7 = .ok (.bipush 60, 2) := by decide +kernel
theorem d_X10_mayGoOn_9 : decode b_X10_mayGoOn 9 = .ok (.if_icmp .eq 33, 3) := by decide +kernel
theorem d_X10_mayGoOn_12 : decode b_X10_mayGoOn 12 = .ok (.iload_n 0, 1) := by decide +kernel
theorem d_X10_mayGoOn_13 : decode b_X10_mayGoOn 13 = .ok (.bipush 62, 2) := by decide +kernel
theorem d_X10_mayGoOn_15 : decode b_X10_mayGoOn 15 = .ok (.if_icmp .eq 27, 3) := by decide +kernel
theorem d_X10_mayGoOn_18 : decode b_X10_mayGoOn 18 = .ok (.iload_n 0, 1) := by decide +kernel
theorem d_X10_mayGoOn_19 : decode b_X10_mayGoOn 19 = .ok (.bipush 43, 2) := by decide +kernel
theorem d_X10_mayGoOn_21 : decode b_X10_mayGoOn 21 = .ok (.if_icmp .eq 21, 3) := by decide +kernel
theorem d_X10_mayGoOn_24 : decode b_X10_mayGoOn 24 = .ok (.iload_n 0, 1) := by decide +kernel
theorem d_X10_mayGoOn_25 : decode b_X10_mayGoOn 25 = .ok (.bipush 45, 2) := by decide +kernel
theorem d_X10_mayGoOn_27 : decode b_X10_mayGoOn 27 = .ok (.if_icmp .eq 15, 3) := by decide +kernel
theorem d_X10_mayGoOn_30 : decode b_X10_mayGoOn 30 = .ok (.iload_n 0, 1) := by decide +kernel
theorem d_X10_mayGoOn_31 : decode b_X10_mayGoOn 31 = .ok (.bipush 38, 2) := by decide +kernel
theorem d_X10_mayGoOn_33 : decode b_X10_mayGoOn 33 = .ok (.if_icmp .eq 9, 3) := by decide +kernel
theorem d_X10_mayGoOn_36 : decode b_X10_mayGoOn 36 = .ok (.iload_n 0, 1) := by decide +kernel
theorem d_X10_mayGoOn_37 : decode b_X10_mayGoOn 37 = .ok (.bipush 124, 2) := by decide +kernel
theorem d_X10_mayGoOn_39 : decode b_X10_mayGoOn 39 = .ok (.if_icmp .ne 7, 3) := by decide +kernel
theorem d_X10_mayGoOn_42 : decode b_X10_mayGoOn 42 = .ok (.iconst 1, 1) := by decide +kernel
theorem d_X10_mayGoOn_43 : decode b_X10_mayGoOn 43 = .ok (.goto 4, 3) := by decide +kernel
theorem d_X10_mayGoOn_46 : decode b_X10_mayGoOn 46 = .ok (.iconst 0, 1) := by decide +kernel
theorem d_X10_mayGoOn_47 : decode b_X10_mayGoOn 47 = .ok (.ireturn, 1) := by decide +kernel
theorem d_X10_mayOccur_0 : decode b_X10_mayOccur 0 = .ok (.iload_n 0, 1) := by decide +kernel
theorem d_X10_mayOccur_1 : decode b_X10_mayOccur 1 = .ok (.bipush 32, 2) := by decide +kernel
theorem d_X10_mayOccur_3 : decode b_X10_mayOccur 3 = .ok (.if_icmp .lt 9, 3) := by decide +kernel
theorem d_X10_mayOccur_6 : decode b_X10_mayOccur 6 = .ok (.iload_n 0, 1) := by decide +kernel
theorem d_X10_mayOccur_7 : decode b_X10_mayOccur 7 = .ok (.bipush 126, 2) := by decide +kernel
theorem d_X10_mayOccur_9 : decode b_X10_mayOccur 9 = .ok (.if_icmp .le 21, 3) := by decide +kernel
theorem d_X10_mayOccur_12 : decode b_X10_mayOccur 12 = .ok (.iload_n 0, 1) := by decide +kernel
theorem d_X10_mayOccur_13 : decode b_X10_mayOccur 13 = .ok (.bipush 9, 2) := by decide +kernel
theorem d_X10_mayOccur_15 : decode b_X10_mayOccur 15 = .ok (.if_icmp .eq 15, 3) := by decide +kernel
theorem d_X10_mayOccur_18 : decode b_X10_mayOccur 18 = .ok (.iload_n 0, 1) := by decide +kernel
theorem d_X10_mayOccur_19 : decode b_X10_mayOccur 19 = .ok (.bipush 10, 2) := by decide +kernel
theorem d_X10_mayOccur_21 : decode b_X10_mayOccur 21 = .ok (.if_icmp .eq 9, 3) := by decide +kernel
theorem d_X10_mayOccur_24 : decode b_X10_mayOccur 24 = .ok (.iload_n 0, 1) := by decide +kernel
theorem d_X10_mayOccur_25 : decode b_X10_mayOccur 25 = .ok (.bipush 13, 2) := by decide +kernel
theorem d_X10_mayOccur_27 : decode b_X10_mayOccur 27 = .ok (.if_icmp .ne 7, 3) := by decide +kernel
theorem d_X10_mayOccur_30 : decode b_X10_mayOccur 30 = .ok (.iconst 1, 1) := by decide +kernel
theorem d_X10_mayOccur_31 : decode b_X10_mayOccur 31 = .ok (.goto 4, 3) := by decide +kernel
theorem d_X10_mayOccur_34 : decode b_X10_mayOccur 34 = .ok (.iconst 0, 1) := by decide +kernel
theorem d_X10_mayOccur_35 : decode b_X10_mayOccur 35 = .ok (.ireturn, 1) := by decide +kernel
theorem d_X10_readCodes_0 : decode b_X10_readCodes 0 = .ok (.aload_n 0, 1) := by decide +kernel
theorem d_X10_readCodes_1 : decode b_X10_readCodes 1 = .ok (.getfield 15, 3) := by decide +kernel
theorem d_X10_readCodes_4 : decode b_X10_readCodes 4 = .ok (.iload_n 1, 1) := by decide +kernel
theorem d_X10_readCodes_5 : decode b_X10_readCodes 5 = .ok (.invokestatic 145, 3) := by decide +kernel
theorem d_X10_readCodes_8 : decode b_X10_readCodes 8 = .ok (.sipush 200, 3) := by decide +kernel
theorem d_X10_readCodes_11 : decode b_X10_readCodes 11 = .ok (.invokestatic 149, 3) := by decide +kernel
theorem d_X10_readCodes_14 : decode b_X10_readCodes 14 = .ok (.istore_n 2, 1) := by decide +kernel
theorem d_X10_readCodes_15 : decode b_X10_readCodes 15 = .ok (.aload_n 0, 1) := by decide +kernel
theorem d_X10_readCodes_16 : decode b_X10_readCodes 16 = .ok (.getfield 18, 3) := by decide +kernel
theorem d_X10_readCodes_19 : decode b_X10_readCodes 19 = .ok (.iload_n 1, 1) := by decide +kernel
theorem d_X10_readCodes_20 : decode b_X10_readCodes 20 = .ok (.invokestatic 145, 3) := by decide +kernel
theorem d_X10_readCodes_23 : decode b_X10_readCodes 23 = .ok (.iconst 1, 1) := by decide +kernel
theorem d_X10_readCodes_24 : decode b_X10_readCodes 24 = .ok (.iadd, 1) := by decide +kernel
theorem d_X10_readCodes_25 : decode b_X10_readCodes 25 = .ok (.istore_n 3, 1) := by decide +kernel
theorem d_X10_readCodes_26 : decode b_X10_readCodes 26 = .ok (.iconst 0, 1) := by decide +kernel
theorem d_X10_readCodes_27 : decode b_X10_readCodes 27 = .ok (.istore 4, 2) := by decide +kernel
theorem d_X10_readCodes_29 : decode b_X10_readCodes 29 = .ok (.iload 4, 2) := by decide +kernel
theorem d_X10_readCodes_31 : decode b_X10_readCodes 31 = .ok (.iload_n 2, 1) := by decide +kernel
theorem d_X10_readCodes_32 : decode b_X10_readCodes 32 = .ok (.if_icmp .ge 33, 3) := by decide +kernel
theorem d_X10_readCodes_35 : decode b_X10_readCodes 35 = .ok (.aload_n 0, 1) := by decide +kernel
theorem d_X10_readCodes_36 : decode b_X10_readCodes 36 = .ok (.getfield 24, 3) := by decide +kernel
theorem d_X10_readCodes_39 : decode b_X10_readCodes 39 = .ok (.iload 4, 2) := by decide +kernel
theorem d_X10_readCodes_41 : decode b_X10_readCodes 41 = .ok (.aload_n 0, 1) := by decide +kernel
theorem d_X10_readCodes_42 : decode b_X10_readCodes 42 = .ok (.iload_n 3, 1) := by decide +kernel
theorem d_X10_readCodes_43 : decode b_X10_readCodes 43 = .ok (.bipush 34, 2) := by decide +kernel
theorem d_X10_readCodes_45 : decode b_X10_readCodes 45 = .ok (.invokevirtual 133, 3) := by decide +kernel
theorem d_X10_readCodes_48 : decode b_X10_readCodes 48 = .ok (.invokestatic 151, 3) := by decide +kernel
theorem d_X10_readCodes_51 : decode b_X10_readCodes 51 = .ok (.iload_n 3, 1) := by decide +kernel
theorem d_X10_readCodes_52 : decode b_X10_readCodes 52 = .ok (.aload_n 0, 1) := by decide +kernel
theorem d_X10_readCodes_53 : decode b_X10_readCodes 53 = .ok (.iload_n 3, 1) := by decide +kernel
theorem d_X10_readCodes_54 : decode b_X10_readCodes 54 = .ok (.invokevirtual 137, 3) := by decide +kernel
theorem d_X10_readCodes_57 : decode b_X10_readCodes 57 = .ok (.iadd, 1) := by decide +kernel
theorem d_X10_readCodes_58 : decode b_X10_readCodes 58 = .ok (.istore_n 3, 1) := by decide +kernel
theorem d_X10_readCodes_59 : decode b_X10_readCodes 59 = .ok (.iinc 4 1, 3) := by decide +kernel
theorem d_X10_readCodes_62 : decode b_X10_readCodes 62 = .ok (.goto (-33), 3) := by decide +kernel
theorem d_X10_readCodes_65 : decode b_X10_readCodes 65 = .ok (.iload_n 2, 1) := by decide +kernel
theorem d_X10_readCodes_66 : decode b_X10_readCodes 66 = .ok (.ireturn, 1) := by decide +kernel
theorem d_X10_sameName_0 : decode b_X10_sameName 0 = .ok (.aload_n 0, 1) := by decide +kernel
theorem d_X10_sameName_1 : decode b_X10_sameName 1 = .ok (.getfield 15, 3) := by decide +kernel
theorem d_X10_sameName_4 : decode b_X10_sameName 4 = .ok (.iload_n 1, 1) := by decide +kernel
theorem d_X10_sameName_5 : decode b_X10_sameName 5 = .ok (.invokestatic 145, 3) := by decide +kernel
theorem d_X10_sameName_8 : decode b_X10_sameName 8 = .ok (.istore_n 3, 1) := by decide +kernel
theorem d_X10_sameName_9 : decode b_X10_sameName 9 = .ok (.iload_n 3, 1) := by decide +kernel
theorem d_X10_sameName_10 : decode b_X10_sameName 10 = .ok (.aload_n 0, 1) := by decide +kernel
theorem d_X10_sameName_11 : decode b_X10_sameName 11 = .ok (.getfield 15, 3) := by decide +kernel
theorem d_X10_sameName_14 : decode b_X10_sameName 14 = .ok (.iload_n 2, 1) := by decide +kernel
theorem d_X10_sameName_15 : decode b_X10_sameName 15 = .ok (.invokestatic 145, 3) := by decide +kernel
theorem d_X10_sameName_18 : decode b_X10_sameName 18 = .ok (.if_icmp .eq 5, 3) := by decide +kernel
theorem d_X10_sameName_21 : decode b_X10_sameName 21 = .ok (.iconst 0, 1) := by decide +kernel
theorem d_X10_sameName_22 : decode b_X10_sameName 22 = .ok (.ireturn, 1) := by decide +kernel
theorem d_X10_sameName_23 : decode b_X10_sameName 23 = .ok (.aload_n 0, 1) := by decide +kernel
theorem d_X10_sameName_24 : decode b_X10_sameName 24 = .ok (.getfield 18, 3) := by decide +kernel
theorem d_X10_sameName_27 : decode b_X10_sameName 27 = .ok (.iload_n 1, 1) := by decide +kernel
theorem d_X10_sameName_28 : decode b_X10_sameName 28 = .ok (.invokestatic 145, 3) := by decide +kernel
theorem d_X10_sameName_31 : decode b_X10_sameName 31 = .ok (.istore 4, 2) := by decide +kernel
theorem d_X10_sameName_33 : decode b_X10_sameName 33 = .ok (.aload_n 0, 1) := by decide +kernel
theorem d_X10_sameName_34 : decode b_X10_sameName 34 = .ok (.getfield 18, 3) := by decide +kernel
theorem d_X10_sameName_37 : decode b_X10_sameName 37 = .ok (.iload_n 2, 1) := by decide +kernel
theorem d_X10_sameName_38 : decode b_X10_sameName 38 = .ok (.invokestatic 145, 3) := by decide +kernel
theorem d_X10_sameName_41 : decode b_X10_sameName 41 = .ok (.istore 5, 2) := by decide +kernel
theorem d_X10_sameName_43 : decode b_X10_sameName 43 = .ok (.iconst 0, 1) := by decide +kernel
theorem d_X10_sameName_44 : decode b_X10_sameName 44 = .ok (.istore 6, 2) := by decide +kernel
theorem d_X10_sameName_46 : decode b_X10_sameName 46 = .ok (.iload 6, 2) := by decide +kernel
theorem d_X10_sameName_48 : decode b_X10_sameName 48 = .ok (.iload_n 3, 1) := by decide +kernel
theorem d_X10_sameName_49 : decode b_X10_sameName 49 = .ok (.if_icmp .ge 60, 3) := by decide +kernel
theorem d_X10_sameName_52 : decode b_X10_sameName 52 = .ok (.iload 4, 2) := by decide +kernel
theorem d_X10_sameName_54 : decode b_X10_sameName 54 = .ok (.iload 6, 2) := by decide +kernel
theorem d_X10_sameName_56 : decode b_X10_sameName 56 = .ok (.iadd, 1) := by decide +kernel
theorem d_X10_sameName_57 : decode b_X10_sameName 57 = .ok (.aload_n 0, 1) := by decide +kernel
theorem d_X10_sameName_58 : decode b_X10_sameName 58 = .ok (.getfield 27, 3) := by decide +kernel
theorem d_X10_sameName_61 : decode b_X10_sameName 61 = .ok (.arraylength, 1) := by decide +kernel
theorem d_X10_sameName_62 : decode b_X10_sameName 62 = .ok (.if_icmp .ge 39, 3) := by decide +kernel
theorem d_X10_sameName_65 : decode b_X10_sameName 65 = .ok (.iload 5, 2) := by decide +kernel
theorem d_X10_sameName_67 : decode b_X10_sameName 67 = .ok (.iload 6, 2) := by decide +kernel
theorem d_X10_sameName_69 : decode b_X10_sameName 69 = .ok (.iadd, 1) := by decide +kernel
theorem d_X10_sameName_70 : decode b_X10_sameName 70 = .ok (.aload_n 0, 1) := by decide +kernel
theorem d_X10_sameName_71 : decode b_X10_sameName 71 = .ok (.getfield 27, 3) := by decide +kernel
theorem d_X10_sameName_74 : decode b_X10_sameName 74 = .ok (.arraylength, 1) := by decide +kernel
theorem d_X10_sameName_75 : decode b_X10_sameName 75 = .ok (.if_icmp .ge 26, 3) := by decide +kernel
theorem d_X10_sameName_78 : decode b_X10_sameName 78 = .ok (.aload_n 0, 1) := by decide +kernel
theorem d_X10_sameName_79 : decode b_X10_sameName 79 = .ok (.getfield 27, 3) := by decide +kernel
theorem d_X10_sameName_82 : decode b_X10_sameName 82 = .ok (.iload 4, 2) := by decide +kernel
theorem d_X10_sameName_84 : decode b_X10_sameName 84 = .ok (.iload 6, 2) := by decide +kernel
theorem d_X10_sameName_86 : decode b_X10_sameName 86 = .ok (.iadd, 1) := by decide +kernel
theorem d_X10_sameName_87 : decode b_X10_sameName 87 = .ok (.baload, 1) := by decide +kernel
theorem d_X10_sameName_88 : decode b_X10_sameName 88 = .ok (.aload_n 0, 1) := by decide +kernel
theorem d_X10_sameName_89 : decode b_X10_sameName 89 = .ok (.getfield 27, 3) := by decide +kernel
theorem d_X10_sameName_92 : decode b_X10_sameName 92 = .ok (.iload 5, 2) := by decide +kernel
theorem d_X10_sameName_94 : decode b_X10_sameName 94 = .ok (.iload 6, 2) := by decide +kernel
theorem d_X10_sameName_96 : decode b_X10_sameName 96 = .ok (.iadd, 1) := by decide +kernel
theorem d_X10_sameName_97 : decode b_X10_sameName 97 = .ok (.baload, 1) := by decide +kernel
theorem d_X10_sameName_98 : decode b_X10_sameName 98 = .ok (.if_icmp .eq 5, 3) := by decide +kernel
theorem d_X10_sameName_101 : decode b_X10_sameName 101 = .ok (.iconst 0, 1) := by decide +kernel
theorem d_X10_sameName_102 : decode b_X10_sameName 102 = .ok (.ireturn, 1) := by decide +kernel
theorem d_X10_sameName_103 : decode b_X10_sameName 103 = .ok (.iinc 6 1, 3) := by decide +kernel
theorem d_X10_sameName_106 : decode b_X10_sameName 106 = .ok (.goto (-60), 3) := by decide +kernel
theorem d_X10_sameName_109 : decode b_X10_sameName 109 = .ok (.iconst 1, 1) := by decide +kernel
theorem d_X10_sameName_110 : decode b_X10_sameName 110 = .ok (.ireturn, 1) := by decide +kernel
theorem d_X10_scan_0 : decode b_X10_scan 0 = .ok (.aload_n 0, 1) := by decide +kernel
theorem d_X10_scan_1 : decode b_X10_scan 1 = .ok (.iload_n 1, 1) := by decide +kernel
theorem d_X10_scan_2 : decode b_X10_scan 2 = .ok (.putfield 31, 3) := by decide +kernel
theorem d_X10_scan_5 : decode b_X10_scan 5 = .ok (.aload_n 0, 1) := by decide +kernel
theorem d_X10_scan_6 : decode b_X10_scan 6 = .ok (.iconst 0, 1) := by decide +kernel
theorem d_X10_scan_7 : decode b_X10_scan 7 = .ok (.putfield 35, 3) := by decide +kernel
theorem d_X10_scan_10 : decode b_X10_scan 10 = .ok (.aload_n 0, 1) := by decide +kernel
theorem d_X10_scan_11 : decode b_X10_scan 11 = .ok (.iconst 1, 1) := by decide +kernel
theorem d_X10_scan_12 : decode b_X10_scan 12 = .ok (.putfield 38, 3) := by decide +kernel
theorem d_X10_scan_15 : decode b_X10_scan 15 = .ok (.aload_n 0, 1) := by decide +kernel
theorem d_X10_scan_16 : decode b_X10_scan 16 = .ok (.iconst 0, 1) := by decide +kernel
theorem d_X10_scan_17 : decode b_X10_scan 17 = .ok (.putfield 41, 3) := by decide +kernel
theorem d_X10_scan_20 : decode b_X10_scan 20 = .ok (.iconst 1, 1) := by decide +kernel
theorem d_X10_scan_21 : decode b_X10_scan 21 = .ok (.istore_n 2, 1) := by decide +kernel
theorem d_X10_scan_22 : decode b_X10_scan 22 = .ok (.iconst 0, 1) := by decide +kernel
theorem d_X10_scan_23 : decode b_X10_scan 23 = .ok (.istore_n 3, 1) := by decide +kernel
theorem d_X10_scan_24 : decode b_X10_scan 24 = .ok (.iload_n 3, 1) := by decide +kernel
theorem d_X10_scan_25 : decode b_X10_scan 25 = .ok (.aload_n 0, 1) := by decide +kernel
theorem d_X10_scan_26 : decode b_X10_scan 26 = .ok (.getfield 31, 3) := by decide +kernel
theorem d_X10_scan_29 : decode b_X10_scan 29 = .ok (.if_icmp .gt 33, 3) := by decide +kernel
theorem d_X10_scan_32 : decode b_X10_scan 32 = .ok (.iload_n 2, 1) := by decide +kernel
theorem d_X10_scan_33 : decode b_X10_scan 33 = .ok (.ifCond .eq 29, 3) := by decide +kernel
theorem d_X10_scan_36 : decode b_X10_scan 36 = .ok (.aload_n 0, 1) := by decide +kernel
theorem d_X10_scan_37 : decode b_X10_scan 37 = .ok (.invokevirtual 44, 3) := by decide +kernel
theorem d_X10_scan_40 : decode b_X10_scan 40 = .ok (.ifCond .eq 14, 3) := by decide +kernel
theorem d_X10_scan_43 : decode b_X10_scan 43 = .ok (.aload_n 0, 1) := by decide +kernel
theorem d_X10_scan_44 : decode b_X10_scan 44 = .ok (.invokevirtual 48, 3) := by decide +kernel
theorem d_X10_scan_47 : decode b_X10_scan 47 = .ok (.ifCond .eq 7, 3) := by decide +kernel
theorem d_X10_scan_50 : decode b_X10_scan 50 = .ok (.iconst 1, 1) := by decide +kernel
theorem d_X10_scan_51 : decode b_X10_scan 51 = .ok (.goto 4, 3) := by decide +kernel
theorem d_X10_scan_54 : decode b_X10_scan 54 = .ok (.iconst 0, 1) := by decide +kernel
theorem d_X10_scan_55 : decode b_X10_scan 55 = .ok (.istore_n 2, 1) := by decide +kernel
theorem d_X10_scan_56 : decode b_X10_scan 56 = .ok (.iinc 3 1, 3) := by decide +kernel
theorem d_X10_scan_59 : decode b_X10_scan 59 = .ok (.goto (-35), 3) := by decide +kernel
theorem d_X10_scan_62 : decode b_X10_scan 62 = .ok (.return_, 1) := by decide +kernel
theorem d_X10_sign_0 : decode b_X10_sign 0 = .ok (.aload_n 0, 1) := by decide +kernel
theorem d_X10_sign_1 : decode b_X10_sign 1 = .ok (.aload_n 0, 1) := by decide +kernel
theorem d_X10_sign_2 : decode b_X10_sign 2 = .ok (.getfield 35, 3) := by decide +kernel
theorem d_X10_sign_5 : decode b_X10_sign 5 = .ok (.iconst 1, 1) := by decide +kernel
theorem d_X10_sign_6 : decode b_X10_sign 6 = .ok (.iadd, 1) := by decide +kernel
theorem d_X10_sign_7 : decode b_X10_sign 7 = .ok (.invokevirtual 51, 3) := by decide +kernel
theorem d_X10_sign_10 : decode b_X10_sign 10 = .ok (.invokestatic 140, 3) := by decide +kernel
theorem d_X10_sign_13 : decode b_X10_sign 13 = .ok (.ifCond .eq 7, 3) := by decide +kernel
theorem d_X10_sign_16 : decode b_X10_sign 16 = .ok (.iconst 3, 1) := by decide +kernel
theorem d_X10_sign_17 : decode b_X10_sign 17 = .ok (.goto 4, 3) := by decide +kernel
theorem d_X10_sign_20 : decode b_X10_sign 20 = .ok (.iconst 1, 1) := by decide +kernel
theorem d_X10_sign_21 : decode b_X10_sign 21 = .ok (.istore_n 1, 1) := by decide +kernel
theorem d_X10_sign_22 : decode b_X10_sign 22 = .ok (.iload_n 1, 1) := by decide +kernel
theorem d_X10_sign_23 : decode b_X10_sign 23 = .ok (.istore_n 2, 1) := by decide +kernel
theorem d_X10_sign_24 : decode b_X10_sign 24 = .ok (.iload_n 2, 1) := by decide +kernel
theorem d_X10_sign_25 : decode b_X10_sign 25 = .ok (.ifCond .le 32, 3) := by decide +kernel
theorem d_X10_sign_28 : decode b_X10_sign 28 = .ok (.aload_n 0, 1) := by decide +kernel
theorem d_X10_sign_29 : decode b_X10_sign 29 = .ok (.ldc 143, 2) := by decide +kernel
theorem d_X10_sign_31 : decode b_X10_sign 31 = .ok (.iload_n 2, 1) := by decide +kernel
theorem d_X10_sign_32 : decode b_X10_sign 32 = .ok (.invokevirtual 101, 3) := by decide +kernel
theorem d_X10_sign_35 : decode b_X10_sign 35 = .ok (.istore_n 3, 1) := by decide +kernel
theorem d_X10_sign_36 : decode b_X10_sign 36 = .ok (.iload_n 3, 1) := by decide +kernel
theorem d_X10_sign_37 : decode b_X10_sign 37 = .ok (.ifCond .lt 14, 3) := by decide +kernel
theorem d_X10_sign_40 : decode b_X10_sign 40 = .ok (.aload_n 0, 1) := by decide +kernel
theorem d_X10_sign_41 : decode b_X10_sign 41 = .ok (.bipush 20, 2) := by decide +kernel
theorem d_X10_sign_43 : decode b_X10_sign 43 = .ok (.iload_n 3, 1) := by decide +kernel
theorem d_X10_sign_44 : decode b_X10_sign 44 = .ok (.iadd, 1) := by decide +kernel
theorem d_X10_sign_45 : decode b_X10_sign 45 = .ok (.iconst 0, 1) := by decide +kernel
theorem d_X10_sign_46 : decode b_X10_sign 46 = .ok (.iload_n 2, 1) := by decide +kernel
theorem d_X10_sign_47 : decode b_X10_sign 47 = .ok (.invokevirtual 68, 3) := by decide +kernel
theorem d_X10_sign_50 : decode b_X10_sign 50 = .ok (.ireturn, 1) := by decide +kernel
theorem d_X10_sign_51 : decode b_X10_sign 51 = .ok (.iinc 2 (-1), 3) := by decide +kernel
theorem d_X10_sign_54 : decode b_X10_sign 54 = .ok (.goto (-30), 3) := by decide +kernel
theorem d_X10_sign_57 : decode b_X10_sign 57 = .ok (.aload_n 0, 1) := by decide +kernel
theorem d_X10_sign_58 : decode b_X10_sign 58 = .ok (.aload_n 0, 1) := by decide +kernel
theorem d_X10_sign_59 : decode b_X10_sign 59 = .ok (.getfield 35, 3) := by decide +kernel
theorem d_X10_sign_62 : decode b_X10_sign 62 = .ok (.invokevirtual 65, 3) := by decide +kernel
theorem d_X10_sign_65 : decode b_X10_sign 65 = .ok (.ireturn, 1) := by decide +kernel
theorem d_X10_sixteens_0 : decode b_X10_sixteens 0 = .ok (.iconst 0, 1) := by decide +kernel
theorem d_X10_sixteens_1 : decode b_X10_sixteens 1 = .ok (.istore_n 1, 1) := by decide +kernel
theorem d_X10_sixteens_2 : decode b_X10_sixteens 2 = .ok (.iconst 2, 1) := by decide +kernel
theorem d_X10_sixteens_3 : decode b_X10_sixteens 3 = .ok (.istore_n 2, 1) := by decide +kernel
theorem d_X10_sixteens_4 : decode b_X10_sixteens 4 = .ok (.aload_n 0, 1) := by decide +kernel
theorem d_X10_sixteens_5 : decode b_X10_sixteens 5 = .ok (.aload_n 0, 1) := by decide +kernel
theorem d_X10_sixteens_6 : decode b_X10_sixteens 6 = .ok (.getfield 35, 3) := by decide +kernel
theorem d_X10_sixteens_9 : decode b_X10_sixteens 9 = .ok (.iconst 2, 1) := by decide +kernel
theorem d_X10_sixteens_10 : decode b_X10_sixteens 10 = .ok (.iadd, 1) := by decide +kernel
theorem d_X10_sixteens_11 : decode b_X10_sixteens 11 = .ok (.invokevirtual 51, 3) := by decide +kernel
theorem d_X10_sixteens_14 : decode b_X10_sixteens 14 = .ok (.invokestatic 81, 3) := by decide +kernel
theorem d_X10_sixteens_17 : decode b_X10_sixteens 17 = .ok (.istore_n 3, 1) := by decide +kernel
theorem d_X10_sixteens_18 : decode b_X10_sixteens 18 = .ok (.iload_n 2, 1) := by decide +kernel
theorem d_X10_sixteens_19 : decode b_X10_sixteens 19 = .ok (.aload_n 0, 1) := by decide +kernel
theorem d_X10_sixteens_20 : decode b_X10_sixteens 20 = .ok (.getfield 31, 3) := by decide +kernel
theorem d_X10_sixteens_23 : decode b_X10_sixteens 23 = .ok (.if_icmp .gt 36, 3) := by decide +kernel
theorem d_X10_sixteens_26 : decode b_X10_sixteens 26 = .ok (.iload_n 3, 1) := by decide +kernel
theorem d_X10_sixteens_27 : decode b_X10_sixteens 27 = .ok (.ifCond .lt 32, 3) := by decide +kernel
theorem d_X10_sixteens_30 : decode b_X10_sixteens 30 = .ok (.iload_n 1, 1) := by decide +kernel
theorem d_X10_sixteens_31 : decode b_X10_sixteens 31 = .ok (.bipush 16, 2) := by decide +kernel
theorem d_X10_sixteens_33 : decode b_X10_sixteens 33 = .ok (.imul, 1) := by decide +kernel
theorem d_X10_sixteens_34 : decode b_X10_sixteens 34 = .ok (.iload_n 3, 1) := by decide +kernel
theorem d_X10_sixteens_35 : decode b_X10_sixteens 35 = .ok (.iadd, 1) := by decide +kernel
theorem d_X10_sixteens_36 : decode b_X10_sixteens 36 = .ok (.istore_n 1, 1) := by decide +kernel
theorem d_X10_sixteens_37 : decode b_X10_sixteens 37 = .ok (.aload_n 0, 1) := by decide +kernel
theorem d_X10_sixteens_38 : decode b_X10_sixteens 38 = .ok (.aload_n 0, 1) := by decide +kernel
theorem d_X10_sixteens_39 : decode b_X10_sixteens 39 = .ok (.getfield 35, 3) := by decide +kernel
theorem d_X10_sixteens_42 : decode b_X10_sixteens 42 = .ok (.iload_n 2, 1) := by decide +kernel
theorem d_X10_sixteens_43 : decode b_X10_sixteens 43 = .ok (.iadd, 1) := by decide +kernel
theorem d_X10_sixteens_44 : decode b_X10_sixteens 44 = .ok (.iconst 1, 1) := by decide +kernel
theorem d_X10_sixteens_45 : decode b_X10_sixteens 45 = .ok (.iadd, 1) := by decide +kernel
theorem d_X10_sixteens_46 : decode b_X10_sixteens 46 = .ok (.invokevirtual 51, 3) := by decide +kernel
theorem d_X10_sixteens_49 : decode b_X10_sixteens 49 = .ok (.invokestatic 81, 3) := by decide +kernel
theorem d_X10_sixteens_52 : decode b_X10_sixteens 52 = .ok (.istore_n 3, 1) := by decide +kernel
theorem d_X10_sixteens_53 : decode b_X10_sixteens 53 = .ok (.iinc 2 1, 3) := by decide +kernel
theorem d_X10_sixteens_56 : decode b_X10_sixteens 56 = .ok (.goto (-38), 3) := by decide +kernel
theorem d_X10_sixteens_59 : decode b_X10_sixteens 59 = .ok (.iload_n 2, 1) := by decide +kernel
theorem d_X10_sixteens_60 : decode b_X10_sixteens 60 = .ok (.bipush 10, 2) := by decide +kernel
theorem d_X10_sixteens_62 : decode b_X10_sixteens 62 = .ok (.if_icmp .le 14, 3) := by decide +kernel
theorem d_X10_sixteens_65 : decode b_X10_sixteens 65 = .ok (.aload_n 0, 1) := by decide +kernel
theorem d_X10_sixteens_66 : decode b_X10_sixteens 66 = .ok (.aload_n 0, 1) := by decide +kernel
theorem d_X10_sixteens_67 : decode b_X10_sixteens 67 = .ok (.getfield 35, 3) := by decide +kernel
theorem d_X10_sixteens_70 : decode b_X10_sixteens 70 = .ok (.invokevirtual 65, 3) := by decide +kernel
theorem d_X10_sixteens_73 : decode b_X10_sixteens 73 = .ok (.goto 10, 3) := by decide +kernel
theorem d_X10_sixteens_76 : decode b_X10_sixteens 76 = .ok (.aload_n 0, 1) := by decide +kernel
theorem d_X10_sixteens_77 : decode b_X10_sixteens 77 = .ok (.iconst 3, 1) := by decide +kernel
theorem d_X10_sixteens_78 : decode b_X10_sixteens 78 = .ok (.iload_n 1, 1) := by decide +kernel
theorem d_X10_sixteens_79 : decode b_X10_sixteens 79 = .ok (.iload_n 2, 1) := by decide +kernel
theorem d_X10_sixteens_80 : decode b_X10_sixteens 80 = .ok (.invokevirtual 68, 3) := by decide +kernel
theorem d_X10_sixteens_83 : decode b_X10_sixteens 83 = .ok (.ireturn, 1) := by decide +kernel
theorem d_X10_sixteenth_0 : decode b_X10_sixteenth 0 = .ok (.iload_n 0, 1) := by decide +kernel
theorem d_X10_sixteenth_1 : decode b_X10_sixteenth 1 = .ok (.invokestatic 78, 3) := by decide +kernel
theorem d_X10_sixteenth_4 : decode b_X10_sixteenth 4 = .ok (.ifCond .eq 8, 3) := by decide +kernel
theorem d_X10_sixteenth_7 : decode b_X10_sixteenth 7 = .ok (.iload_n 0, 1) := by decide +kernel
theorem d_X10_sixteenth_8 : decode b_X10_sixteenth 8 = .ok (.bipush 48, 2) := by decide +kernel
theorem d_X10_sixteenth_10 : decode b_X10_sixteenth 10 = .ok (.isub, 1) := by decide +kernel
theorem d_X10_sixteenth_11 : decode b_X10_sixteenth 11 = .ok (.ireturn, 1) := by decide +kernel
theorem d_X10_sixteenth_12 : decode b_X10_sixteenth 12 = .ok (.iload_n 0, 1) := by decide +kernel
theorem d_X10_sixteenth_13 : decode b_X10_sixteenth 13 = .ok (.bipush 97, 2) := by decide +kernel
theorem d_X10_sixteenth_15 : decode b_X10_sixteenth 15 = .ok (.if_icmp .lt 17, 3) := by decide +kernel
theorem d_X10_sixteenth_18 : decode b_X10_sixteenth 18 = .ok (.iload_n 0, 1) := by decide +kernel
theorem d_X10_sixteenth_19 : decode b_X10_sixteenth 19 = .ok (.bipush 102, 2) := by decide +kernel
theorem d_X10_sixteenth_21 : decode b_X10_sixteenth 21 = .ok (.if_icmp .gt 11, 3) := by decide +kernel
theorem d_X10_sixteenth_24 : decode b_X10_sixteenth 24 = .ok (.iload_n 0, 1) := by decide +kernel
theorem d_X10_sixteenth_25 : decode b_X10_sixteenth 25 = .ok (.bipush 97, 2) := by decide +kernel
theorem d_X10_sixteenth_27 : decode b_X10_sixteenth 27 = .ok (.isub, 1) := by decide +kernel
theorem d_X10_sixteenth_28 : decode b_X10_sixteenth 28 = .ok (.bipush 10, 2) := by decide +kernel
theorem d_X10_sixteenth_30 : decode b_X10_sixteenth 30 = .ok (.iadd, 1) := by decide +kernel
theorem d_X10_sixteenth_31 : decode b_X10_sixteenth 31 = .ok (.ireturn, 1) := by decide +kernel
theorem d_X10_sixteenth_32 : decode b_X10_sixteenth 32 = .ok (.iload_n 0, 1) := by decide +kernel
theorem d_X10_sixteenth_33 : decode b_X10_sixteenth 33 = .ok (.bipush 65, 2) := by decide +kernel
theorem d_X10_sixteenth_35 : decode b_X10_sixteenth 35 = .ok (.if_icmp .lt 19, 3) := by decide +kernel
theorem d_X10_sixteenth_38 : decode b_X10_sixteenth 38 = .ok (.iload_n 0, 1) := by decide +kernel
theorem d_X10_sixteenth_39 : decode b_X10_sixteenth 39 = .ok (.bipush 70, 2) := by decide +kernel
theorem d_X10_sixteenth_41 : decode b_X10_sixteenth 41 = .ok (.if_icmp .gt 13, 3) := by decide +kernel
theorem d_X10_sixteenth_44 : decode b_X10_sixteenth 44 = .ok (.iload_n 0, 1) := by decide +kernel
theorem d_X10_sixteenth_45 : decode b_X10_sixteenth 45 = .ok (.bipush 65, 2) := by decide +kernel
theorem d_X10_sixteenth_47 : decode b_X10_sixteenth 47 = .ok (.isub, 1) := by decide +kernel
theorem d_X10_sixteenth_48 : decode b_X10_sixteenth 48 = .ok (.bipush 10, 2) := by decide +kernel
theorem d_X10_sixteenth_50 : decode b_X10_sixteenth 50 = .ok (.iadd, 1) := by decide +kernel
theorem d_X10_sixteenth_51 : decode b_X10_sixteenth 51 = .ok (.goto 4, 3) := by decide +kernel
theorem d_X10_sixteenth_54 : decode b_X10_sixteenth 54 = .ok (.iconst (-1), 1) := by decide +kernel
theorem d_X10_sixteenth_55 : decode b_X10_sixteenth 55 = .ok (.ireturn, 1) := by decide +kernel
theorem d_X10_skipBlanks_0 : decode b_X10_skipBlanks 0 = .ok (.iconst 0, 1) := by decide +kernel
theorem d_X10_skipBlanks_1 : decode b_X10_skipBlanks 1 = .ok (.istore_n 1, 1) := by decide +kernel
theorem d_X10_skipBlanks_2 : decode b_X10_skipBlanks 2 = .ok (.iload_n 1, 1) := by decide +kernel
theorem d_X10_skipBlanks_3 : decode b_X10_skipBlanks 3 = .ok (.aload_n 0, 1) := by decide +kernel
theorem d_X10_skipBlanks_4 : decode b_X10_skipBlanks 4 = .ok (.getfield 31, 3) := by decide +kernel
theorem d_X10_skipBlanks_7 : decode b_X10_skipBlanks 7 = .ok (.if_icmp .gt 135, 3) := by decide +kernel
theorem d_X10_skipBlanks_10 : decode b_X10_skipBlanks 10 = .ok (.aload_n 0, 1) := by decide +kernel
theorem d_X10_skipBlanks_11 : decode b_X10_skipBlanks 11 = .ok (.aload_n 0, 1) := by decide +kernel
theorem d_X10_skipBlanks_12 : decode b_X10_skipBlanks 12 = .ok (.getfield 35, 3) := by decide +kernel
theorem d_X10_skipBlanks_15 : decode b_X10_skipBlanks 15 = .ok (.invokevirtual 51, 3) := by decide +kernel
theorem d_X10_skipBlanks_18 : decode b_X10_skipBlanks 18 = .ok (.istore_n 2, 1) := by decide +kernel
theorem d_X10_skipBlanks_19 : decode b_X10_skipBlanks 19 = .ok (.iload_n 2, 1) := by decide +kernel
theorem d_X10_skipBlanks_20 : decode b_X10_skipBlanks 20 = .ok (.bipush 47, 2) := by decide +kernel
theorem d_X10_skipBlanks_22 : decode b_X10_skipBlanks 22 = .ok (.if_icmp .ne 16, 3) := by decide +kernel
theorem d_X10_skipBlanks_25 : decode b_X10_skipBlanks 25 = .ok (.aload_n 0, 1) := by decide +kernel
theorem d_X10_skipBlanks_26 : decode b_X10_skipBlanks 26 = .ok (.aload_n 0, 1) := by decide +kernel
theorem d_X10_skipBlanks_27 : decode b_X10_skipBlanks 27 = .ok (.getfield 35, 3) := by decide +kernel
theorem d_X10_skipBlanks_30 : decode b_X10_skipBlanks 30 = .ok (.iconst 1, 1) := by decide +kernel
theorem d_X10_skipBlanks_31 : decode b_X10_skipBlanks 31 = .ok (.iadd, 1) := by decide +kernel
theorem d_X10_skipBlanks_32 : decode b_X10_skipBlanks 32 = .ok (.invokevirtual 51, 3) := by decide +kernel
theorem d_X10_skipBlanks_35 : decode b_X10_skipBlanks 35 = .ok (.goto 4, 3) := by decide +kernel
theorem d_X10_skipBlanks_38 : decode b_X10_skipBlanks 38 = .ok (.iconst (-1), 1) := by decide +kernel
theorem d_X10_skipBlanks_39 : decode b_X10_skipBlanks 39 = .ok (.istore_n 3, 1) := by decide +kernel
theorem d_X10_skipBlanks_40 : decode b_X10_skipBlanks 40 = .ok (.iload_n 3, 1) := by decide +kernel
theorem d_X10_skipBlanks_41 : decode b_X10_skipBlanks 41 = .ok (.bipush 47, 2) := by decide +kernel
theorem d_X10_skipBlanks_43 : decode b_X10_skipBlanks 43 = .ok (.if_icmp .eq 9, 3) := by decide +kernel
theorem d_X10_skipBlanks_46 : decode b_X10_skipBlanks 46 = .ok (.iload_n 3, 1) := by decide +kernel
theorem d_X10_skipBlanks_47 : decode b_X10_skipBlanks 47 = .ok (.bipush 42, 2) := by decide +kernel
theorem d_X10_skipBlanks_49 : decode b_X10_skipBlanks 49 = .ok (.if_icmp .ne 28, 3) := by decide +kernel
theorem d_X10_skipBlanks_52 : decode b_X10_skipBlanks 52 = .ok (.iload_n 3, 1) := by decide +kernel
theorem d_X10_skipBlanks_53 : decode b_X10_skipBlanks 53 = .ok (.bipush 47, 2) := by decide +kernel
theorem d_X10_skipBlanks_55 : decode b_X10_skipBlanks 55 = .ok (.if_icmp .ne 13, 3) := by decide +kernel
theorem d_X10_skipBlanks_58 : decode b_X10_skipBlanks 58 = .ok (.aload_n 0, 1) := by decide +kernel
theorem d_X10_skipBlanks_59 : decode b_X10_skipBlanks 59 = .ok (.invokevirtual 55, 3) := by decide +kernel
theorem d_X10_skipBlanks_62 : decode b_X10_skipBlanks 62 = .ok (.ifCond .eq 13, 3) := by decide +kernel
theorem d_X10_skipBlanks_65 : decode b_X10_skipBlanks 65 = .ok (.goto 71, 3) := by decide +kernel
theorem d_X10_skipBlanks_68 : decode b_X10_skipBlanks 68 = .ok (.aload_n 0, 1) := by decide +kernel
theorem d_X10_skipBlanks_69 : decode b_X10_skipBlanks 69 = .ok (.invokevirtual 58, 3) := by decide +kernel
theorem d_X10_skipBlanks_72 : decode b_X10_skipBlanks 72 = .ok (.ifCond .ne 64, 3) := by decide +kernel
theorem d_X10_skipBlanks_75 : decode b_X10_skipBlanks 75 = .ok (.iconst 0, 1) := by decide +kernel
theorem d_X10_skipBlanks_76 : decode b_X10_skipBlanks 76 = .ok (.ireturn, 1) := by decide +kernel
theorem d_X10_skipBlanks_77 : decode b_X10_skipBlanks 77 = .ok (.iload_n 2, 1) := by decide +kernel
theorem d_X10_skipBlanks_78 : decode b_X10_skipBlanks 78 = .ok (.bipush 9, 2) := by decide +kernel
theorem d_X10_skipBlanks_80 : decode b_X10_skipBlanks 80 = .ok (.if_icmp .eq 21, 3) := by decide +kernel
theorem d_X10_skipBlanks_83 : decode b_X10_skipBlanks 83 = .ok (.iload_n 2, 1) := by decide +kernel
theorem d_X10_skipBlanks_84 : decode b_X10_skipBlanks 84 = .ok (.bipush 10, 2) := by decide +kernel
theorem d_X10_skipBlanks_86 : decode b_X10_skipBlanks 86 = .ok (.if_icmp .eq 15, 3) := by decide +kernel
theorem d_X10_skipBlanks_89 : decode b_X10_skipBlanks 89 = .ok (.iload_n 2, 1) := by decide +kernel
theorem d_X10_skipBlanks_90 : decode b_X10_skipBlanks 90 = .ok (.bipush 13, 2) := by decide +kernel
theorem d_X10_skipBlanks_92 : decode b_X10_skipBlanks 92 = .ok (.if_icmp .eq 9, 3) := by decide +kernel
theorem d_X10_skipBlanks_95 : decode b_X10_skipBlanks 95 = .ok (.iload_n 2, 1) := by decide +kernel
theorem d_X10_skipBlanks_96 : decode b_X10_skipBlanks 96 = .ok (.bipush 32, 2) := by decide +kernel
theorem d_X10_skipBlanks_98 : decode b_X10_skipBlanks 98 = .ok (.if_icmp .ne 36, 3) := by decide +kernel
theorem d_X10_skipBlanks_101 : decode b_X10_skipBlanks 101 = .ok (.aload_n 0, 1) := by decide +kernel
theorem d_X10_skipBlanks_102 : decode b_X10_skipBlanks 102 = .ok (.dup, 1) := by decide +kernel
theorem d_X10_skipBlanks_103 : decode b_X10_skipBlanks 103 = .ok (.getfield 38, 3) := by decide +kernel
theorem d_X10_skipBlanks_106 : decode b_X10_skipBlanks 106 = .ok (.iload_n 2, 1) := by decide +kernel
theorem d_X10_skipBlanks_107 : decode b_X10_skipBlanks 107 = .ok (.bipush 10, 2) := by decide +kernel
theorem d_X10_skipBlanks_109 : decode b_X10_skipBlanks 109 = .ok (.if_icmp .ne 7, 3) := by decide +kernel
theorem d_X10_skipBlanks_112 : decode b_X10_skipBlanks 112 = .ok (.iconst 1, 1) := by decide +kernel
theorem d_X10_skipBlanks_113 : decode b_X10_skipBlanks 113 = .ok (.goto 4, 3) := by decide +kernel
theorem d_X10_skipBlanks_116 : decode b_X10_skipBlanks 116 = .ok (.iconst 0, 1) := by decide +kernel
theorem d_X10_skipBlanks_117 : decode b_X10_skipBlanks 117 = .ok (.iadd, 1) := by decide +kernel
theorem d_X10_skipBlanks_118 : decode b_X10_skipBlanks 118 = .ok (.putfield 38, 3) := by decide +kernel
theorem d_X10_skipBlanks_121 : decode b_X10_skipBlanks 121 = .ok (.aload_n 0, 1) := by decide +kernel
theorem d_X10_skipBlanks_122 : decode b_X10_skipBlanks 122 = .ok (.dup, 1) := by decide +kernel
theorem d_X10_skipBlanks_123 : decode b_X10_skipBlanks 123 = .ok (.getfield 35, 3) := by decide +kernel
theorem d_X10_skipBlanks_126 : decode b_X10_skipBlanks 126 = .ok (.iconst 1, 1) := by decide +kernel
theorem d_X10_skipBlanks_127 : decode b_X10_skipBlanks 127 = .ok (.iadd, 1) := by decide +kernel
theorem d_X10_skipBlanks_128 : decode b_X10_skipBlanks 128 = .ok (.putfield 35, 3) := by decide +kernel
theorem d_X10_skipBlanks_131 : decode b_X10_skipBlanks 131 = .ok (.goto 5, 3) := by decide +kernel
theorem d_X10_skipBlanks_134 : decode b_X10_skipBlanks 134 = .ok (.iconst 1, 1) := by decide +kernel
theorem d_X10_skipBlanks_135 : decode b_X10_skipBlanks 135 = .ok (.ireturn, 1) := by decide +kernel
theorem d_X10_skipBlanks_136 : decode b_X10_skipBlanks 136 = .ok (.iinc 1 1, 3) := by decide +kernel
theorem d_X10_skipBlanks_139 : decode b_X10_skipBlanks 139 = .ok (.goto (-137), 3) := by decide +kernel
theorem d_X10_skipBlanks_142 : decode b_X10_skipBlanks 142 = .ok (.iconst 1, 1) := by decide +kernel
theorem d_X10_skipBlanks_143 : decode b_X10_skipBlanks 143 = .ok (.ireturn, 1) := by decide +kernel
theorem d_X10_skipComment_0 : decode b_X10_skipComment 0 = .ok (.aload_n 0, 1) := by decide +kernel
theorem d_X10_skipComment_1 : decode b_X10_skipComment 1 = .ok (.getfield 35, 3) := by decide +kernel
theorem d_X10_skipComment_4 : decode b_X10_skipComment 4 = .ok (.iconst 2, 1) := by decide +kernel
theorem d_X10_skipComment_5 : decode b_X10_skipComment 5 = .ok (.iadd, 1) := by decide +kernel
theorem d_X10_skipComment_6 : decode b_X10_skipComment 6 = .ok (.istore_n 1, 1) := by decide +kernel
theorem d_X10_skipComment_7 : decode b_X10_skipComment 7 = .ok (.iload_n 1, 1) := by decide +kernel
theorem d_X10_skipComment_8 : decode b_X10_skipComment 8 = .ok (.aload_n 0, 1) := by decide +kernel
theorem d_X10_skipComment_9 : decode b_X10_skipComment 9 = .ok (.getfield 31, 3) := by decide +kernel
theorem d_X10_skipComment_12 : decode b_X10_skipComment 12 = .ok (.if_icmp .ge 75, 3) := by decide +kernel
theorem d_X10_skipComment_15 : decode b_X10_skipComment 15 = .ok (.aload_n 0, 1) := by decide +kernel
theorem d_X10_skipComment_16 : decode b_X10_skipComment 16 = .ok (.iload_n 1, 1) := by decide +kernel
theorem d_X10_skipComment_17 : decode b_X10_skipComment 17 = .ok (.invokevirtual 51, 3) := by decide +kernel
theorem d_X10_skipComment_20 : decode b_X10_skipComment 20 = .ok (.istore_n 2, 1) := by decide +kernel
theorem d_X10_skipComment_21 : decode b_X10_skipComment 21 = .ok (.iload_n 2, 1) := by decide +kernel
theorem d_X10_skipComment_22 : decode b_X10_skipComment 22 = .ok (.invokestatic 61, 3) := by decide +kernel
theorem d_X10_skipComment_25 : decode b_X10_skipComment 25 = .ok (.ifCond .ne 9, 3) := by decide +kernel
theorem d_X10_skipComment_28 : decode b_X10_skipComment 28 = .ok (.aload_n 0, 1) := by decide +kernel
theorem d_X10_skipComment_29 : decode b_X10_skipComment 29 = .ok (.iload_n 1, 1) := by decide +kernel
theorem d_X10_skipComment_30 : decode b_X10_skipComment 30 = .ok (.invokevirtual 65, 3) := by decide +kernel
theorem d_X10_skipComment_33 : decode b_X10_skipComment 33 = .ok (.ireturn, 1) := by decide +kernel
theorem d_X10_skipComment_34 : decode b_X10_skipComment 34 = .ok (.aload_n 0, 1) := by decide +kernel
theorem d_X10_skipComment_35 : decode b_X10_skipComment 35 = .ok (.dup, 1) := by decide +kernel
theorem d_X10_skipComment_36 : decode b_X10_skipComment 36 = .ok (.getfield 38, 3) := by decide +kernel
theorem d_X10_skipComment_39 : decode b_X10_skipComment 39 = .ok (.iload_n 2, 1) := by decide +kernel
theorem d_X10_skipComment_40 : decode b_X10_skipComment 40 = .ok (.bipush 10, 2) := by decide +kernel
theorem d_X10_skipComment_42 : decode b_X10_skipComment 42 = .ok (.if_icmp .ne 7, 3) := by decide +kernel
theorem d_X10_skipComment_45 : decode b_X10_skipComment 45 = .ok (.iconst 1, 1) := by decide +kernel
theorem d_X10_skipComment_46 : decode b_X10_skipComment 46 = .ok (.goto 4, 3) := by decide +kernel
theorem d_X10_skipComment_49 : decode b_X10_skipComment 49 = .ok (.iconst 0, 1) := by decide +kernel
theorem d_X10_skipComment_50 : decode b_X10_skipComment 50 = .ok (.iadd, 1) := by decide +kernel
theorem d_X10_skipComment_51 : decode b_X10_skipComment 51 = .ok (.putfield 38, 3) := by decide +kernel
theorem d_X10_skipComment_54 : decode b_X10_skipComment 54 = .ok (.iload_n 2, 1) := by decide +kernel
theorem d_X10_skipComment_55 : decode b_X10_skipComment 55 = .ok (.bipush 42, 2) := by decide +kernel
theorem d_X10_skipComment_57 : decode b_X10_skipComment 57 = .ok (.if_icmp .ne 24, 3) := by decide +kernel
theorem d_X10_skipComment_60 : decode b_X10_skipComment 60 = .ok (.aload_n 0, 1) := by decide +kernel
theorem d_X10_skipComment_61 : decode b_X10_skipComment 61 = .ok (.iload_n 1, 1) := by decide +kernel
theorem d_X10_skipComment_62 : decode b_X10_skipComment 62 = .ok (.iconst 1, 1) := by decide +kernel
theorem d_X10_skipComment_63 : decode b_X10_skipComment 63 = .ok (.iadd, 1) := by decide +kernel
theorem d_X10_skipComment_64 : decode b_X10_skipComment 64 = .ok (.invokevirtual 51, 3) := by decide +kernel
theorem d_X10_skipComment_67 : decode b_X10_skipComment 67 = .ok (.bipush 47, 2) := by decide +kernel
theorem d_X10_skipComment_69 : decode b_X10_skipComment 69 = .ok (.if_icmp .ne 12, 3) := by decide +kernel
theorem d_X10_skipComment_72 : decode b_X10_skipComment 72 = .ok (.aload_n 0, 1) := by decide +kernel
theorem d_X10_skipComment_73 : decode b_X10_skipComment 73 = .ok (.iload_n 1, 1) := by decide +kernel
theorem d_X10_skipComment_74 : decode b_X10_skipComment 74 = .ok (.iconst 2, 1) := by decide +kernel
theorem d_X10_skipComment_75 : decode b_X10_skipComment 75 = .ok (.iadd, 1) := by decide +kernel
theorem d_X10_skipComment_76 : decode b_X10_skipComment 76 = .ok (.putfield 35, 3) := by decide +kernel
theorem d_X10_skipComment_79 : decode b_X10_skipComment 79 = .ok (.iconst 1, 1) := by decide +kernel
theorem d_X10_skipComment_80 : decode b_X10_skipComment 80 = .ok (.ireturn, 1) := by decide +kernel
theorem d_X10_skipComment_81 : decode b_X10_skipComment 81 = .ok (.iinc 1 1, 3) := by decide +kernel
theorem d_X10_skipComment_84 : decode b_X10_skipComment 84 = .ok (.goto (-77), 3) := by decide +kernel
theorem d_X10_skipComment_87 : decode b_X10_skipComment 87 = .ok (.aload_n 0, 1) := by decide +kernel
theorem d_X10_skipComment_88 : decode b_X10_skipComment 88 = .ok (.aload_n 0, 1) := by decide +kernel
theorem d_X10_skipComment_89 : decode b_X10_skipComment 89 = .ok (.getfield 35, 3) := by decide +kernel
theorem d_X10_skipComment_92 : decode b_X10_skipComment 92 = .ok (.invokevirtual 65, 3) := by decide +kernel
theorem d_X10_skipComment_95 : decode b_X10_skipComment 95 = .ok (.ireturn, 1) := by decide +kernel
theorem d_X10_skipLine_0 : decode b_X10_skipLine 0 = .ok (.aload_n 0, 1) := by decide +kernel
theorem d_X10_skipLine_1 : decode b_X10_skipLine 1 = .ok (.getfield 35, 3) := by decide +kernel
theorem d_X10_skipLine_4 : decode b_X10_skipLine 4 = .ok (.aload_n 0, 1) := by decide +kernel
theorem d_X10_skipLine_5 : decode b_X10_skipLine 5 = .ok (.getfield 31, 3) := by decide +kernel
theorem d_X10_skipLine_8 : decode b_X10_skipLine 8 = .ok (.if_icmp .ge 52, 3) := by decide +kernel
theorem d_X10_skipLine_11 : decode b_X10_skipLine 11 = .ok (.aload_n 0, 1) := by decide +kernel
theorem d_X10_skipLine_12 : decode b_X10_skipLine 12 = .ok (.aload_n 0, 1) := by decide +kernel
theorem d_X10_skipLine_13 : decode b_X10_skipLine 13 = .ok (.getfield 35, 3) := by decide +kernel
theorem d_X10_skipLine_16 : decode b_X10_skipLine 16 = .ok (.invokevirtual 51, 3) := by decide +kernel
theorem d_X10_skipLine_19 : decode b_X10_skipLine 19 = .ok (.bipush 10, 2) := by decide +kernel
theorem d_X10_skipLine_21 : decode b_X10_skipLine 21 = .ok (.if_icmp .eq 39, 3) := by decide +kernel
theorem d_X10_skipLine_24 : decode b_X10_skipLine 24 = .ok (.aload_n 0, 1) := by decide +kernel
theorem d_X10_skipLine_25 : decode b_X10_skipLine 25 = .ok (.aload_n 0, 1) := by decide +kernel
theorem d_X10_skipLine_26 : decode b_X10_skipLine 26 = .ok (.getfield 35, 3) := by decide +kernel
theorem d_X10_skipLine_29 : decode b_X10_skipLine 29 = .ok (.invokevirtual 51, 3) := by decide +kernel
theorem d_X10_skipLine_32 : decode b_X10_skipLine 32 = .ok (.invokestatic 61, 3) := by decide +kernel
theorem d_X10_skipLine_35 : decode b_X10_skipLine 35 = .ok (.ifCond .ne 12, 3) := by decide +kernel
theorem d_X10_skipLine_38 : decode b_X10_skipLine 38 = .ok (.aload_n 0, 1) := by decide +kernel
theorem d_X10_skipLine_39 : decode b_X10_skipLine 39 = .ok (.aload_n 0, 1) := by decide +kernel
theorem d_X10_skipLine_40 : decode b_X10_skipLine 40 = .ok (.getfield 35, 3) := by decide +kernel
theorem d_X10_skipLine_43 : decode b_X10_skipLine 43 = .ok (.invokevirtual 65, 3) := by decide +kernel
theorem d_X10_skipLine_46 : decode b_X10_skipLine 46 = .ok (.ireturn, 1) := by decide +kernel
theorem d_X10_skipLine_47 : decode b_X10_skipLine 47 = .ok (.aload_n 0, 1) := by decide +kernel
theorem d_X10_skipLine_48 : decode b_X10_skipLine 48 = .ok (.dup, 1) := by decide +kernel
theorem d_X10_skipLine_49 : decode b_X10_skipLine 49 = .ok (.getfield 35, 3) := by decide +kernel
theorem d_X10_skipLine_52 : decode b_X10_skipLine 52 = .ok (.iconst 1, 1) := by decide +kernel
theorem d_X10_skipLine_53 : decode b_X10_skipLine 53 = .ok (.iadd, 1) := by decide +kernel
theorem d_X10_skipLine_54 : decode b_X10_skipLine 54 = .ok (.putfield 35, 3) := by decide +kernel
theorem d_X10_skipLine_57 : decode b_X10_skipLine 57 = .ok (.goto (-57), 3) := by decide +kernel
theorem d_X10_skipLine_60 : decode b_X10_skipLine 60 = .ok (.iconst 1, 1) := by decide +kernel
theorem d_X10_skipLine_61 : decode b_X10_skipLine 61 = .ok (.ireturn, 1) := by decide +kernel
theorem d_X10_string_0 : decode b_X10_string 0 = .ok (.iconst 1, 1) := by decide +kernel
theorem d_X10_string_1 : decode b_X10_string 1 = .ok (.istore_n 1, 1) := by decide +kernel
theorem d_X10_string_2 : decode b_X10_string 2 = .ok (.iconst 0, 1) := by decide +kernel
theorem d_X10_string_3 : decode b_X10_string 3 = .ok (.istore_n 2, 1) := by decide +kernel
theorem d_X10_string_4 : decode b_X10_string 4 = .ok (.iload_n 2, 1) := by decide +kernel
theorem d_X10_string_5 : decode b_X10_string 5 = .ok (.sipush 200, 3) := by decide +kernel
theorem d_X10_string_8 : decode b_X10_string 8 = .ok (.if_icmp .gt 61, 3) := by decide +kernel
theorem d_X10_string_11 : decode b_X10_string 11 = .ok (.aload_n 0, 1) := by decide +kernel
theorem d_X10_string_12 : decode b_X10_string 12 = .ok (.aload_n 0, 1) := by decide +kernel
theorem d_X10_string_13 : decode b_X10_string 13 = .ok (.getfield 35, 3) := by decide +kernel
theorem d_X10_string_16 : decode b_X10_string 16 = .ok (.iload_n 1, 1) := by decide +kernel
theorem d_X10_string_17 : decode b_X10_string 17 = .ok (.iadd, 1) := by decide +kernel
theorem d_X10_string_18 : decode b_X10_string 18 = .ok (.invokevirtual 51, 3) := by decide +kernel
theorem d_X10_string_21 : decode b_X10_string 21 = .ok (.bipush 34, 2) := by decide +kernel
theorem d_X10_string_23 : decode b_X10_string 23 = .ok (.if_icmp .eq 46, 3) := by decide +kernel
theorem d_X10_string_26 : decode b_X10_string 26 = .ok (.aload_n 0, 1) := by decide +kernel
theorem d_X10_string_27 : decode b_X10_string 27 = .ok (.aload_n 0, 1) := by decide +kernel
theorem d_X10_string_28 : decode b_X10_string 28 = .ok (.getfield 35, 3) := by decide +kernel
theorem d_X10_string_31 : decode b_X10_string 31 = .ok (.iload_n 1, 1) := by decide +kernel
theorem d_X10_string_32 : decode b_X10_string 32 = .ok (.iadd, 1) := by decide +kernel
theorem d_X10_string_33 : decode b_X10_string 33 = .ok (.bipush 34, 2) := by decide +kernel
theorem d_X10_string_35 : decode b_X10_string 35 = .ok (.invokevirtual 133, 3) := by decide +kernel
