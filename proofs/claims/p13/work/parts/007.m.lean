theorem d_X10_string_38 : decode b_X10_string 38 = .ok (.ifCond .ge 12, 3) := by decide +kernel
theorem d_X10_string_41 : decode b_X10_string 41 = .ok (.aload_n 0, 1) := by decide +kernel
theorem d_X10_string_42 : decode b_X10_string 42 = .ok (.aload_n 0, 1) := by decide +kernel
theorem d_X10_string_43 : decode b_X10_string 43 = .ok (.getfield 35, 3) := by decide +kernel
theorem d_X10_string_46 : decode b_X10_string 46 = .ok (.invokevirtual 65, 3) := by decide +kernel
theorem d_X10_string_49 : decode b_X10_string 49 = .ok (.ireturn, 1) := by decide +kernel
theorem d_X10_string_50 : decode b_X10_string 50 = .ok (.iload_n 1, 1) := by decide +kernel
theorem d_X10_string_51 : decode b_X10_string 51 = .ok (.aload_n 0, 1) := by decide +kernel
theorem d_X10_string_52 : decode b_X10_string 52 = .ok (.aload_n 0, 1) := by decide +kernel
theorem d_X10_string_53 : decode b_X10_string 53 = .ok (.getfield 35, 3) := by decide +kernel
theorem d_X10_string_56 : decode b_X10_string 56 = .ok (.iload_n 1, 1) := by decide +kernel
theorem d_X10_string_57 : decode b_X10_string 57 = .ok (.iadd, 1) := by decide +kernel
theorem d_X10_string_58 : decode b_X10_string 58 = .ok (.invokevirtual 137, 3) := by decide +kernel
theorem d_X10_string_61 : decode b_X10_string 61 = .ok (.iadd, 1) := by decide +kernel
theorem d_X10_string_62 : decode b_X10_string 62 = .ok (.istore_n 1, 1) := by decide +kernel
theorem d_X10_string_63 : decode b_X10_string 63 = .ok (.iinc 2 1, 3) := by decide +kernel
theorem d_X10_string_66 : decode b_X10_string 66 = .ok (.goto (-62), 3) := by decide +kernel
theorem d_X10_string_69 : decode b_X10_string 69 = .ok (.iload_n 2, 1) := by decide +kernel
theorem d_X10_string_70 : decode b_X10_string 70 = .ok (.sipush 200, 3) := by decide +kernel
theorem d_X10_string_73 : decode b_X10_string 73 = .ok (.if_icmp .le 14, 3) := by decide +kernel
theorem d_X10_string_76 : decode b_X10_string 76 = .ok (.aload_n 0, 1) := by decide +kernel
theorem d_X10_string_77 : decode b_X10_string 77 = .ok (.aload_n 0, 1) := by decide +kernel
theorem d_X10_string_78 : decode b_X10_string 78 = .ok (.getfield 35, 3) := by decide +kernel
theorem d_X10_string_81 : decode b_X10_string 81 = .ok (.invokevirtual 65, 3) := by decide +kernel
theorem d_X10_string_84 : decode b_X10_string 84 = .ok (.goto 12, 3) := by decide +kernel
theorem d_X10_string_87 : decode b_X10_string 87 = .ok (.aload_n 0, 1) := by decide +kernel
theorem d_X10_string_88 : decode b_X10_string 88 = .ok (.iconst 4, 1) := by decide +kernel
theorem d_X10_string_89 : decode b_X10_string 89 = .ok (.iload_n 2, 1) := by decide +kernel
theorem d_X10_string_90 : decode b_X10_string 90 = .ok (.iload_n 1, 1) := by decide +kernel
theorem d_X10_string_91 : decode b_X10_string 91 = .ok (.iconst 1, 1) := by decide +kernel
theorem d_X10_string_92 : decode b_X10_string 92 = .ok (.iadd, 1) := by decide +kernel
theorem d_X10_string_93 : decode b_X10_string 93 = .ok (.invokevirtual 68, 3) := by decide +kernel
theorem d_X10_string_96 : decode b_X10_string 96 = .ok (.ireturn, 1) := by decide +kernel
theorem d_X10_token_0 : decode b_X10_token 0 = .ok (.aload_n 0, 1) := by decide +kernel
theorem d_X10_token_1 : decode b_X10_token 1 = .ok (.aload_n 0, 1) := by decide +kernel
theorem d_X10_token_2 : decode b_X10_token 2 = .ok (.getfield 35, 3) := by decide +kernel
theorem d_X10_token_5 : decode b_X10_token 5 = .ok (.invokevirtual 51, 3) := by decide +kernel
theorem d_X10_token_8 : decode b_X10_token 8 = .ok (.istore_n 1, 1) := by decide +kernel
theorem d_X10_token_9 : decode b_X10_token 9 = .ok (.iload_n 1, 1) := by decide +kernel
theorem d_X10_token_10 : decode b_X10_token 10 = .ok (.ifCond .ge 13, 3) := by decide +kernel
theorem d_X10_token_13 : decode b_X10_token 13 = .ok (.aload_n 0, 1) := by decide +kernel
theorem d_X10_token_14 : decode b_X10_token 14 = .ok (.iconst 0, 1) := by decide +kernel
theorem d_X10_token_15 : decode b_X10_token 15 = .ok (.iconst 0, 1) := by decide +kernel
theorem d_X10_token_16 : decode b_X10_token 16 = .ok (.iconst 0, 1) := by decide +kernel
theorem d_X10_token_17 : decode b_X10_token 17 = .ok (.invokevirtual 68, 3) := by decide +kernel
theorem d_X10_token_20 : decode b_X10_token 20 = .ok (.pop, 1) := by decide +kernel
theorem d_X10_token_21 : decode b_X10_token 21 = .ok (.iconst 0, 1) := by decide +kernel
theorem d_X10_token_22 : decode b_X10_token 22 = .ok (.ireturn, 1) := by decide +kernel
theorem d_X10_token_23 : decode b_X10_token 23 = .ok (.iload_n 1, 1) := by decide +kernel
theorem d_X10_token_24 : decode b_X10_token 24 = .ok (.invokestatic 72, 3) := by decide +kernel
theorem d_X10_token_27 : decode b_X10_token 27 = .ok (.ifCond .eq 8, 3) := by decide +kernel
theorem d_X10_token_30 : decode b_X10_token 30 = .ok (.aload_n 0, 1) := by decide +kernel
theorem d_X10_token_31 : decode b_X10_token 31 = .ok (.invokevirtual 75, 3) := by decide +kernel
theorem d_X10_token_34 : decode b_X10_token 34 = .ok (.ireturn, 1) := by decide +kernel
theorem d_X10_token_35 : decode b_X10_token 35 = .ok (.iload_n 1, 1) := by decide +kernel
theorem d_X10_token_36 : decode b_X10_token 36 = .ok (.invokestatic 78, 3) := by decide +kernel
theorem d_X10_token_39 : decode b_X10_token 39 = .ok (.ifCond .eq 52, 3) := by decide +kernel
theorem d_X10_token_42 : decode b_X10_token 42 = .ok (.iload_n 1, 1) := by decide +kernel
theorem d_X10_token_43 : decode b_X10_token 43 = .ok (.bipush 48, 2) := by decide +kernel
theorem d_X10_token_45 : decode b_X10_token 45 = .ok (.if_icmp .ne 41, 3) := by decide +kernel
theorem d_X10_token_48 : decode b_X10_token 48 = .ok (.aload_n 0, 1) := by decide +kernel
theorem d_X10_token_49 : decode b_X10_token 49 = .ok (.aload_n 0, 1) := by decide +kernel
theorem d_X10_token_50 : decode b_X10_token 50 = .ok (.getfield 35, 3) := by decide +kernel
theorem d_X10_token_53 : decode b_X10_token 53 = .ok (.iconst 1, 1) := by decide +kernel
theorem d_X10_token_54 : decode b_X10_token 54 = .ok (.iadd, 1) := by decide +kernel
theorem d_X10_token_55 : decode b_X10_token 55 = .ok (.invokevirtual 51, 3) := by decide +kernel
theorem d_X10_token_58 : decode b_X10_token 58 = .ok (.bipush 120, 2) := by decide +kernel
theorem d_X10_token_60 : decode b_X10_token 60 = .ok (.if_icmp .ne 26, 3) := by decide +kernel
theorem d_X10_token_63 : decode b_X10_token 63 = .ok (.aload_n 0, 1) := by decide +kernel
theorem d_X10_token_64 : decode b_X10_token 64 = .ok (.aload_n 0, 1) := by decide +kernel
theorem d_X10_token_65 : decode b_X10_token 65 = .ok (.getfield 35, 3) := by decide +kernel
theorem d_X10_token_68 : decode b_X10_token 68 = .ok (.iconst 2, 1) := by decide +kernel
theorem d_X10_token_69 : decode b_X10_token 69 = .ok (.iadd, 1) := by decide +kernel
theorem d_X10_token_70 : decode b_X10_token 70 = .ok (.invokevirtual 51, 3) := by decide +kernel
theorem d_X10_token_73 : decode b_X10_token 73 = .ok (.invokestatic 81, 3) := by decide +kernel
theorem d_X10_token_76 : decode b_X10_token 76 = .ok (.ifCond .lt 10, 3) := by decide +kernel
theorem d_X10_token_79 : decode b_X10_token 79 = .ok (.aload_n 0, 1) := by decide +kernel
theorem d_X10_token_80 : decode b_X10_token 80 = .ok (.invokevirtual 84, 3) := by decide +kernel
theorem d_X10_token_83 : decode b_X10_token 83 = .ok (.goto 7, 3) := by decide +kernel
theorem d_X10_token_86 : decode b_X10_token 86 = .ok (.aload_n 0, 1) := by decide +kernel
theorem d_X10_token_87 : decode b_X10_token 87 = .ok (.invokevirtual 87, 3) := by decide +kernel
theorem d_X10_token_90 : decode b_X10_token 90 = .ok (.ireturn, 1) := by decide +kernel
theorem d_X10_token_91 : decode b_X10_token 91 = .ok (.iload_n 1, 1) := by decide +kernel
theorem d_X10_token_92 : decode b_X10_token 92 = .ok (.bipush 39, 2) := by decide +kernel
theorem d_X10_token_94 : decode b_X10_token 94 = .ok (.if_icmp .ne 8, 3) := by decide +kernel
theorem d_X10_token_97 : decode b_X10_token 97 = .ok (.aload_n 0, 1) := by decide +kernel
theorem d_X10_token_98 : decode b_X10_token 98 = .ok (.invokevirtual 90, 3) := by decide +kernel
theorem d_X10_token_101 : decode b_X10_token 101 = .ok (.ireturn, 1) := by decide +kernel
theorem d_X10_token_102 : decode b_X10_token 102 = .ok (.iload_n 1, 1) := by decide +kernel
theorem d_X10_token_103 : decode b_X10_token 103 = .ok (.bipush 34, 2) := by decide +kernel
theorem d_X10_token_105 : decode b_X10_token 105 = .ok (.if_icmp .ne 10, 3) := by decide +kernel
theorem d_X10_token_108 : decode b_X10_token 108 = .ok (.aload_n 0, 1) := by decide +kernel
theorem d_X10_token_109 : decode b_X10_token 109 = .ok (.invokevirtual 93, 3) := by decide +kernel
theorem d_X10_token_112 : decode b_X10_token 112 = .ok (.goto 7, 3) := by decide +kernel
theorem d_X10_token_115 : decode b_X10_token 115 = .ok (.aload_n 0, 1) := by decide +kernel
theorem d_X10_token_116 : decode b_X10_token 116 = .ok (.invokevirtual 96, 3) := by decide +kernel
theorem d_X10_token_119 : decode b_X10_token 119 = .ok (.ireturn, 1) := by decide +kernel
theorem d_X10_widthAt_0 : decode b_X10_widthAt 0 = .ok (.aload_n 0, 1) := by decide +kernel
theorem d_X10_widthAt_1 : decode b_X10_widthAt 1 = .ok (.iload_n 1, 1) := by decide +kernel
theorem d_X10_widthAt_2 : decode b_X10_widthAt 2 = .ok (.invokevirtual 51, 3) := by decide +kernel
theorem d_X10_widthAt_5 : decode b_X10_widthAt 5 = .ok (.bipush 92, 2) := by decide +kernel
theorem d_X10_widthAt_7 : decode b_X10_widthAt 7 = .ok (.if_icmp .ne 7, 3) := by decide +kernel
theorem d_X10_widthAt_10 : decode b_X10_widthAt 10 = .ok (.iconst 2, 1) := by decide +kernel
theorem d_X10_widthAt_11 : decode b_X10_widthAt 11 = .ok (.goto 4, 3) := by decide +kernel
theorem d_X10_widthAt_14 : decode b_X10_widthAt 14 = .ok (.iconst 1, 1) := by decide +kernel
theorem d_X10_widthAt_15 : decode b_X10_widthAt 15 = .ok (.ireturn, 1) := by decide +kernel
theorem d_X10_word_0 : decode b_X10_word 0 = .ok (.iconst 1, 1) := by decide +kernel
theorem d_X10_word_1 : decode b_X10_word 1 = .ok (.istore_n 1, 1) := by decide +kernel
theorem d_X10_word_2 : decode b_X10_word 2 = .ok (.aload_n 0, 1) := by decide +kernel
theorem d_X10_word_3 : decode b_X10_word 3 = .ok (.aload_n 0, 1) := by decide +kernel
theorem d_X10_word_4 : decode b_X10_word 4 = .ok (.getfield 35, 3) := by decide +kernel
theorem d_X10_word_7 : decode b_X10_word 7 = .ok (.iconst 1, 1) := by decide +kernel
theorem d_X10_word_8 : decode b_X10_word 8 = .ok (.iadd, 1) := by decide +kernel
theorem d_X10_word_9 : decode b_X10_word 9 = .ok (.invokevirtual 51, 3) := by decide +kernel
theorem d_X10_word_12 : decode b_X10_word 12 = .ok (.istore_n 2, 1) := by decide +kernel
theorem d_X10_word_13 : decode b_X10_word 13 = .ok (.iload_n 1, 1) := by decide +kernel
theorem d_X10_word_14 : decode b_X10_word 14 = .ok (.aload_n 0, 1) := by decide +kernel
theorem d_X10_word_15 : decode b_X10_word 15 = .ok (.getfield 31, 3) := by decide +kernel
theorem d_X10_word_18 : decode b_X10_word 18 = .ok (.if_icmp .gt 36, 3) := by decide +kernel
theorem d_X10_word_21 : decode b_X10_word 21 = .ok (.iload_n 2, 1) := by decide +kernel
theorem d_X10_word_22 : decode b_X10_word 22 = .ok (.invokestatic 72, 3) := by decide +kernel
theorem d_X10_word_25 : decode b_X10_word 25 = .ok (.ifCond .ne 10, 3) := by decide +kernel
theorem d_X10_word_28 : decode b_X10_word 28 = .ok (.iload_n 2, 1) := by decide +kernel
theorem d_X10_word_29 : decode b_X10_word 29 = .ok (.invokestatic 78, 3) := by decide +kernel
theorem d_X10_word_32 : decode b_X10_word 32 = .ok (.ifCond .eq 22, 3) := by decide +kernel
theorem d_X10_word_35 : decode b_X10_word 35 = .ok (.aload_n 0, 1) := by decide +kernel
theorem d_X10_word_36 : decode b_X10_word 36 = .ok (.aload_n 0, 1) := by decide +kernel
theorem d_X10_word_37 : decode b_X10_word 37 = .ok (.getfield 35, 3) := by decide +kernel
theorem d_X10_word_40 : decode b_X10_word 40 = .ok (.iload_n 1, 1) := by decide +kernel
theorem d_X10_word_41 : decode b_X10_word 41 = .ok (.iadd, 1) := by decide +kernel
theorem d_X10_word_42 : decode b_X10_word 42 = .ok (.iconst 1, 1) := by decide +kernel
theorem d_X10_word_43 : decode b_X10_word 43 = .ok (.iadd, 1) := by decide +kernel
theorem d_X10_word_44 : decode b_X10_word 44 = .ok (.invokevirtual 51, 3) := by decide +kernel
theorem d_X10_word_47 : decode b_X10_word 47 = .ok (.istore_n 2, 1) := by decide +kernel
theorem d_X10_word_48 : decode b_X10_word 48 = .ok (.iinc 1 1, 3) := by decide +kernel
theorem d_X10_word_51 : decode b_X10_word 51 = .ok (.goto (-38), 3) := by decide +kernel
theorem d_X10_word_54 : decode b_X10_word 54 = .ok (.iload_n 1, 1) := by decide +kernel
theorem d_X10_word_55 : decode b_X10_word 55 = .ok (.bipush 24, 2) := by decide +kernel
theorem d_X10_word_57 : decode b_X10_word 57 = .ok (.if_icmp .le 12, 3) := by decide +kernel
theorem d_X10_word_60 : decode b_X10_word 60 = .ok (.aload_n 0, 1) := by decide +kernel
theorem d_X10_word_61 : decode b_X10_word 61 = .ok (.aload_n 0, 1) := by decide +kernel
theorem d_X10_word_62 : decode b_X10_word 62 = .ok (.getfield 35, 3) := by decide +kernel
theorem d_X10_word_65 : decode b_X10_word 65 = .ok (.invokevirtual 65, 3) := by decide +kernel
theorem d_X10_word_68 : decode b_X10_word 68 = .ok (.ireturn, 1) := by decide +kernel
theorem d_X10_word_69 : decode b_X10_word 69 = .ok (.aload_n 0, 1) := by decide +kernel
theorem d_X10_word_70 : decode b_X10_word 70 = .ok (.ldc 99, 2) := by decide +kernel
theorem d_X10_word_72 : decode b_X10_word 72 = .ok (.iload_n 1, 1) := by decide +kernel
theorem d_X10_word_73 : decode b_X10_word 73 = .ok (.invokevirtual 101, 3) := by decide +kernel
theorem d_X10_word_76 : decode b_X10_word 76 = .ok (.istore_n 2, 1) := by decide +kernel
theorem d_X10_word_77 : decode b_X10_word 77 = .ok (.aload_n 0, 1) := by decide +kernel
theorem d_X10_word_78 : decode b_X10_word 78 = .ok (.iload_n 2, 1) := by decide +kernel
theorem d_X10_word_79 : decode b_X10_word 79 = .ok (.ifCond .ge 7, 3) := by decide +kernel
theorem d_X10_word_82 : decode b_X10_word 82 = .ok (.iconst 2, 1) := by decide +kernel
theorem d_X10_word_83 : decode b_X10_word 83 = .ok (.goto 6, 3) := by decide +kernel
theorem d_X10_word_86 : decode b_X10_word 86 = .ok (.iconst 5, 1) := by decide +kernel
theorem d_X10_word_87 : decode b_X10_word 87 = .ok (.iload_n 2, 1) := by decide +kernel
theorem d_X10_word_88 : decode b_X10_word 88 = .ok (.iadd, 1) := by decide +kernel
theorem d_X10_word_89 : decode b_X10_word 89 = .ok (.iload_n 1, 1) := by decide +kernel
theorem d_X10_word_90 : decode b_X10_word 90 = .ok (.iload_n 1, 1) := by decide +kernel
theorem d_X10_word_91 : decode b_X10_word 91 = .ok (.invokevirtual 68, 3) := by decide +kernel
theorem d_X10_word_94 : decode b_X10_word 94 = .ok (.ireturn, 1) := by decide +kernel
theorem d_X11_init_0 : decode b_X11_init 0 = .ok (.aload_n 0, 1) := by decide +kernel
theorem d_X11_init_1 : decode b_X11_init 1 = .ok (.invokespecial 3, 3) := by decide +kernel
theorem d_X11_init_4 : decode b_X11_init 4 = .ok (.aload_n 0, 1) := by decide +kernel
theorem d_X11_init_5 : decode b_X11_init 5 = .ok (.bipush 100, 2) := by decide +kernel
theorem d_X11_init_7 : decode b_X11_init 7 = .ok (.newarray .int, 2) := by decide +kernel
theorem d_X11_init_9 : decode b_X11_init 9 = .ok (.putfield 9, 3) := by decide +kernel
theorem d_X11_init_12 : decode b_X11_init 12 = .ok (.aload_n 0, 1) := by decide +kernel
theorem d_X11_init_13 : decode b_X11_init 13 = .ok (.bipush 100, 2) := by decide +kernel
theorem d_X11_init_15 : decode b_X11_init 15 = .ok (.newarray .int, 2) := by decide +kernel
theorem d_X11_init_17 : decode b_X11_init 17 = .ok (.putfield 15, 3) := by decide +kernel
theorem d_X11_init_20 : decode b_X11_init 20 = .ok (.aload_n 0, 1) := by decide +kernel
theorem d_X11_init_21 : decode b_X11_init 21 = .ok (.bipush 100, 2) := by decide +kernel
theorem d_X11_init_23 : decode b_X11_init 23 = .ok (.newarray .int, 2) := by decide +kernel
theorem d_X11_init_25 : decode b_X11_init 25 = .ok (.putfield 18, 3) := by decide +kernel
theorem d_X11_init_28 : decode b_X11_init 28 = .ok (.aload_n 0, 1) := by decide +kernel
theorem d_X11_init_29 : decode b_X11_init 29 = .ok (.bipush 100, 2) := by decide +kernel
theorem d_X11_init_31 : decode b_X11_init 31 = .ok (.newarray .int, 2) := by decide +kernel
theorem d_X11_init_33 : decode b_X11_init 33 = .ok (.putfield 21, 3) := by decide +kernel
theorem d_X11_init_36 : decode b_X11_init 36 = .ok (.aload_n 0, 1) := by decide +kernel
theorem d_X11_init_37 : decode b_X11_init 37 = .ok (.bipush 100, 2) := by decide +kernel
theorem d_X11_init_39 : decode b_X11_init 39 = .ok (.newarray .int, 2) := by decide +kernel
theorem d_X11_init_41 : decode b_X11_init 41 = .ok (.putfield 24, 3) := by decide +kernel
theorem d_X11_init_44 : decode b_X11_init 44 = .ok (.aload_n 0, 1) := by decide +kernel
theorem d_X11_init_45 : decode b_X11_init 45 = .ok (.bipush 100, 2) := by decide +kernel
theorem d_X11_init_47 : decode b_X11_init 47 = .ok (.newarray .int, 2) := by decide +kernel
theorem d_X11_init_49 : decode b_X11_init 49 = .ok (.putfield 27, 3) := by decide +kernel
theorem d_X11_init_52 : decode b_X11_init 52 = .ok (.aload_n 0, 1) := by decide +kernel
theorem d_X11_init_53 : decode b_X11_init 53 = .ok (.bipush 100, 2) := by decide +kernel
theorem d_X11_init_55 : decode b_X11_init 55 = .ok (.newarray .int, 2) := by decide +kernel
theorem d_X11_init_57 : decode b_X11_init 57 = .ok (.putfield 30, 3) := by decide +kernel
theorem d_X11_init_60 : decode b_X11_init 60 = .ok (.aload_n 0, 1) := by decide +kernel
theorem d_X11_init_61 : decode b_X11_init 61 = .ok (.bipush 52, 2) := by decide +kernel
theorem d_X11_init_63 : decode b_X11_init 63 = .ok (.newarray .int, 2) := by decide +kernel
theorem d_X11_init_65 : decode b_X11_init 65 = .ok (.putfield 33, 3) := by decide +kernel
theorem d_X11_init_68 : decode b_X11_init 68 = .ok (.aload_n 0, 1) := by decide +kernel
theorem d_X11_init_69 : decode b_X11_init 69 = .ok (.aload_n 1, 1) := by decide +kernel
theorem d_X11_init_70 : decode b_X11_init 70 = .ok (.putfield 36, 3) := by decide +kernel
theorem d_X11_init_73 : decode b_X11_init 73 = .ok (.aload_n 0, 1) := by decide +kernel
theorem d_X11_init_74 : decode b_X11_init 74 = .ok (.aload_n 2, 1) := by decide +kernel
theorem d_X11_init_75 : decode b_X11_init 75 = .ok (.putfield 40, 3) := by decide +kernel
theorem d_X11_init_78 : decode b_X11_init 78 = .ok (.return_, 1) := by decide +kernel
theorem d_X11_begin_0 : decode b_X11_begin 0 = .ok (.aload_n 0, 1) := by decide +kernel
theorem d_X11_begin_1 : decode b_X11_begin 1 = .ok (.iload_n 1, 1) := by decide +kernel
theorem d_X11_begin_2 : decode b_X11_begin 2 = .ok (.putfield 44, 3) := by decide +kernel
theorem d_X11_begin_5 : decode b_X11_begin 5 = .ok (.aload_n 0, 1) := by decide +kernel
theorem d_X11_begin_6 : decode b_X11_begin 6 = .ok (.iconst 0, 1) := by decide +kernel
theorem d_X11_begin_7 : decode b_X11_begin 7 = .ok (.putfield 48, 3) := by decide +kernel
theorem d_X11_begin_10 : decode b_X11_begin 10 = .ok (.aload_n 0, 1) := by decide +kernel
theorem d_X11_begin_11 : decode b_X11_begin 11 = .ok (.iconst (-1), 1) := by decide +kernel
theorem d_X11_begin_12 : decode b_X11_begin 12 = .ok (.putfield 51, 3) := by decide +kernel
theorem d_X11_begin_15 : decode b_X11_begin 15 = .ok (.aload_n 0, 1) := by decide +kernel
theorem d_X11_begin_16 : decode b_X11_begin 16 = .ok (.iconst 0, 1) := by decide +kernel
theorem d_X11_begin_17 : decode b_X11_begin 17 = .ok (.putfield 54, 3) := by decide +kernel
theorem d_X11_begin_20 : decode b_X11_begin 20 = .ok (.aload_n 0, 1) := by decide +kernel
theorem d_X11_begin_21 : decode b_X11_begin 21 = .ok (.iconst 0, 1) := by decide +kernel
theorem d_X11_begin_22 : decode b_X11_begin 22 = .ok (.putfield 57, 3) := by decide +kernel
theorem d_X11_begin_25 : decode b_X11_begin 25 = .ok (.aload_n 0, 1) := by decide +kernel
theorem d_X11_begin_26 : decode b_X11_begin 26 = .ok (.invokevirtual 60, 3) := by decide +kernel
theorem d_X11_begin_29 : decode b_X11_begin 29 = .ok (.return_, 1) := by decide +kernel
theorem d_X11_close_0 : decode b_X11_close 0 = .ok (.aload_n 0, 1) := by decide +kernel
theorem d_X11_close_1 : decode b_X11_close 1 = .ok (.dup, 1) := by decide +kernel
theorem d_X11_close_2 : decode b_X11_close 2 = .ok (.getfield 75, 3) := by decide +kernel
theorem d_X11_close_5 : decode b_X11_close 5 = .ok (.iconst 1, 1) := by decide +kernel
theorem d_X11_close_6 : decode b_X11_close 6 = .ok (.isub, 1) := by decide +kernel
theorem d_X11_close_7 : decode b_X11_close 7 = .ok (.putfield 75, 3) := by decide +kernel
theorem d_X11_close_10 : decode b_X11_close 10 = .ok (.aload_n 0, 1) := by decide +kernel
theorem d_X11_close_11 : decode b_X11_close 11 = .ok (.aload_n 0, 1) := by decide +kernel
theorem d_X11_close_12 : decode b_X11_close 12 = .ok (.getfield 33, 3) := by decide +kernel
theorem d_X11_close_15 : decode b_X11_close 15 = .ok (.aload_n 0, 1) := by decide +kernel
theorem d_X11_close_16 : decode b_X11_close 16 = .ok (.getfield 75, 3) := by decide +kernel
theorem d_X11_close_19 : decode b_X11_close 19 = .ok (.invokestatic 82, 3) := by decide +kernel
theorem d_X11_close_22 : decode b_X11_close 22 = .ok (.putfield 72, 3) := by decide +kernel
theorem d_X11_close_25 : decode b_X11_close 25 = .ok (.return_, 1) := by decide +kernel
theorem d_X11_declareLocal_0 : decode b_X11_declareLocal 0 = .ok (.aload_n 0, 1) := by decide +kernel
theorem d_X11_declareLocal_1 : decode b_X11_declareLocal 1 = .ok (.getfield 69, 3) := by decide +kernel
theorem d_X11_declareLocal_4 : decode b_X11_declareLocal 4 = .ok (.istore 4, 2) := by decide +kernel
theorem d_X11_declareLocal_6 : decode b_X11_declareLocal 6 = .ok (.aload_n 0, 1) := by decide +kernel
theorem d_X11_declareLocal_7 : decode b_X11_declareLocal 7 = .ok (.getfield 18, 3) := by decide +kernel
theorem d_X11_declareLocal_10 : decode b_X11_declareLocal 10 = .ok (.iload 4, 2) := by decide +kernel
theorem d_X11_declareLocal_12 : decode b_X11_declareLocal 12 = .ok (.iload_n 1, 1) := by decide +kernel
theorem d_X11_declareLocal_13 : decode b_X11_declareLocal 13 = .ok (.invokestatic 78, 3) := by decide +kernel
theorem d_X11_declareLocal_16 : decode b_X11_declareLocal 16 = .ok (.aload_n 0, 1) := by decide +kernel
theorem d_X11_declareLocal_17 : decode b_X11_declareLocal 17 = .ok (.getfield 21, 3) := by decide +kernel
theorem d_X11_declareLocal_20 : decode b_X11_declareLocal 20 = .ok (.iload 4, 2) := by decide +kernel
theorem d_X11_declareLocal_22 : decode b_X11_declareLocal 22 = .ok (.iload_n 2, 1) := by decide +kernel
theorem d_X11_declareLocal_23 : decode b_X11_declareLocal 23 = .ok (.invokestatic 78, 3) := by decide +kernel
theorem d_X11_declareLocal_26 : decode b_X11_declareLocal 26 = .ok (.aload_n 0, 1) := by decide +kernel
theorem d_X11_declareLocal_27 : decode b_X11_declareLocal 27 = .ok (.getfield 24, 3) := by decide +kernel
theorem d_X11_declareLocal_30 : decode b_X11_declareLocal 30 = .ok (.iload 4, 2) := by decide +kernel
theorem d_X11_declareLocal_32 : decode b_X11_declareLocal 32 = .ok (.iload_n 3, 1) := by decide +kernel
theorem d_X11_declareLocal_33 : decode b_X11_declareLocal 33 = .ok (.invokestatic 78, 3) := by decide +kernel
theorem d_X11_declareLocal_36 : decode b_X11_declareLocal 36 = .ok (.aload_n 0, 1) := by decide +kernel
theorem d_X11_declareLocal_37 : decode b_X11_declareLocal 37 = .ok (.getfield 27, 3) := by decide +kernel
theorem d_X11_declareLocal_40 : decode b_X11_declareLocal 40 = .ok (.iload 4, 2) := by decide +kernel
theorem d_X11_declareLocal_42 : decode b_X11_declareLocal 42 = .ok (.iload_n 3, 1) := by decide +kernel
theorem d_X11_declareLocal_43 : decode b_X11_declareLocal 43 = .ok (.ifCond .ge 7, 3) := by decide +kernel
theorem d_X11_declareLocal_46 : decode b_X11_declareLocal 46 = .ok (.iconst 0, 1) := by decide +kernel
theorem d_X11_declareLocal_47 : decode b_X11_declareLocal 47 = .ok (.goto 4, 3) := by decide +kernel
theorem d_X11_declareLocal_50 : decode b_X11_declareLocal 50 = .ok (.iconst 1, 1) := by decide +kernel
theorem d_X11_declareLocal_51 : decode b_X11_declareLocal 51 = .ok (.invokestatic 78, 3) := by decide +kernel
theorem d_X11_declareLocal_54 : decode b_X11_declareLocal 54 = .ok (.aload_n 0, 1) := by decide +kernel
theorem d_X11_declareLocal_55 : decode b_X11_declareLocal 55 = .ok (.getfield 30, 3) := by decide +kernel
theorem d_X11_declareLocal_58 : decode b_X11_declareLocal 58 = .ok (.aload_n 0, 1) := by decide +kernel
theorem d_X11_declareLocal_59 : decode b_X11_declareLocal 59 = .ok (.getfield 72, 3) := by decide +kernel
theorem d_X11_declareLocal_62 : decode b_X11_declareLocal 62 = .ok (.iload 4, 2) := by decide +kernel
theorem d_X11_declareLocal_64 : decode b_X11_declareLocal 64 = .ok (.invokestatic 78, 3) := by decide +kernel
theorem d_X11_declareLocal_67 : decode b_X11_declareLocal 67 = .ok (.aload_n 0, 1) := by decide +kernel
theorem d_X11_declareLocal_68 : decode b_X11_declareLocal 68 = .ok (.dup, 1) := by decide +kernel
theorem d_X11_declareLocal_69 : decode b_X11_declareLocal 69 = .ok (.getfield 69, 3) := by decide +kernel
theorem d_X11_declareLocal_72 : decode b_X11_declareLocal 72 = .ok (.iconst 1, 1) := by decide +kernel
theorem d_X11_declareLocal_73 : decode b_X11_declareLocal 73 = .ok (.iadd, 1) := by decide +kernel
theorem d_X11_declareLocal_74 : decode b_X11_declareLocal 74 = .ok (.putfield 69, 3) := by decide +kernel
theorem d_X11_declareLocal_77 : decode b_X11_declareLocal 77 = .ok (.aload_n 0, 1) := by decide +kernel
theorem d_X11_declareLocal_78 : decode b_X11_declareLocal 78 = .ok (.dup, 1) := by decide +kernel
theorem d_X11_declareLocal_79 : decode b_X11_declareLocal 79 = .ok (.getfield 72, 3) := by decide +kernel
theorem d_X11_declareLocal_82 : decode b_X11_declareLocal 82 = .ok (.iconst 1, 1) := by decide +kernel
theorem d_X11_declareLocal_83 : decode b_X11_declareLocal 83 = .ok (.iadd, 1) := by decide +kernel
theorem d_X11_declareLocal_84 : decode b_X11_declareLocal 84 = .ok (.putfield 72, 3) := by decide +kernel
theorem d_X11_declareLocal_87 : decode b_X11_declareLocal 87 = .ok (.return_, 1) := by decide +kernel
theorem d_X11_declareOuter_0 : decode b_X11_declareOuter 0 = .ok (.aload_n 0, 1) := by decide +kernel
theorem d_X11_declareOuter_1 : decode b_X11_declareOuter 1 = .ok (.getfield 9, 3) := by decide +kernel
theorem d_X11_declareOuter_4 : decode b_X11_declareOuter 4 = .ok (.aload_n 0, 1) := by decide +kernel
theorem d_X11_declareOuter_5 : decode b_X11_declareOuter 5 = .ok (.getfield 57, 3) := by decide +kernel
theorem d_X11_declareOuter_8 : decode b_X11_declareOuter 8 = .ok (.iload_n 1, 1) := by decide +kernel
theorem d_X11_declareOuter_9 : decode b_X11_declareOuter 9 = .ok (.invokestatic 78, 3) := by decide +kernel
theorem d_X11_declareOuter_12 : decode b_X11_declareOuter 12 = .ok (.aload_n 0, 1) := by decide +kernel
theorem d_X11_declareOuter_13 : decode b_X11_declareOuter 13 = .ok (.getfield 15, 3) := by decide +kernel
theorem d_X11_declareOuter_16 : decode b_X11_declareOuter 16 = .ok (.aload_n 0, 1) := by decide +kernel
theorem d_X11_declareOuter_17 : decode b_X11_declareOuter 17 = .ok (.getfield 57, 3) := by decide +kernel
theorem d_X11_declareOuter_20 : decode b_X11_declareOuter 20 = .ok (.iconst (-1), 1) := by decide +kernel
theorem d_X11_declareOuter_21 : decode b_X11_declareOuter 21 = .ok (.invokestatic 78, 3) := by decide +kernel
theorem d_X11_declareOuter_24 : decode b_X11_declareOuter 24 = .ok (.aload_n 0, 1) := by decide +kernel
theorem d_X11_declareOuter_25 : decode b_X11_declareOuter 25 = .ok (.dup, 1) := by decide +kernel
theorem d_X11_declareOuter_26 : decode b_X11_declareOuter 26 = .ok (.getfield 57, 3) := by decide +kernel
theorem d_X11_declareOuter_29 : decode b_X11_declareOuter 29 = .ok (.iconst 1, 1) := by decide +kernel
theorem d_X11_declareOuter_30 : decode b_X11_declareOuter 30 = .ok (.iadd, 1) := by decide +kernel
theorem d_X11_declareOuter_31 : decode b_X11_declareOuter 31 = .ok (.putfield 57, 3) := by decide +kernel
theorem d_X11_declareOuter_34 : decode b_X11_declareOuter 34 = .ok (.aload_n 0, 1) := by decide +kernel
theorem d_X11_declareOuter_35 : decode b_X11_declareOuter 35 = .ok (.getfield 40, 3) := by decide +kernel
theorem d_X11_declareOuter_38 : decode b_X11_declareOuter 38 = .ok (.aload_n 0, 1) := by decide +kernel
theorem d_X11_declareOuter_39 : decode b_X11_declareOuter 39 = .ok (.getfield 36, 3) := by decide +kernel
theorem d_X11_declareOuter_42 : decode b_X11_declareOuter 42 = .ok (.getfield 97, 3) := by decide +kernel
theorem d_X11_declareOuter_45 : decode b_X11_declareOuter 45 = .ok (.aload_n 0, 1) := by decide +kernel
theorem d_X11_declareOuter_46 : decode b_X11_declareOuter 46 = .ok (.getfield 36, 3) := by decide +kernel
theorem d_X11_declareOuter_49 : decode b_X11_declareOuter 49 = .ok (.getfield 101, 3) := by decide +kernel
theorem d_X11_declareOuter_52 : decode b_X11_declareOuter 52 = .ok (.iload_n 1, 1) := by decide +kernel
theorem d_X11_declareOuter_53 : decode b_X11_declareOuter 53 = .ok (.invokestatic 82, 3) := by decide +kernel
theorem d_X11_declareOuter_56 : decode b_X11_declareOuter 56 = .ok (.aload_n 0, 1) := by decide +kernel
theorem d_X11_declareOuter_57 : decode b_X11_declareOuter 57 = .ok (.getfield 36, 3) := by decide +kernel
theorem d_X11_declareOuter_60 : decode b_X11_declareOuter 60 = .ok (.getfield 104, 3) := by decide +kernel
theorem d_X11_declareOuter_63 : decode b_X11_declareOuter 63 = .ok (.iload_n 1, 1) := by decide +kernel
theorem d_X11_declareOuter_64 : decode b_X11_declareOuter 64 = .ok (.invokestatic 82, 3) := by decide +kernel
theorem d_X11_declareOuter_67 : decode b_X11_declareOuter 67 = .ok (.invokevirtual 107, 3) := by decide +kernel
theorem d_X11_declareOuter_70 : decode b_X11_declareOuter 70 = .ok (.ireturn, 1) := by decide +kernel
theorem d_X11_enter_0 : decode b_X11_enter 0 = .ok (.aload_n 0, 1) := by decide +kernel
theorem d_X11_enter_1 : decode b_X11_enter 1 = .ok (.invokevirtual 60, 3) := by decide +kernel
theorem d_X11_enter_4 : decode b_X11_enter 4 = .ok (.aload_n 0, 1) := by decide +kernel
theorem d_X11_enter_5 : decode b_X11_enter 5 = .ok (.iload_n 1, 1) := by decide +kernel
theorem d_X11_enter_6 : decode b_X11_enter 6 = .ok (.putfield 63, 3) := by decide +kernel
theorem d_X11_enter_9 : decode b_X11_enter 9 = .ok (.aload_n 0, 1) := by decide +kernel
theorem d_X11_enter_10 : decode b_X11_enter 10 = .ok (.invokevirtual 66, 3) := by decide +kernel
theorem d_X11_enter_13 : decode b_X11_enter 13 = .ok (.return_, 1) := by decide +kernel
theorem d_X11_fail_0 : decode b_X11_fail 0 = .ok (.aload_n 0, 1) := by decide +kernel
theorem d_X11_fail_1 : decode b_X11_fail 1 = .ok (.getfield 48, 3) := by decide +kernel
theorem d_X11_fail_4 : decode b_X11_fail 4 = .ok (.ifCond .ne 13, 3) := by decide +kernel
theorem d_X11_fail_7 : decode b_X11_fail 7 = .ok (.aload_n 0, 1) := by decide +kernel
theorem d_X11_fail_8 : decode b_X11_fail 8 = .ok (.iload_n 1, 1) := by decide +kernel
theorem d_X11_fail_9 : decode b_X11_fail 9 = .ok (.putfield 48, 3) := by decide +kernel
theorem d_X11_fail_12 : decode b_X11_fail 12 = .ok (.aload_n 0, 1) := by decide +kernel
theorem d_X11_fail_13 : decode b_X11_fail 13 = .ok (.iload_n 2, 1) := by decide +kernel
theorem d_X11_fail_14 : decode b_X11_fail 14 = .ok (.putfield 51, 3) := by decide +kernel
theorem d_X11_fail_17 : decode b_X11_fail 17 = .ok (.return_, 1) := by decide +kernel
theorem d_X11_finish_0 : decode b_X11_finish 0 = .ok (.iconst (-1), 1) := by decide +kernel
theorem d_X11_finish_1 : decode b_X11_finish 1 = .ok (.istore_n 1, 1) := by decide +kernel
theorem d_X11_finish_2 : decode b_X11_finish 2 = .ok (.iconst 0, 1) := by decide +kernel
theorem d_X11_finish_3 : decode b_X11_finish 3 = .ok (.istore_n 2, 1) := by decide +kernel
theorem d_X11_finish_4 : decode b_X11_finish 4 = .ok (.iload_n 2, 1) := by decide +kernel
theorem d_X11_finish_5 : decode b_X11_finish 5 = .ok (.aload_n 0, 1) := by decide +kernel
theorem d_X11_finish_6 : decode b_X11_finish 6 = .ok (.getfield 57, 3) := by decide +kernel
theorem d_X11_finish_9 : decode b_X11_finish 9 = .ok (.if_icmp .ge 88, 3) := by decide +kernel
theorem d_X11_finish_12 : decode b_X11_finish 12 = .ok (.aload_n 0, 1) := by decide +kernel
theorem d_X11_finish_13 : decode b_X11_finish 13 = .ok (.getfield 40, 3) := by decide +kernel
theorem d_X11_finish_16 : decode b_X11_finish 16 = .ok (.getfield 92, 3) := by decide +kernel
theorem d_X11_finish_19 : decode b_X11_finish 19 = .ok (.aload_n 0, 1) := by decide +kernel
theorem d_X11_finish_20 : decode b_X11_finish 20 = .ok (.getfield 57, 3) := by decide +kernel
theorem d_X11_finish_23 : decode b_X11_finish 23 = .ok (.isub, 1) := by decide +kernel
theorem d_X11_finish_24 : decode b_X11_finish 24 = .ok (.iload_n 2, 1) := by decide +kernel
theorem d_X11_finish_25 : decode b_X11_finish 25 = .ok (.iadd, 1) := by decide +kernel
theorem d_X11_finish_26 : decode b_X11_finish 26 = .ok (.istore_n 3, 1) := by decide +kernel
theorem d_X11_finish_27 : decode b_X11_finish 27 = .ok (.aload_n 0, 1) := by decide +kernel
theorem d_X11_finish_28 : decode b_X11_finish 28 = .ok (.getfield 15, 3) := by decide +kernel
theorem d_X11_finish_31 : decode b_X11_finish 31 = .ok (.iload_n 2, 1) := by decide +kernel
theorem d_X11_finish_32 : decode b_X11_finish 32 = .ok (.invokestatic 82, 3) := by decide +kernel
theorem d_X11_finish_35 : decode b_X11_finish 35 = .ok (.istore 4, 2) := by decide +kernel
theorem d_X11_finish_37 : decode b_X11_finish 37 = .ok (.aload_n 0, 1) := by decide +kernel
theorem d_X11_finish_38 : decode b_X11_finish 38 = .ok (.getfield 40, 3) := by decide +kernel
theorem d_X11_finish_41 : decode b_X11_finish 41 = .ok (.iload_n 3, 1) := by decide +kernel
theorem d_X11_finish_42 : decode b_X11_finish 42 = .ok (.iconst 2, 1) := by decide +kernel
theorem d_X11_finish_43 : decode b_X11_finish 43 = .ok (.invokevirtual 115, 3) := by decide +kernel
theorem d_X11_finish_46 : decode b_X11_finish 46 = .ok (.ifCond .eq 19, 3) := by decide +kernel
theorem d_X11_finish_49 : decode b_X11_finish 49 = .ok (.aload_n 0, 1) := by decide +kernel
theorem d_X11_finish_50 : decode b_X11_finish 50 = .ok (.getfield 40, 3) := by decide +kernel
theorem d_X11_finish_53 : decode b_X11_finish 53 = .ok (.iload_n 3, 1) := by decide +kernel
theorem d_X11_finish_54 : decode b_X11_finish 54 = .ok (.iconst 4, 1) := by decide +kernel
theorem d_X11_finish_55 : decode b_X11_finish 55 = .ok (.invokevirtual 115, 3) := by decide +kernel
theorem d_X11_finish_58 : decode b_X11_finish 58 = .ok (.ifCond .ne 7, 3) := by decide +kernel
theorem d_X11_finish_61 : decode b_X11_finish 61 = .ok (.iconst 1, 1) := by decide +kernel
theorem d_X11_finish_62 : decode b_X11_finish 62 = .ok (.goto 4, 3) := by decide +kernel
theorem d_X11_finish_65 : decode b_X11_finish 65 = .ok (.iconst 0, 1) := by decide +kernel
theorem d_X11_finish_66 : decode b_X11_finish 66 = .ok (.istore 5, 2) := by decide +kernel
theorem d_X11_finish_68 : decode b_X11_finish 68 = .ok (.iload 5, 2) := by decide +kernel
theorem d_X11_finish_70 : decode b_X11_finish 70 = .ok (.ifCond .eq 21, 3) := by decide +kernel
theorem d_X11_finish_73 : decode b_X11_finish 73 = .ok (.iload 4, 2) := by decide +kernel
theorem d_X11_finish_75 : decode b_X11_finish 75 = .ok (.ifCond .lt 16, 3) := by decide +kernel
theorem d_X11_finish_78 : decode b_X11_finish 78 = .ok (.iload_n 1, 1) := by decide +kernel
theorem d_X11_finish_79 : decode b_X11_finish 79 = .ok (.ifCond .lt 9, 3) := by decide +kernel
theorem d_X11_finish_82 : decode b_X11_finish 82 = .ok (.iload 4, 2) := by decide +kernel
theorem d_X11_finish_84 : decode b_X11_finish 84 = .ok (.iload_n 1, 1) := by decide +kernel
theorem d_X11_finish_85 : decode b_X11_finish 85 = .ok (.if_icmp .ge 6, 3) := by decide +kernel
theorem d_X11_finish_88 : decode b_X11_finish 88 = .ok (.iload 4, 2) := by decide +kernel
theorem d_X11_finish_90 : decode b_X11_finish 90 = .ok (.istore_n 1, 1) := by decide +kernel
theorem d_X11_finish_91 : decode b_X11_finish 91 = .ok (.iinc 2 1, 3) := by decide +kernel
theorem d_X11_finish_94 : decode b_X11_finish 94 = .ok (.goto (-90), 3) := by decide +kernel
theorem d_X11_finish_97 : decode b_X11_finish 97 = .ok (.iload_n 1, 1) := by decide +kernel
theorem d_X11_finish_98 : decode b_X11_finish 98 = .ok (.ifCond .lt 9, 3) := by decide +kernel
theorem d_X11_finish_101 : decode b_X11_finish 101 = .ok (.aload_n 0, 1) := by decide +kernel
theorem d_X11_finish_102 : decode b_X11_finish 102 = .ok (.iconst 2, 1) := by decide +kernel
theorem d_X11_finish_103 : decode b_X11_finish 103 = .ok (.iload_n 1, 1) := by decide +kernel
theorem d_X11_finish_104 : decode b_X11_finish 104 = .ok (.invokevirtual 118, 3) := by decide +kernel
theorem d_X11_finish_107 : decode b_X11_finish 107 = .ok (.return_, 1) := by decide +kernel
theorem d_X11_leave_0 : decode b_X11_leave 0 = .ok (.aload_n 0, 1) := by decide +kernel
theorem d_X11_leave_1 : decode b_X11_leave 1 = .ok (.iconst (-1), 1) := by decide +kernel
theorem d_X11_leave_2 : decode b_X11_leave 2 = .ok (.putfield 63, 3) := by decide +kernel
theorem d_X11_leave_5 : decode b_X11_leave 5 = .ok (.aload_n 0, 1) := by decide +kernel
theorem d_X11_leave_6 : decode b_X11_leave 6 = .ok (.iconst 0, 1) := by decide +kernel
theorem d_X11_leave_7 : decode b_X11_leave 7 = .ok (.putfield 69, 3) := by decide +kernel
theorem d_X11_leave_10 : decode b_X11_leave 10 = .ok (.aload_n 0, 1) := by decide +kernel
theorem d_X11_leave_11 : decode b_X11_leave 11 = .ok (.iconst 0, 1) := by decide +kernel
theorem d_X11_leave_12 : decode b_X11_leave 12 = .ok (.putfield 72, 3) := by decide +kernel
theorem d_X11_leave_15 : decode b_X11_leave 15 = .ok (.aload_n 0, 1) := by decide +kernel
theorem d_X11_leave_16 : decode b_X11_leave 16 = .ok (.iconst 0, 1) := by decide +kernel
theorem d_X11_leave_17 : decode b_X11_leave 17 = .ok (.putfield 75, 3) := by decide +kernel
theorem d_X11_leave_20 : decode b_X11_leave 20 = .ok (.return_, 1) := by decide +kernel
theorem d_X11_localFrom_0 : decode b_X11_localFrom 0 = .ok (.aload_n 0, 1) := by decide +kernel
theorem d_X11_localFrom_1 : decode b_X11_localFrom 1 = .ok (.getfield 72, 3) := by decide +kernel
theorem d_X11_localFrom_4 : decode b_X11_localFrom 4 = .ok (.iconst 1, 1) := by decide +kernel
theorem d_X11_localFrom_5 : decode b_X11_localFrom 5 = .ok (.isub, 1) := by decide +kernel
theorem d_X11_localFrom_6 : decode b_X11_localFrom 6 = .ok (.istore_n 3, 1) := by decide +kernel
theorem d_X11_localFrom_7 : decode b_X11_localFrom 7 = .ok (.iload_n 3, 1) := by decide +kernel
theorem d_X11_localFrom_8 : decode b_X11_localFrom 8 = .ok (.iload_n 1, 1) := by decide +kernel
theorem d_X11_localFrom_9 : decode b_X11_localFrom 9 = .ok (.if_icmp .lt 42, 3) := by decide +kernel
theorem d_X11_localFrom_12 : decode b_X11_localFrom 12 = .ok (.aload_n 0, 1) := by decide +kernel
theorem d_X11_localFrom_13 : decode b_X11_localFrom 13 = .ok (.getfield 30, 3) := by decide +kernel
theorem d_X11_localFrom_16 : decode b_X11_localFrom 16 = .ok (.iload_n 3, 1) := by decide +kernel
theorem d_X11_localFrom_17 : decode b_X11_localFrom 17 = .ok (.invokestatic 82, 3) := by decide +kernel
theorem d_X11_localFrom_20 : decode b_X11_localFrom 20 = .ok (.istore 4, 2) := by decide +kernel
theorem d_X11_localFrom_22 : decode b_X11_localFrom 22 = .ok (.aload_n 0, 1) := by decide +kernel
theorem d_X11_localFrom_23 : decode b_X11_localFrom 23 = .ok (.getfield 36, 3) := by decide +kernel
theorem d_X11_localFrom_26 : decode b_X11_localFrom 26 = .ok (.aload_n 0, 1) := by decide +kernel
theorem d_X11_localFrom_27 : decode b_X11_localFrom 27 = .ok (.getfield 18, 3) := by decide +kernel
theorem d_X11_localFrom_30 : decode b_X11_localFrom 30 = .ok (.iload 4, 2) := by decide +kernel
theorem d_X11_localFrom_32 : decode b_X11_localFrom 32 = .ok (.invokestatic 82, 3) := by decide +kernel
theorem d_X11_localFrom_35 : decode b_X11_localFrom 35 = .ok (.iload_n 2, 1) := by decide +kernel
theorem d_X11_localFrom_36 : decode b_X11_localFrom 36 = .ok (.invokevirtual 86, 3) := by decide +kernel
theorem d_X11_localFrom_39 : decode b_X11_localFrom 39 = .ok (.ifCond .eq 6, 3) := by decide +kernel
theorem d_X11_localFrom_42 : decode b_X11_localFrom 42 = .ok (.iload 4, 2) := by decide +kernel
theorem d_X11_localFrom_44 : decode b_X11_localFrom 44 = .ok (.ireturn, 1) := by decide +kernel
theorem d_X11_localFrom_45 : decode b_X11_localFrom 45 = .ok (.iinc 3 (-1), 3) := by decide +kernel
theorem d_X11_localFrom_48 : decode b_X11_localFrom 48 = .ok (.goto (-41), 3) := by decide +kernel
theorem d_X11_localFrom_51 : decode b_X11_localFrom 51 = .ok (.iconst (-1), 1) := by decide +kernel
theorem d_X11_localFrom_52 : decode b_X11_localFrom 52 = .ok (.ireturn, 1) := by decide +kernel
theorem d_X11_mentionCall_0 : decode b_X11_mentionCall 0 = .ok (.iload_n 1, 1) := by decide +kernel
theorem d_X11_mentionCall_1 : decode b_X11_mentionCall 1 = .ok (.aload_n 0, 1) := by decide +kernel
theorem d_X11_mentionCall_2 : decode b_X11_mentionCall 2 = .ok (.getfield 40, 3) := by decide +kernel
theorem d_X11_mentionCall_5 : decode b_X11_mentionCall 5 = .ok (.getfield 92, 3) := by decide +kernel
theorem d_X11_mentionCall_8 : decode b_X11_mentionCall 8 = .ok (.aload_n 0, 1) := by decide +kernel
theorem d_X11_mentionCall_9 : decode b_X11_mentionCall 9 = .ok (.getfield 57, 3) := by decide +kernel
theorem d_X11_mentionCall_12 : decode b_X11_mentionCall 12 = .ok (.isub, 1) := by decide +kernel
theorem d_X11_mentionCall_13 : decode b_X11_mentionCall 13 = .ok (.isub, 1) := by decide +kernel
theorem d_X11_mentionCall_14 : decode b_X11_mentionCall 14 = .ok (.istore_n 3, 1) := by decide +kernel
theorem d_X11_mentionCall_15 : decode b_X11_mentionCall 15 = .ok (.aload_n 0, 1) := by decide +kernel
theorem d_X11_mentionCall_16 : decode b_X11_mentionCall 16 = .ok (.getfield 40, 3) := by decide +kernel
theorem d_X11_mentionCall_19 : decode b_X11_mentionCall 19 = .ok (.iload_n 1, 1) := by decide +kernel
theorem d_X11_mentionCall_20 : decode b_X11_mentionCall 20 = .ok (.bipush 8, 2) := by decide +kernel
theorem d_X11_mentionCall_22 : decode b_X11_mentionCall 22 = .ok (.invokevirtual 111, 3) := by decide +kernel
theorem d_X11_mentionCall_25 : decode b_X11_mentionCall 25 = .ok (.aload_n 0, 1) := by decide +kernel
theorem d_X11_mentionCall_26 : decode b_X11_mentionCall 26 = .ok (.getfield 15, 3) := by decide +kernel
theorem d_X11_mentionCall_29 : decode b_X11_mentionCall 29 = .ok (.iload_n 3, 1) := by decide +kernel
theorem d_X11_mentionCall_30 : decode b_X11_mentionCall 30 = .ok (.invokestatic 82, 3) := by decide +kernel
theorem d_X11_mentionCall_33 : decode b_X11_mentionCall 33 = .ok (.ifCond .ge 12, 3) := by decide +kernel
theorem d_X11_mentionCall_36 : decode b_X11_mentionCall 36 = .ok (.aload_n 0, 1) := by decide +kernel
theorem d_X11_mentionCall_37 : decode b_X11_mentionCall 37 = .ok (.getfield 15, 3) := by decide +kernel
theorem d_X11_mentionCall_40 : decode b_X11_mentionCall 40 = .ok (.iload_n 3, 1) := by decide +kernel
theorem d_X11_mentionCall_41 : decode b_X11_mentionCall 41 = .ok (.iload_n 2, 1) := by decide +kernel
theorem d_X11_mentionCall_42 : decode b_X11_mentionCall 42 = .ok (.invokestatic 78, 3) := by decide +kernel
theorem d_X11_mentionCall_45 : decode b_X11_mentionCall 45 = .ok (.return_, 1) := by decide +kernel
theorem d_X11_open_0 : decode b_X11_open 0 = .ok (.aload_n 0, 1) := by decide +kernel
theorem d_X11_open_1 : decode b_X11_open 1 = .ok (.getfield 33, 3) := by decide +kernel
theorem d_X11_open_4 : decode b_X11_open 4 = .ok (.aload_n 0, 1) := by decide +kernel
theorem d_X11_open_5 : decode b_X11_open 5 = .ok (.getfield 75, 3) := by decide +kernel
theorem d_X11_open_8 : decode b_X11_open 8 = .ok (.aload_n 0, 1) := by decide +kernel
theorem d_X11_open_9 : decode b_X11_open 9 = .ok (.getfield 72, 3) := by decide +kernel
theorem d_X11_open_12 : decode b_X11_open 12 = .ok (.invokestatic 78, 3) := by decide +kernel
theorem d_X11_open_15 : decode b_X11_open 15 = .ok (.aload_n 0, 1) := by decide +kernel
theorem d_X11_open_16 : decode b_X11_open 16 = .ok (.dup, 1) := by decide +kernel
theorem d_X11_open_17 : decode b_X11_open 17 = .ok (.getfield 75, 3) := by decide +kernel
theorem d_X11_open_20 : decode b_X11_open 20 = .ok (.iconst 1, 1) := by decide +kernel
theorem d_X11_open_21 : decode b_X11_open 21 = .ok (.iadd, 1) := by decide +kernel
theorem d_X11_open_22 : decode b_X11_open 22 = .ok (.putfield 75, 3) := by decide +kernel
theorem d_X11_open_25 : decode b_X11_open 25 = .ok (.return_, 1) := by decide +kernel
theorem d_X11_outerOf_0 : decode b_X11_outerOf 0 = .ok (.iconst 0, 1) := by decide +kernel
theorem d_X11_outerOf_1 : decode b_X11_outerOf 1 = .ok (.istore_n 2, 1) := by decide +kernel
theorem d_X11_outerOf_2 : decode b_X11_outerOf 2 = .ok (.iload_n 2, 1) := by decide +kernel
theorem d_X11_outerOf_3 : decode b_X11_outerOf 3 = .ok (.aload_n 0, 1) := by decide +kernel
theorem d_X11_outerOf_4 : decode b_X11_outerOf 4 = .ok (.getfield 57, 3) := by decide +kernel
theorem d_X11_outerOf_7 : decode b_X11_outerOf 7 = .ok (.if_icmp .ge 43, 3) := by decide +kernel
theorem d_X11_outerOf_10 : decode b_X11_outerOf 10 = .ok (.aload_n 0, 1) := by decide +kernel
theorem d_X11_outerOf_11 : decode b_X11_outerOf 11 = .ok (.getfield 36, 3) := by decide +kernel
theorem d_X11_outerOf_14 : decode b_X11_outerOf 14 = .ok (.aload_n 0, 1) := by decide +kernel
theorem d_X11_outerOf_15 : decode b_X11_outerOf 15 = .ok (.getfield 9, 3) := by decide +kernel
theorem d_X11_outerOf_18 : decode b_X11_outerOf 18 = .ok (.iload_n 2, 1) := by decide +kernel
theorem d_X11_outerOf_19 : decode b_X11_outerOf 19 = .ok (.invokestatic 82, 3) := by decide +kernel
theorem d_X11_outerOf_22 : decode b_X11_outerOf 22 = .ok (.iload_n 1, 1) := by decide +kernel
theorem d_X11_outerOf_23 : decode b_X11_outerOf 23 = .ok (.invokevirtual 86, 3) := by decide +kernel
theorem d_X11_outerOf_26 : decode b_X11_outerOf 26 = .ok (.ifCond .eq 18, 3) := by decide +kernel
theorem d_X11_outerOf_29 : decode b_X11_outerOf 29 = .ok (.aload_n 0, 1) := by decide +kernel
theorem d_X11_outerOf_30 : decode b_X11_outerOf 30 = .ok (.getfield 40, 3) := by decide +kernel
theorem d_X11_outerOf_33 : decode b_X11_outerOf 33 = .ok (.getfield 92, 3) := by decide +kernel
theorem d_X11_outerOf_36 : decode b_X11_outerOf 36 = .ok (.aload_n 0, 1) := by decide +kernel
theorem d_X11_outerOf_37 : decode b_X11_outerOf 37 = .ok (.getfield 57, 3) := by decide +kernel
theorem d_X11_outerOf_40 : decode b_X11_outerOf 40 = .ok (.isub, 1) := by decide +kernel
theorem d_X11_outerOf_41 : decode b_X11_outerOf 41 = .ok (.iload_n 2, 1) := by decide +kernel
theorem d_X11_outerOf_42 : decode b_X11_outerOf 42 = .ok (.iadd, 1) := by decide +kernel
theorem d_X11_outerOf_43 : decode b_X11_outerOf 43 = .ok (.ireturn, 1) := by decide +kernel
theorem d_X11_outerOf_44 : decode b_X11_outerOf 44 = .ok (.iinc 2 1, 3) := by decide +kernel
theorem d_X11_outerOf_47 : decode b_X11_outerOf 47 = .ok (.goto (-45), 3) := by decide +kernel
theorem d_X11_outerOf_50 : decode b_X11_outerOf 50 = .ok (.iconst (-1), 1) := by decide +kernel
theorem d_X11_outerOf_51 : decode b_X11_outerOf 51 = .ok (.ireturn, 1) := by decide +kernel
theorem d_X11_scopeStart_0 : decode b_X11_scopeStart 0 = .ok (.aload_n 0, 1) := by decide +kernel
theorem d_X11_scopeStart_1 : decode b_X11_scopeStart 1 = .ok (.getfield 33, 3) := by decide +kernel
theorem d_X11_scopeStart_4 : decode b_X11_scopeStart 4 = .ok (.aload_n 0, 1) := by decide +kernel
theorem d_X11_scopeStart_5 : decode b_X11_scopeStart 5 = .ok (.getfield 75, 3) := by decide +kernel
theorem d_X11_scopeStart_8 : decode b_X11_scopeStart 8 = .ok (.iconst 1, 1) := by decide +kernel
theorem d_X11_scopeStart_9 : decode b_X11_scopeStart 9 = .ok (.isub, 1) := by decide +kernel
theorem d_X11_scopeStart_10 : decode b_X11_scopeStart 10 = .ok (.invokestatic 82, 3) := by decide +kernel
theorem d_X11_scopeStart_13 : decode b_X11_scopeStart 13 = .ok (.ireturn, 1) := by decide +kernel
theorem d_X14_ctor_0 : decode b_X14_ctor 0 = .ok (.aload_n 0, 1) := by decide +kernel
theorem d_X14_ctor_1 : decode b_X14_ctor 1 = .ok (.invokespecial 3, 3) := by decide +kernel
theorem d_X14_ctor_4 : decode b_X14_ctor 4 = .ok (.aload_n 0, 1) := by decide +kernel
theorem d_X14_ctor_5 : decode b_X14_ctor 5 = .ok (.sipush 16000, 3) := by decide +kernel
theorem d_X14_ctor_8 : decode b_X14_ctor 8 = .ok (.newarray .byte, 2) := by decide +kernel
theorem d_X14_ctor_10 : decode b_X14_ctor 10 = .ok (.putfield 9, 3) := by decide +kernel
theorem d_X14_ctor_13 : decode b_X14_ctor 13 = .ok (.aload_n 0, 1) := by decide +kernel
theorem d_X14_ctor_14 : decode b_X14_ctor 14 = .ok (.sipush 16002, 3) := by decide +kernel
theorem d_X14_ctor_17 : decode b_X14_ctor 17 = .ok (.newarray .int, 2) := by decide +kernel
theorem d_X14_ctor_19 : decode b_X14_ctor 19 = .ok (.putfield 13, 3) := by decide +kernel
theorem d_X14_ctor_22 : decode b_X14_ctor 22 = .ok (.aload_n 0, 1) := by decide +kernel
theorem d_X14_ctor_23 : decode b_X14_ctor 23 = .ok (.sipush 16002, 3) := by decide +kernel
theorem d_X14_ctor_26 : decode b_X14_ctor 26 = .ok (.newarray .int, 2) := by decide +kernel
theorem d_X14_ctor_28 : decode b_X14_ctor 28 = .ok (.putfield 17, 3) := by decide +kernel
theorem d_X14_ctor_31 : decode b_X14_ctor 31 = .ok (.aload_n 0, 1) := by decide +kernel
theorem d_X14_ctor_32 : decode b_X14_ctor 32 = .ok (.sipush 16002, 3) := by decide +kernel
theorem d_X14_ctor_35 : decode b_X14_ctor 35 = .ok (.newarray .int, 2) := by decide +kernel
theorem d_X14_ctor_37 : decode b_X14_ctor 37 = .ok (.putfield 20, 3) := by decide +kernel
theorem d_X14_ctor_40 : decode b_X14_ctor 40 = .ok (.aload_n 0, 1) := by decide +kernel
theorem d_X14_ctor_41 : decode b_X14_ctor 41 = .ok (.sipush 16002, 3) := by decide +kernel
theorem d_X14_ctor_44 : decode b_X14_ctor 44 = .ok (.newarray .int, 2) := by decide +kernel
theorem d_X14_ctor_46 : decode b_X14_ctor 46 = .ok (.putfield 23, 3) := by decide +kernel
theorem d_X14_ctor_49 : decode b_X14_ctor 49 = .ok (.aload_n 0, 1) := by decide +kernel
theorem d_X14_ctor_50 : decode b_X14_ctor 50 = .ok (.sipush 16002, 3) := by decide +kernel
theorem d_X14_ctor_53 : decode b_X14_ctor 53 = .ok (.newarray .int, 2) := by decide +kernel
theorem d_X14_ctor_55 : decode b_X14_ctor 55 = .ok (.putfield 26, 3) := by decide +kernel
theorem d_X14_ctor_58 : decode b_X14_ctor 58 = .ok (.aload_n 0, 1) := by decide +kernel
theorem d_X14_ctor_59 : decode b_X14_ctor 59 = .ok (.new 29, 3) := by decide +kernel
theorem d_X14_ctor_62 : decode b_X14_ctor 62 = .ok (.dup, 1) := by decide +kernel
theorem d_X14_ctor_63 : decode b_X14_ctor 63 = .ok (.invokespecial 31, 3) := by decide +kernel
theorem d_X14_ctor_66 : decode b_X14_ctor 66 = .ok (.putfield 32, 3) := by decide +kernel
theorem d_X14_ctor_69 : decode b_X14_ctor 69 = .ok (.aload_n 0, 1) := by decide +kernel
theorem d_X14_ctor_70 : decode b_X14_ctor 70 = .ok (.iconst (-1), 1) := by decide +kernel
theorem d_X14_ctor_71 : decode b_X14_ctor 71 = .ok (.putfield 36, 3) := by decide +kernel
theorem d_X14_ctor_74 : decode b_X14_ctor 74 = .ok (.aload_n 0, 1) := by decide +kernel
theorem d_X14_ctor_75 : decode b_X14_ctor 75 = .ok (.ldc 40, 2) := by decide +kernel
theorem d_X14_ctor_77 : decode b_X14_ctor 77 = .ok (.newarray .int, 2) := by decide +kernel
theorem d_X14_ctor_79 : decode b_X14_ctor 79 = .ok (.putfield 41, 3) := by decide +kernel
theorem d_X14_ctor_82 : decode b_X14_ctor 82 = .ok (.aload_n 0, 1) := by decide +kernel
theorem d_X14_ctor_83 : decode b_X14_ctor 83 = .ok (.sipush 10000, 3) := by decide +kernel
theorem d_X14_ctor_86 : decode b_X14_ctor 86 = .ok (.newarray .int, 2) := by decide +kernel
theorem d_X14_ctor_88 : decode b_X14_ctor 88 = .ok (.putfield 44, 3) := by decide +kernel
theorem d_X14_ctor_91 : decode b_X14_ctor 91 = .ok (.aload_n 0, 1) := by decide +kernel
theorem d_X14_ctor_92 : decode b_X14_ctor 92 = .ok (.sipush 10000, 3) := by decide +kernel
theorem d_X14_ctor_95 : decode b_X14_ctor 95 = .ok (.newarray .int, 2) := by decide +kernel
theorem d_X14_ctor_97 : decode b_X14_ctor 97 = .ok (.putfield 47, 3) := by decide +kernel
theorem d_X14_ctor_100 : decode b_X14_ctor 100 = .ok (.aload_n 0, 1) := by decide +kernel
theorem d_X14_ctor_101 : decode b_X14_ctor 101 = .ok (.sipush 10000, 3) := by decide +kernel
theorem d_X14_ctor_104 : decode b_X14_ctor 104 = .ok (.newarray .int, 2) := by decide +kernel
theorem d_X14_ctor_106 : decode b_X14_ctor 106 = .ok (.putfield 50, 3) := by decide +kernel
theorem d_X14_ctor_109 : decode b_X14_ctor 109 = .ok (.aload_n 0, 1) := by decide +kernel
theorem d_X14_ctor_110 : decode b_X14_ctor 110 = .ok (.sipush 10000, 3) := by decide +kernel
theorem d_X14_ctor_113 : decode b_X14_ctor 113 = .ok (.newarray .boolean, 2) := by decide +kernel
theorem d_X14_ctor_115 : decode b_X14_ctor 115 = .ok (.putfield 53, 3) := by decide +kernel
theorem d_X14_ctor_118 : decode b_X14_ctor 118 = .ok (.aload_n 0, 1) := by decide +kernel
theorem d_X14_ctor_119 : decode b_X14_ctor 119 = .ok (.sipush 10000, 3) := by decide +kernel
theorem d_X14_ctor_122 : decode b_X14_ctor 122 = .ok (.newarray .boolean, 2) := by decide +kernel
theorem d_X14_ctor_124 : decode b_X14_ctor 124 = .ok (.putfield 57, 3) := by decide +kernel
theorem d_X14_ctor_127 : decode b_X14_ctor 127 = .ok (.aload_n 0, 1) := by decide +kernel
theorem d_X14_ctor_128 : decode b_X14_ctor 128 = .ok (.sipush 10000, 3) := by decide +kernel
theorem d_X14_ctor_131 : decode b_X14_ctor 131 = .ok (.newarray .boolean, 2) := by decide +kernel
theorem d_X14_ctor_133 : decode b_X14_ctor 133 = .ok (.putfield 60, 3) := by decide +kernel
theorem d_X14_ctor_136 : decode b_X14_ctor 136 = .ok (.aload_n 0, 1) := by decide +kernel
theorem d_X14_ctor_137 : decode b_X14_ctor 137 = .ok (.sipush 10000, 3) := by decide +kernel
theorem d_X14_ctor_140 : decode b_X14_ctor 140 = .ok (.newarray .int, 2) := by decide +kernel
theorem d_X14_ctor_142 : decode b_X14_ctor 142 = .ok (.putfield 63, 3) := by decide +kernel
theorem d_X14_ctor_145 : decode b_X14_ctor 145 = .ok (.aload_n 0, 1) := by decide +kernel
theorem d_X14_ctor_146 : decode b_X14_ctor 146 = .ok (.ldc 66, 2) := by decide +kernel
theorem d_X14_ctor_148 : decode b_X14_ctor 148 = .ok (.newarray .int, 2) := by decide +kernel
theorem d_X14_ctor_150 : decode b_X14_ctor 150 = .ok (.putfield 67, 3) := by decide +kernel
theorem d_X14_ctor_153 : decode b_X14_ctor 153 = .ok (.aload_n 0, 1) := by decide +kernel
theorem d_X14_ctor_154 : decode b_X14_ctor 154 = .ok (.sipush 10000, 3) := by decide +kernel
theorem d_X14_ctor_157 : decode b_X14_ctor 157 = .ok (.newarray .int, 2) := by decide +kernel
theorem d_X14_ctor_159 : decode b_X14_ctor 159 = .ok (.putfield 70, 3) := by decide +kernel
theorem d_X14_ctor_162 : decode b_X14_ctor 162 = .ok (.aload_n 0, 1) := by decide +kernel
theorem d_X14_ctor_163 : decode b_X14_ctor 163 = .ok (.sipush 10000, 3) := by decide +kernel
theorem d_X14_ctor_166 : decode b_X14_ctor 166 = .ok (.newarray .int, 2) := by decide +kernel
theorem d_X14_ctor_168 : decode b_X14_ctor 168 = .ok (.putfield 73, 3) := by decide +kernel
theorem d_X14_ctor_171 : decode b_X14_ctor 171 = .ok (.aload_n 0, 1) := by decide +kernel
theorem d_X14_ctor_172 : decode b_X14_ctor 172 = .ok (.sipush 10000, 3) := by decide +kernel
theorem d_X14_ctor_175 : decode b_X14_ctor 175 = .ok (.newarray .int, 2) := by decide +kernel
theorem d_X14_ctor_177 : decode b_X14_ctor 177 = .ok (.putfield 76, 3) := by decide +kernel
theorem d_X14_ctor_180 : decode b_X14_ctor 180 = .ok (.aload_n 0, 1) := by decide +kernel
theorem d_X14_ctor_181 : decode b_X14_ctor 181 = .ok (.ldc 79, 2) := by decide +kernel
theorem d_X14_ctor_183 : decode b_X14_ctor 183 = .ok (.newarray .byte, 2) := by decide +kernel
theorem d_X14_ctor_185 : decode b_X14_ctor 185 = .ok (.putfield 80, 3) := by decide +kernel
theorem d_X14_ctor_188 : decode b_X14_ctor 188 = .ok (.aload_n 0, 1) := by decide +kernel
theorem d_X14_ctor_189 : decode b_X14_ctor 189 = .ok (.bipush 100, 2) := by decide +kernel
theorem d_X14_ctor_191 : decode b_X14_ctor 191 = .ok (.newarray .int, 2) := by decide +kernel
theorem d_X14_ctor_193 : decode b_X14_ctor 193 = .ok (.putfield 83, 3) := by decide +kernel
theorem d_X14_ctor_196 : decode b_X14_ctor 196 = .ok (.aload_n 0, 1) := by decide +kernel
theorem d_X14_ctor_197 : decode b_X14_ctor 197 = .ok (.bipush 102, 2) := by decide +kernel
theorem d_X14_ctor_199 : decode b_X14_ctor 199 = .ok (.newarray .int, 2) := by decide +kernel
theorem d_X14_ctor_201 : decode b_X14_ctor 201 = .ok (.putfield 86, 3) := by decide +kernel
theorem d_X14_ctor_204 : decode b_X14_ctor 204 = .ok (.aload_n 0, 1) := by decide +kernel
theorem d_X14_ctor_205 : decode b_X14_ctor 205 = .ok (.bipush 102, 2) := by decide +kernel
theorem d_X14_ctor_207 : decode b_X14_ctor 207 = .ok (.newarray .int, 2) := by decide +kernel
theorem d_X14_ctor_209 : decode b_X14_ctor 209 = .ok (.putfield 89, 3) := by decide +kernel
theorem d_X14_ctor_212 : decode b_X14_ctor 212 = .ok (.aload_n 0, 1) := by decide +kernel
theorem d_X14_ctor_213 : decode b_X14_ctor 213 = .ok (.bipush 102, 2) := by decide +kernel
theorem d_X14_ctor_215 : decode b_X14_ctor 215 = .ok (.newarray .int, 2) := by decide +kernel
theorem d_X14_ctor_217 : decode b_X14_ctor 217 = .ok (.putfield 92, 3) := by decide +kernel
theorem d_X14_ctor_220 : decode b_X14_ctor 220 = .ok (.aload_n 0, 1) := by decide +kernel
theorem d_X14_ctor_221 : decode b_X14_ctor 221 = .ok (.ldc 95, 2) := by decide +kernel
theorem d_X14_ctor_223 : decode b_X14_ctor 223 = .ok (.newarray .int, 2) := by decide +kernel
theorem d_X14_ctor_225 : decode b_X14_ctor 225 = .ok (.putfield 96, 3) := by decide +kernel
theorem d_X14_ctor_228 : decode b_X14_ctor 228 = .ok (.aload_n 0, 1) := by decide +kernel
theorem d_X14_ctor_229 : decode b_X14_ctor 229 = .ok (.sipush 10000, 3) := by decide +kernel
theorem d_X14_ctor_232 : decode b_X14_ctor 232 = .ok (.newarray .int, 2) := by decide +kernel
theorem d_X14_ctor_234 : decode b_X14_ctor 234 = .ok (.putfield 99, 3) := by decide +kernel
theorem d_X14_ctor_237 : decode b_X14_ctor 237 = .ok (.aload_n 0, 1) := by decide +kernel
theorem d_X14_ctor_238 : decode b_X14_ctor 238 = .ok (.sipush 10000, 3) := by decide +kernel
theorem d_X14_ctor_241 : decode b_X14_ctor 241 = .ok (.newarray .int, 2) := by decide +kernel
theorem d_X14_ctor_243 : decode b_X14_ctor 243 = .ok (.putfield 102, 3) := by decide +kernel
theorem d_X14_ctor_246 : decode b_X14_ctor 246 = .ok (.aload_n 0, 1) := by decide +kernel
theorem d_X14_ctor_247 : decode b_X14_ctor 247 = .ok (.sipush 10000, 3) := by decide +kernel
theorem d_X14_ctor_250 : decode b_X14_ctor 250 = .ok (.newarray .int, 2) := by decide +kernel
theorem d_X14_ctor_252 : decode b_X14_ctor 252 = .ok (.putfield 105, 3) := by decide +kernel
theorem d_X14_ctor_255 : decode b_X14_ctor 255 = .ok (.aload_n 0, 1) := by decide +kernel
theorem d_X14_ctor_256 : decode b_X14_ctor 256 = .ok (.sipush 10000, 3) := by decide +kernel
theorem d_X14_ctor_259 : decode b_X14_ctor 259 = .ok (.newarray .int, 2) := by decide +kernel
theorem d_X14_ctor_261 : decode b_X14_ctor 261 = .ok (.putfield 108, 3) := by decide +kernel
theorem d_X14_ctor_264 : decode b_X14_ctor 264 = .ok (.aload_n 0, 1) := by decide +kernel
theorem d_X14_ctor_265 : decode b_X14_ctor 265 = .ok (.sipush 10000, 3) := by decide +kernel
theorem d_X14_ctor_268 : decode b_X14_ctor 268 = .ok (.newarray .int, 2) := by decide +kernel
theorem d_X14_ctor_270 : decode b_X14_ctor 270 = .ok (.putfield 111, 3) := by decide +kernel
theorem d_X14_ctor_273 : decode b_X14_ctor 273 = .ok (.aload_n 0, 1) := by decide +kernel
theorem d_X14_ctor_274 : decode b_X14_ctor 274 = .ok (.bipush 100, 2) := by decide +kernel
theorem d_X14_ctor_276 : decode b_X14_ctor 276 = .ok (.newarray .int, 2) := by decide +kernel
theorem d_X14_ctor_278 : decode b_X14_ctor 278 = .ok (.putfield 114, 3) := by decide +kernel
theorem d_X14_ctor_281 : decode b_X14_ctor 281 = .ok (.aload_n 0, 1) := by decide +kernel
theorem d_X14_ctor_282 : decode b_X14_ctor 282 = .ok (.bipush 100, 2) := by decide +kernel
theorem d_X14_ctor_284 : decode b_X14_ctor 284 = .ok (.newarray .int, 2) := by decide +kernel
theorem d_X14_ctor_286 : decode b_X14_ctor 286 = .ok (.putfield 117, 3) := by decide +kernel
theorem d_X14_ctor_289 : decode b_X14_ctor 289 = .ok (.aload_n 0, 1) := by decide +kernel
theorem d_X14_ctor_290 : decode b_X14_ctor 290 = .ok (.bipush 100, 2) := by decide +kernel
theorem d_X14_ctor_292 : decode b_X14_ctor 292 = .ok (.newarray .boolean, 2) := by decide +kernel
theorem d_X14_ctor_294 : decode b_X14_ctor 294 = .ok (.putfield 120, 3) := by decide +kernel
theorem d_X14_ctor_297 : decode b_X14_ctor 297 = .ok (.aload_n 0, 1) := by decide +kernel
theorem d_X14_ctor_298 : decode b_X14_ctor 298 = .ok (.bipush 100, 2) := by decide +kernel
theorem d_X14_ctor_300 : decode b_X14_ctor 300 = .ok (.newarray .int, 2) := by decide +kernel
theorem d_X14_ctor_302 : decode b_X14_ctor 302 = .ok (.putfield 123, 3) := by decide +kernel
theorem d_X14_ctor_305 : decode b_X14_ctor 305 = .ok (.aload_n 0, 1) := by decide +kernel
theorem d_X14_ctor_306 : decode b_X14_ctor 306 = .ok (.bipush 100, 2) := by decide +kernel
theorem d_X14_ctor_308 : decode b_X14_ctor 308 = .ok (.newarray .int, 2) := by decide +kernel
theorem d_X14_ctor_310 : decode b_X14_ctor 310 = .ok (.putfield 126, 3) := by decide +kernel
theorem d_X14_ctor_313 : decode b_X14_ctor 313 = .ok (.aload_n 0, 1) := by decide +kernel
theorem d_X14_ctor_314 : decode b_X14_ctor 314 = .ok (.bipush 100, 2) := by decide +kernel
theorem d_X14_ctor_316 : decode b_X14_ctor 316 = .ok (.newarray .int, 2) := by decide +kernel
theorem d_X14_ctor_318 : decode b_X14_ctor 318 = .ok (.putfield 129, 3) := by decide +kernel
theorem d_X14_ctor_321 : decode b_X14_ctor 321 = .ok (.aload_n 0, 1) := by decide +kernel
theorem d_X14_ctor_322 : decode b_X14_ctor 322 = .ok (.bipush 8, 2) := by decide +kernel
theorem d_X14_ctor_324 : decode b_X14_ctor 324 = .ok (.newarray .int, 2) := by decide +kernel
theorem d_X14_ctor_326 : decode b_X14_ctor 326 = .ok (.putfield 132, 3) := by decide +kernel
theorem d_X14_ctor_329 : decode b_X14_ctor 329 = .ok (.aload_n 0, 1) := by decide +kernel
theorem d_X14_ctor_330 : decode b_X14_ctor 330 = .ok (.bipush 8, 2) := by decide +kernel
theorem d_X14_ctor_332 : decode b_X14_ctor 332 = .ok (.newarray .int, 2) := by decide +kernel
theorem d_X14_ctor_334 : decode b_X14_ctor 334 = .ok (.putfield 135, 3) := by decide +kernel
theorem d_X14_ctor_337 : decode b_X14_ctor 337 = .ok (.aload_n 0, 1) := by decide +kernel
theorem d_X14_ctor_338 : decode b_X14_ctor 338 = .ok (.bipush 8, 2) := by decide +kernel
theorem d_X14_ctor_340 : decode b_X14_ctor 340 = .ok (.newarray .int, 2) := by decide +kernel
theorem d_X14_ctor_342 : decode b_X14_ctor 342 = .ok (.putfield 138, 3) := by decide +kernel
theorem d_X14_ctor_345 : decode b_X14_ctor 345 = .ok (.aload_n 0, 1) := by decide +kernel
theorem d_X14_ctor_346 : decode b_X14_ctor 346 = .ok (.bipush 100, 2) := by decide +kernel
theorem d_X14_ctor_348 : decode b_X14_ctor 348 = .ok (.newarray .int, 2) := by decide +kernel
theorem d_X14_ctor_350 : decode b_X14_ctor 350 = .ok (.putfield 141, 3) := by decide +kernel
theorem d_X14_ctor_353 : decode b_X14_ctor 353 = .ok (.aload_n 0, 1) := by decide +kernel
theorem d_X14_ctor_354 : decode b_X14_ctor 354 = .ok (.bipush 100, 2) := by decide +kernel
theorem d_X14_ctor_356 : decode b_X14_ctor 356 = .ok (.newarray .int, 2) := by decide +kernel
theorem d_X14_ctor_358 : decode b_X14_ctor 358 = .ok (.putfield 144, 3) := by decide +kernel
theorem d_X14_ctor_361 : decode b_X14_ctor 361 = .ok (.aload_n 0, 1) := by decide +kernel
theorem d_X14_ctor_362 : decode b_X14_ctor 362 = .ok (.bipush 100, 2) := by decide +kernel
theorem d_X14_ctor_364 : decode b_X14_ctor 364 = .ok (.newarray .int, 2) := by decide +kernel
theorem d_X14_ctor_366 : decode b_X14_ctor 366 = .ok (.putfield 147, 3) := by decide +kernel
theorem d_X14_ctor_369 : decode b_X14_ctor 369 = .ok (.aload_n 0, 1) := by decide +kernel
theorem d_X14_ctor_370 : decode b_X14_ctor 370 = .ok (.iconst (-1), 1) := by decide +kernel
theorem d_X14_ctor_371 : decode b_X14_ctor 371 = .ok (.putfield 150, 3) := by decide +kernel
theorem d_X14_ctor_374 : decode b_X14_ctor 374 = .ok (.aload_n 0, 1) := by decide +kernel
theorem d_X14_ctor_375 : decode b_X14_ctor 375 = .ok (.iconst (-1), 1) := by decide +kernel
theorem d_X14_ctor_376 : decode b_X14_ctor 376 = .ok (.putfield 153, 3) := by decide +kernel
theorem d_X14_ctor_379 : decode b_X14_ctor 379 = .ok (.aload_n 0, 1) := by decide +kernel
theorem d_X14_ctor_380 : decode b_X14_ctor 380 = .ok (.iconst (-1), 1) := by decide +kernel
theorem d_X14_ctor_381 : decode b_X14_ctor 381 = .ok (.putfield 156, 3) := by decide +kernel
theorem d_X14_ctor_384 : decode b_X14_ctor 384 = .ok (.aload_n 0, 1) := by decide +kernel
theorem d_X14_ctor_385 : decode b_X14_ctor 385 = .ok (.sipush 10000, 3) := by decide +kernel
theorem d_X14_ctor_388 : decode b_X14_ctor 388 = .ok (.newarray .int, 2) := by decide +kernel
theorem d_X14_ctor_390 : decode b_X14_ctor 390 = .ok (.putfield 159, 3) := by decide +kernel
theorem d_X14_ctor_393 : decode b_X14_ctor 393 = .ok (.aload_n 0, 1) := by decide +kernel
theorem d_X14_ctor_394 : decode b_X14_ctor 394 = .ok (.bipush 100, 2) := by decide +kernel
theorem d_X14_ctor_396 : decode b_X14_ctor 396 = .ok (.newarray .int, 2) := by decide +kernel
theorem d_X14_ctor_398 : decode b_X14_ctor 398 = .ok (.putfield 162, 3) := by decide +kernel
theorem d_X14_ctor_401 : decode b_X14_ctor 401 = .ok (.aload_n 0, 1) := by decide +kernel
theorem d_X14_ctor_402 : decode b_X14_ctor 402 = .ok (.sipush 16016, 3) := by decide +kernel
theorem d_X14_ctor_405 : decode b_X14_ctor 405 = .ok (.newarray .int, 2) := by decide +kernel
theorem d_X14_ctor_407 : decode b_X14_ctor 407 = .ok (.putfield 165, 3) := by decide +kernel
theorem d_X14_ctor_410 : decode b_X14_ctor 410 = .ok (.aload_n 0, 1) := by decide +kernel
theorem d_X14_ctor_411 : decode b_X14_ctor 411 = .ok (.ldc 168, 2) := by decide +kernel
theorem d_X14_ctor_413 : decode b_X14_ctor 413 = .ok (.newarray .int, 2) := by decide +kernel
theorem d_X14_ctor_415 : decode b_X14_ctor 415 = .ok (.putfield 169, 3) := by decide +kernel
theorem d_X14_ctor_418 : decode b_X14_ctor 418 = .ok (.aload_n 0, 1) := by decide +kernel
theorem d_X14_ctor_419 : decode b_X14_ctor 419 = .ok (.ldc 172, 2) := by decide +kernel
theorem d_X14_ctor_421 : decode b_X14_ctor 421 = .ok (.newarray .int, 2) := by decide +kernel
theorem d_X14_ctor_423 : decode b_X14_ctor 423 = .ok (.putfield 173, 3) := by decide +kernel
theorem d_X14_ctor_426 : decode b_X14_ctor 426 = .ok (.aload_n 0, 1) := by decide +kernel
theorem d_X14_ctor_427 : decode b_X14_ctor 427 = .ok (.sipush 26000, 3) := by decide +kernel
theorem d_X14_ctor_430 : decode b_X14_ctor 430 = .ok (.newarray .int, 2) := by decide +kernel
theorem d_X14_ctor_432 : decode b_X14_ctor 432 = .ok (.putfield 176, 3) := by decide +kernel
theorem d_X14_ctor_435 : decode b_X14_ctor 435 = .ok (.aload_n 0, 1) := by decide +kernel
theorem d_X14_ctor_436 : decode b_X14_ctor 436 = .ok (.sipush 260, 3) := by decide +kernel
theorem d_X14_ctor_439 : decode b_X14_ctor 439 = .ok (.newarray .int, 2) := by decide +kernel
theorem d_X14_ctor_441 : decode b_X14_ctor 441 = .ok (.putfield 179, 3) := by decide +kernel
theorem d_X14_ctor_444 : decode b_X14_ctor 444 = .ok (.aload_n 0, 1) := by decide +kernel
theorem d_X14_ctor_445 : decode b_X14_ctor 445 = .ok (.sipush 260, 3) := by decide +kernel
theorem d_X14_ctor_448 : decode b_X14_ctor 448 = .ok (.newarray .int, 2) := by decide +kernel
theorem d_X14_ctor_450 : decode b_X14_ctor 450 = .ok (.putfield 182, 3) := by decide +kernel
theorem d_X14_ctor_453 : decode b_X14_ctor 453 = .ok (.aload_n 0, 1) := by decide +kernel
theorem d_X14_ctor_454 : decode b_X14_ctor 454 = .ok (.sipush 260, 3) := by decide +kernel
theorem d_X14_ctor_457 : decode b_X14_ctor 457 = .ok (.newarray .int, 2) := by decide +kernel
theorem d_X14_ctor_459 : decode b_X14_ctor 459 = .ok (.putfield 185, 3) := by decide +kernel
theorem d_X14_ctor_462 : decode b_X14_ctor 462 = .ok (.aload_n 0, 1) := by decide +kernel
theorem d_X14_ctor_463 : decode b_X14_ctor 463 = .ok (.sipush 4096, 3) := by decide +kernel
theorem d_X14_ctor_466 : decode b_X14_ctor 466 = .ok (.newarray .byte, 2) := by decide +kernel
theorem d_X14_ctor_468 : decode b_X14_ctor 468 = .ok (.putfield 188, 3) := by decide +kernel
theorem d_X14_ctor_471 : decode b_X14_ctor 471 = .ok (.aload_n 0, 1) := by decide +kernel
theorem d_X14_ctor_472 : decode b_X14_ctor 472 = .ok (.sipush 4096, 3) := by decide +kernel
theorem d_X14_ctor_475 : decode b_X14_ctor 475 = .ok (.newarray .byte, 2) := by decide +kernel
theorem d_X14_ctor_477 : decode b_X14_ctor 477 = .ok (.putfield 191, 3) := by decide +kernel
theorem d_X14_ctor_480 : decode b_X14_ctor 480 = .ok (.aload_n 0, 1) := by decide +kernel
theorem d_X14_ctor_481 : decode b_X14_ctor 481 = .ok (.sipush 10000, 3) := by decide +kernel
theorem d_X14_ctor_484 : decode b_X14_ctor 484 = .ok (.newarray .int, 2) := by decide +kernel
theorem d_X14_ctor_486 : decode b_X14_ctor 486 = .ok (.putfield 194, 3) := by decide +kernel
theorem d_X14_ctor_489 : decode b_X14_ctor 489 = .ok (.return_, 1) := by decide +kernel
theorem d_X14_accept_0 : decode b_X14_accept 0 = .ok (.aload_n 0, 1) := by decide +kernel
theorem d_X14_accept_1 : decode b_X14_accept 1 = .ok (.iload_n 1, 1) := by decide +kernel
theorem d_X14_accept_2 : decode b_X14_accept 2 = .ok (.invokevirtual 308, 3) := by decide +kernel
theorem d_X14_accept_5 : decode b_X14_accept 5 = .ok (.ifCond .ne 5, 3) := by decide +kernel
theorem d_X14_accept_8 : decode b_X14_accept 8 = .ok (.iconst 0, 1) := by decide +kernel
theorem d_X14_accept_9 : decode b_X14_accept 9 = .ok (.ireturn, 1) := by decide +kernel
theorem d_X14_accept_10 : decode b_X14_accept 10 = .ok (.aload_n 0, 1) := by decide +kernel
theorem d_X14_accept_11 : decode b_X14_accept 11 = .ok (.dup, 1) := by decide +kernel
theorem d_X14_accept_12 : decode b_X14_accept 12 = .ok (.getfield 288, 3) := by decide +kernel
theorem d_X14_accept_15 : decode b_X14_accept 15 = .ok (.iconst 1, 1) := by decide +kernel
theorem d_X14_accept_16 : decode b_X14_accept 16 = .ok (.iadd, 1) := by decide +kernel
theorem d_X14_accept_17 : decode b_X14_accept 17 = .ok (.putfield 288, 3) := by decide +kernel
theorem d_X14_accept_20 : decode b_X14_accept 20 = .ok (.iconst 1, 1) := by decide +kernel
theorem d_X14_accept_21 : decode b_X14_accept 21 = .ok (.ireturn, 1) := by decide +kernel
theorem d_X14_aim_0 : decode b_X14_aim 0 = .ok (.aload_n 0, 1) := by decide +kernel
theorem d_X14_aim_1 : decode b_X14_aim 1 = .ok (.getfield 41, 3) := by decide +kernel
theorem d_X14_aim_4 : decode b_X14_aim 4 = .ok (.iload_n 1, 1) := by decide +kernel
theorem d_X14_aim_5 : decode b_X14_aim 5 = .ok (.aload_n 0, 1) := by decide +kernel
theorem d_X14_aim_6 : decode b_X14_aim 6 = .ok (.getfield 315, 3) := by decide +kernel
theorem d_X14_aim_9 : decode b_X14_aim 9 = .ok (.iastore, 1) := by decide +kernel
theorem d_X14_aim_10 : decode b_X14_aim 10 = .ok (.return_, 1) := by decide +kernel
theorem d_X14_aimAll_0 : decode b_X14_aimAll 0 = .ok (.iload_n 1, 1) := by decide +kernel
theorem d_X14_aimAll_1 : decode b_X14_aimAll 1 = .ok (.istore_n 3, 1) := by decide +kernel
theorem d_X14_aimAll_2 : decode b_X14_aimAll 2 = .ok (.iload_n 3, 1) := by decide +kernel
theorem d_X14_aimAll_3 : decode b_X14_aimAll 3 = .ok (.ifCond .lt 24, 3) := by decide +kernel
theorem d_X14_aimAll_6 : decode b_X14_aimAll 6 = .ok (.aload_n 0, 1) := by decide +kernel
theorem d_X14_aimAll_7 : decode b_X14_aimAll 7 = .ok (.getfield 41, 3) := by decide +kernel
theorem d_X14_aimAll_10 : decode b_X14_aimAll 10 = .ok (.iload_n 3, 1) := by decide +kernel
theorem d_X14_aimAll_11 : decode b_X14_aimAll 11 = .ok (.iaload, 1) := by decide +kernel
theorem d_X14_aimAll_12 : decode b_X14_aimAll 12 = .ok (.istore 4, 2) := by decide +kernel
theorem d_X14_aimAll_14 : decode b_X14_aimAll 14 = .ok (.aload_n 0, 1) := by decide +kernel
theorem d_X14_aimAll_15 : decode b_X14_aimAll 15 = .ok (.getfield 41, 3) := by decide +kernel
theorem d_X14_aimAll_18 : decode b_X14_aimAll 18 = .ok (.iload_n 3, 1) := by decide +kernel
theorem d_X14_aimAll_19 : decode b_X14_aimAll 19 = .ok (.iload_n 2, 1) := by decide +kernel
theorem d_X14_aimAll_20 : decode b_X14_aimAll 20 = .ok (.iastore, 1) := by decide +kernel
theorem d_X14_aimAll_21 : decode b_X14_aimAll 21 = .ok (.iload 4, 2) := by decide +kernel
theorem d_X14_aimAll_23 : decode b_X14_aimAll 23 = .ok (.istore_n 3, 1) := by decide +kernel
theorem d_X14_aimAll_24 : decode b_X14_aimAll 24 = .ok (.goto (-22), 3) := by decide +kernel
theorem d_X14_aimAll_27 : decode b_X14_aimAll 27 = .ok (.return_, 1) := by decide +kernel
theorem d_X14_aimOf_0 : decode b_X14_aimOf 0 = .ok (.aload_n 0, 1) := by decide +kernel
theorem d_X14_aimOf_1 : decode b_X14_aimOf 1 = .ok (.getfield 57, 3) := by decide +kernel
theorem d_X14_aimOf_4 : decode b_X14_aimOf 4 = .ok (.iload_n 1, 1) := by decide +kernel
theorem d_X14_aimOf_5 : decode b_X14_aimOf 5 = .ok (.baload, 1) := by decide +kernel
theorem d_X14_aimOf_6 : decode b_X14_aimOf 6 = .ok (.ifCond .eq 36, 3) := by decide +kernel
theorem d_X14_aimOf_9 : decode b_X14_aimOf 9 = .ok (.aload_n 0, 1) := by decide +kernel
theorem d_X14_aimOf_10 : decode b_X14_aimOf 10 = .ok (.getfield 44, 3) := by decide +kernel
theorem d_X14_aimOf_13 : decode b_X14_aimOf 13 = .ok (.iload_n 1, 1) := by decide +kernel
theorem d_X14_aimOf_14 : decode b_X14_aimOf 14 = .ok (.iaload, 1) := by decide +kernel
theorem d_X14_aimOf_15 : decode b_X14_aimOf 15 = .ok (.iconst 1, 1) := by decide +kernel
theorem d_X14_aimOf_16 : decode b_X14_aimOf 16 = .ok (.if_icmp .ne 19, 3) := by decide +kernel
theorem d_X14_aimOf_19 : decode b_X14_aimOf 19 = .ok (.aload_n 0, 1) := by decide +kernel
theorem d_X14_aimOf_20 : decode b_X14_aimOf 20 = .ok (.getfield 147, 3) := by decide +kernel
theorem d_X14_aimOf_23 : decode b_X14_aimOf 23 = .ok (.iload_n 2, 1) := by decide +kernel
theorem d_X14_aimOf_24 : decode b_X14_aimOf 24 = .ok (.iaload, 1) := by decide +kernel
theorem d_X14_aimOf_25 : decode b_X14_aimOf 25 = .ok (.aload_n 0, 1) := by decide +kernel
theorem d_X14_aimOf_26 : decode b_X14_aimOf 26 = .ok (.getfield 70, 3) := by decide +kernel
theorem d_X14_aimOf_29 : decode b_X14_aimOf 29 = .ok (.iload_n 1, 1) := by decide +kernel
theorem d_X14_aimOf_30 : decode b_X14_aimOf 30 = .ok (.iaload, 1) := by decide +kernel
theorem d_X14_aimOf_31 : decode b_X14_aimOf 31 = .ok (.iadd, 1) := by decide +kernel
theorem d_X14_aimOf_32 : decode b_X14_aimOf 32 = .ok (.goto 9, 3) := by decide +kernel
theorem d_X14_aimOf_35 : decode b_X14_aimOf 35 = .ok (.aload_n 0, 1) := by decide +kernel
theorem d_X14_aimOf_36 : decode b_X14_aimOf 36 = .ok (.getfield 70, 3) := by decide +kernel
theorem d_X14_aimOf_39 : decode b_X14_aimOf 39 = .ok (.iload_n 1, 1) := by decide +kernel
theorem d_X14_aimOf_40 : decode b_X14_aimOf 40 = .ok (.iaload, 1) := by decide +kernel
theorem d_X14_aimOf_41 : decode b_X14_aimOf 41 = .ok (.ireturn, 1) := by decide +kernel
theorem d_X14_aimOf_42 : decode b_X14_aimOf 42 = .ok (.aload_n 0, 1) := by decide +kernel
theorem d_X14_aimOf_43 : decode b_X14_aimOf 43 = .ok (.getfield 53, 3) := by decide +kernel
theorem d_X14_aimOf_46 : decode b_X14_aimOf 46 = .ok (.iload_n 1, 1) := by decide +kernel
theorem d_X14_aimOf_47 : decode b_X14_aimOf 47 = .ok (.baload, 1) := by decide +kernel
theorem d_X14_aimOf_48 : decode b_X14_aimOf 48 = .ok (.ifCond .eq 7, 3) := by decide +kernel
theorem d_X14_aimOf_51 : decode b_X14_aimOf 51 = .ok (.iconst (-1), 1) := by decide +kernel
theorem d_X14_aimOf_52 : decode b_X14_aimOf 52 = .ok (.goto 8, 3) := by decide +kernel
theorem d_X14_aimOf_55 : decode b_X14_aimOf 55 = .ok (.aload_n 0, 1) := by decide +kernel
theorem d_X14_aimOf_56 : decode b_X14_aimOf 56 = .ok (.iload_n 1, 1) := by decide +kernel
theorem d_X14_aimOf_57 : decode b_X14_aimOf 57 = .ok (.invokevirtual 707, 3) := by decide +kernel
theorem d_X14_aimOf_60 : decode b_X14_aimOf 60 = .ok (.istore 4, 2) := by decide +kernel
theorem d_X14_aimOf_62 : decode b_X14_aimOf 62 = .ok (.iload 4, 2) := by decide +kernel
theorem d_X14_aimOf_64 : decode b_X14_aimOf 64 = .ok (.ifCond .lt 8, 3) := by decide +kernel
theorem d_X14_aimOf_67 : decode b_X14_aimOf 67 = .ok (.iconst (-1), 1) := by decide +kernel
theorem d_X14_aimOf_68 : decode b_X14_aimOf 68 = .ok (.iload 4, 2) := by decide +kernel
theorem d_X14_aimOf_70 : decode b_X14_aimOf 70 = .ok (.isub, 1) := by decide +kernel
theorem d_X14_aimOf_71 : decode b_X14_aimOf 71 = .ok (.ireturn, 1) := by decide +kernel
theorem d_X14_aimOf_72 : decode b_X14_aimOf 72 = .ok (.aload_n 0, 1) := by decide +kernel
theorem d_X14_aimOf_73 : decode b_X14_aimOf 73 = .ok (.getfield 53, 3) := by decide +kernel
theorem d_X14_aimOf_76 : decode b_X14_aimOf 76 = .ok (.iload_n 1, 1) := by decide +kernel
theorem d_X14_aimOf_77 : decode b_X14_aimOf 77 = .ok (.baload, 1) := by decide +kernel
theorem d_X14_aimOf_78 : decode b_X14_aimOf 78 = .ok (.ifCond .ne 12, 3) := by decide +kernel
theorem d_X14_aimOf_81 : decode b_X14_aimOf 81 = .ok (.aload_n 0, 1) := by decide +kernel
theorem d_X14_aimOf_82 : decode b_X14_aimOf 82 = .ok (.iload_n 1, 1) := by decide +kernel
theorem d_X14_aimOf_83 : decode b_X14_aimOf 83 = .ok (.iload_n 3, 1) := by decide +kernel
theorem d_X14_aimOf_84 : decode b_X14_aimOf 84 = .ok (.invokevirtual 710, 3) := by decide +kernel
theorem d_X14_aimOf_87 : decode b_X14_aimOf 87 = .ok (.ifCond .ne 5, 3) := by decide +kernel
theorem d_X14_aimOf_90 : decode b_X14_aimOf 90 = .ok (.iconst 0, 1) := by decide +kernel
theorem d_X14_aimOf_91 : decode b_X14_aimOf 91 = .ok (.ireturn, 1) := by decide +kernel
theorem d_X14_aimOf_92 : decode b_X14_aimOf 92 = .ok (.aload_n 0, 1) := by decide +kernel
theorem d_X14_aimOf_93 : decode b_X14_aimOf 93 = .ok (.getfield 44, 3) := by decide +kernel
theorem d_X14_aimOf_96 : decode b_X14_aimOf 96 = .ok (.iload_n 1, 1) := by decide +kernel
theorem d_X14_aimOf_97 : decode b_X14_aimOf 97 = .ok (.iaload, 1) := by decide +kernel
theorem d_X14_aimOf_98 : decode b_X14_aimOf 98 = .ok (.iconst 1, 1) := by decide +kernel
theorem d_X14_aimOf_99 : decode b_X14_aimOf 99 = .ok (.if_icmp .ne 25, 3) := by decide +kernel
theorem d_X14_aimOf_102 : decode b_X14_aimOf 102 = .ok (.aload_n 0, 1) := by decide +kernel
theorem d_X14_aimOf_103 : decode b_X14_aimOf 103 = .ok (.getfield 147, 3) := by decide +kernel
theorem d_X14_aimOf_106 : decode b_X14_aimOf 106 = .ok (.aload_n 0, 1) := by decide +kernel
theorem d_X14_aimOf_107 : decode b_X14_aimOf 107 = .ok (.getfield 701, 3) := by decide +kernel
theorem d_X14_aimOf_110 : decode b_X14_aimOf 110 = .ok (.iaload, 1) := by decide +kernel
theorem d_X14_aimOf_111 : decode b_X14_aimOf 111 = .ok (.aload_n 0, 1) := by decide +kernel
theorem d_X14_aimOf_112 : decode b_X14_aimOf 112 = .ok (.getfield 70, 3) := by decide +kernel
theorem d_X14_aimOf_115 : decode b_X14_aimOf 115 = .ok (.aload_n 0, 1) := by decide +kernel
theorem d_X14_aimOf_116 : decode b_X14_aimOf 116 = .ok (.getfield 704, 3) := by decide +kernel
theorem d_X14_aimOf_119 : decode b_X14_aimOf 119 = .ok (.iaload, 1) := by decide +kernel
theorem d_X14_aimOf_120 : decode b_X14_aimOf 120 = .ok (.iadd, 1) := by decide +kernel
theorem d_X14_aimOf_121 : decode b_X14_aimOf 121 = .ok (.goto 12, 3) := by decide +kernel
theorem d_X14_aimOf_124 : decode b_X14_aimOf 124 = .ok (.aload_n 0, 1) := by decide +kernel
theorem d_X14_aimOf_125 : decode b_X14_aimOf 125 = .ok (.getfield 70, 3) := by decide +kernel
theorem d_X14_aimOf_128 : decode b_X14_aimOf 128 = .ok (.aload_n 0, 1) := by decide +kernel
theorem d_X14_aimOf_129 : decode b_X14_aimOf 129 = .ok (.getfield 704, 3) := by decide +kernel
theorem d_X14_aimOf_132 : decode b_X14_aimOf 132 = .ok (.iaload, 1) := by decide +kernel
theorem d_X14_aimOf_133 : decode b_X14_aimOf 133 = .ok (.ireturn, 1) := by decide +kernel
theorem d_X14_among_0 : decode b_X14_among 0 = .ok (.iconst 0, 1) := by decide +kernel
theorem d_X14_among_1 : decode b_X14_among 1 = .ok (.istore 4, 2) := by decide +kernel
theorem d_X14_among_3 : decode b_X14_among 3 = .ok (.iconst 1, 1) := by decide +kernel
theorem d_X14_among_4 : decode b_X14_among 4 = .ok (.istore 5, 2) := by decide +kernel
theorem d_X14_among_6 : decode b_X14_among 6 = .ok (.iload 5, 2) := by decide +kernel
theorem d_X14_among_8 : decode b_X14_among 8 = .ok (.aload_n 3, 1) := by decide +kernel
theorem d_X14_among_9 : decode b_X14_among 9 = .ok (.invokevirtual 264, 3) := by decide +kernel
theorem d_X14_among_12 : decode b_X14_among 12 = .ok (.if_icmp .ge 112, 3) := by decide +kernel
theorem d_X14_among_15 : decode b_X14_among 15 = .ok (.iload 5, 2) := by decide +kernel
theorem d_X14_among_17 : decode b_X14_among 17 = .ok (.istore 6, 2) := by decide +kernel
theorem d_X14_among_19 : decode b_X14_among 19 = .ok (.aload_n 3, 1) := by decide +kernel
theorem d_X14_among_20 : decode b_X14_among 20 = .ok (.iload 6, 2) := by decide +kernel
theorem d_X14_among_22 : decode b_X14_among 22 = .ok (.invokevirtual 270, 3) := by decide +kernel
theorem d_X14_among_25 : decode b_X14_among 25 = .ok (.bipush 32, 2) := by decide +kernel
theorem d_X14_among_27 : decode b_X14_among 27 = .ok (.if_icmp .eq 9, 3) := by decide +kernel
theorem d_X14_among_30 : decode b_X14_among 30 = .ok (.iinc 6 1, 3) := by decide +kernel
theorem d_X14_among_33 : decode b_X14_among 33 = .ok (.goto (-14), 3) := by decide +kernel
theorem d_X14_among_36 : decode b_X14_among 36 = .ok (.iload 6, 2) := by decide +kernel
theorem d_X14_among_38 : decode b_X14_among 38 = .ok (.iload 5, 2) := by decide +kernel
theorem d_X14_among_40 : decode b_X14_among 40 = .ok (.isub, 1) := by decide +kernel
theorem d_X14_among_41 : decode b_X14_among 41 = .ok (.iload_n 2, 1) := by decide +kernel
theorem d_X14_among_42 : decode b_X14_among 42 = .ok (.iload_n 1, 1) := by decide +kernel
theorem d_X14_among_43 : decode b_X14_among 43 = .ok (.isub, 1) := by decide +kernel
theorem d_X14_among_44 : decode b_X14_among 44 = .ok (.if_icmp .ne 7, 3) := by decide +kernel
theorem d_X14_among_47 : decode b_X14_among 47 = .ok (.iconst 1, 1) := by decide +kernel
theorem d_X14_among_48 : decode b_X14_among 48 = .ok (.goto 4, 3) := by decide +kernel
theorem d_X14_among_51 : decode b_X14_among 51 = .ok (.iconst 0, 1) := by decide +kernel
theorem d_X14_among_52 : decode b_X14_among 52 = .ok (.istore 7, 2) := by decide +kernel
theorem d_X14_among_54 : decode b_X14_among 54 = .ok (.iconst 0, 1) := by decide +kernel
theorem d_X14_among_55 : decode b_X14_among 55 = .ok (.istore 8, 2) := by decide +kernel
theorem d_X14_among_57 : decode b_X14_among 57 = .ok (.iload 7, 2) := by decide +kernel
theorem d_X14_among_59 : decode b_X14_among 59 = .ok (.ifCond .eq 45, 3) := by decide +kernel
theorem d_X14_among_62 : decode b_X14_among 62 = .ok (.iload 8, 2) := by decide +kernel
theorem d_X14_among_64 : decode b_X14_among 64 = .ok (.iload_n 2, 1) := by decide +kernel
theorem d_X14_among_65 : decode b_X14_among 65 = .ok (.iload_n 1, 1) := by decide +kernel
theorem d_X14_among_66 : decode b_X14_among 66 = .ok (.isub, 1) := by decide +kernel
theorem d_X14_among_67 : decode b_X14_among 67 = .ok (.if_icmp .ge 37, 3) := by decide +kernel
theorem d_X14_among_70 : decode b_X14_among 70 = .ok (.aload_n 0, 1) := by decide +kernel
theorem d_X14_among_71 : decode b_X14_among 71 = .ok (.getfield 9, 3) := by decide +kernel
theorem d_X14_among_74 : decode b_X14_among 74 = .ok (.iload_n 1, 1) := by decide +kernel
theorem d_X14_among_75 : decode b_X14_among 75 = .ok (.iload 8, 2) := by decide +kernel
theorem d_X14_among_77 : decode b_X14_among 77 = .ok (.iadd, 1) := by decide +kernel
theorem d_X14_among_78 : decode b_X14_among 78 = .ok (.baload, 1) := by decide +kernel
theorem d_X14_among_79 : decode b_X14_among 79 = .ok (.aload_n 3, 1) := by decide +kernel
theorem d_X14_among_80 : decode b_X14_among 80 = .ok (.iload 5, 2) := by decide +kernel
theorem d_X14_among_82 : decode b_X14_among 82 = .ok (.iload 8, 2) := by decide +kernel
theorem d_X14_among_84 : decode b_X14_among 84 = .ok (.iadd, 1) := by decide +kernel
theorem d_X14_among_85 : decode b_X14_among 85 = .ok (.invokevirtual 270, 3) := by decide +kernel
theorem d_X14_among_88 : decode b_X14_among 88 = .ok (.if_icmp .ne 7, 3) := by decide +kernel
theorem d_X14_among_91 : decode b_X14_among 91 = .ok (.iconst 1, 1) := by decide +kernel
theorem d_X14_among_92 : decode b_X14_among 92 = .ok (.goto 4, 3) := by decide +kernel
theorem d_X14_among_95 : decode b_X14_among 95 = .ok (.iconst 0, 1) := by decide +kernel
theorem d_X14_among_96 : decode b_X14_among 96 = .ok (.istore 7, 2) := by decide +kernel
theorem d_X14_among_98 : decode b_X14_among 98 = .ok (.iinc 8 1, 3) := by decide +kernel
theorem d_X14_among_101 : decode b_X14_among 101 = .ok (.goto (-44), 3) := by decide +kernel
theorem d_X14_among_104 : decode b_X14_among 104 = .ok (.iload 7, 2) := by decide +kernel
theorem d_X14_among_106 : decode b_X14_among 106 = .ok (.ifCond .eq 6, 3) := by decide +kernel
theorem d_X14_among_109 : decode b_X14_among 109 = .ok (.iload 4, 2) := by decide +kernel
theorem d_X14_among_111 : decode b_X14_among 111 = .ok (.ireturn, 1) := by decide +kernel
theorem d_X14_among_112 : decode b_X14_among 112 = .ok (.iinc 4 1, 3) := by decide +kernel
theorem d_X14_among_115 : decode b_X14_among 115 = .ok (.iload 6, 2) := by decide +kernel
theorem d_X14_among_117 : decode b_X14_among 117 = .ok (.iconst 1, 1) := by decide +kernel
theorem d_X14_among_118 : decode b_X14_among 118 = .ok (.iadd, 1) := by decide +kernel
theorem d_X14_among_119 : decode b_X14_among 119 = .ok (.istore 5, 2) := by decide +kernel
theorem d_X14_among_121 : decode b_X14_among 121 = .ok (.goto (-115), 3) := by decide +kernel
theorem d_X14_among_124 : decode b_X14_among 124 = .ok (.iconst (-1), 1) := by decide +kernel
theorem d_X14_among_125 : decode b_X14_among 125 = .ok (.ireturn, 1) := by decide +kernel
theorem d_X14_bad_0 : decode b_X14_bad 0 = .ok (.aload_n 0, 1) := by decide +kernel
theorem d_X14_bad_1 : decode b_X14_bad 1 = .ok (.iconst 1, 1) := by decide +kernel
theorem d_X14_bad_2 : decode b_X14_bad 2 = .ok (.iload_n 1, 1) := by decide +kernel
theorem d_X14_bad_3 : decode b_X14_bad 3 = .ok (.iload_n 1, 1) := by decide +kernel
theorem d_X14_bad_4 : decode b_X14_bad 4 = .ok (.iconst 0, 1) := by decide +kernel
theorem d_X14_bad_5 : decode b_X14_bad 5 = .ok (.iconst 0, 1) := by decide +kernel
theorem d_X14_bad_6 : decode b_X14_bad 6 = .ok (.invokevirtual 217, 3) := by decide +kernel
theorem d_X14_bad_9 : decode b_X14_bad 9 = .ok (.iload_n 1, 1) := by decide +kernel
theorem d_X14_bad_10 : decode b_X14_bad 10 = .ok (.ireturn, 1) := by decide +kernel
theorem d_X14_behind_0 : decode b_X14_behind 0 = .ok (.aload_n 0, 1) := by decide +kernel
theorem d_X14_behind_1 : decode b_X14_behind 1 = .ok (.iload_n 1, 1) := by decide +kernel
theorem d_X14_behind_2 : decode b_X14_behind 2 = .ok (.invokevirtual 503, 3) := by decide +kernel
theorem d_X14_behind_5 : decode b_X14_behind 5 = .ok (.astore_n 2, 1) := by decide +kernel
theorem d_X14_behind_6 : decode b_X14_behind 6 = .ok (.aload_n 0, 1) := by decide +kernel
theorem d_X14_behind_7 : decode b_X14_behind 7 = .ok (.bipush 24, 2) := by decide +kernel
theorem d_X14_behind_9 : decode b_X14_behind 9 = .ok (.invokevirtual 308, 3) := by decide +kernel
theorem d_X14_behind_12 : decode b_X14_behind 12 = .ok (.ifCond .ne 21, 3) := by decide +kernel
theorem d_X14_behind_15 : decode b_X14_behind 15 = .ok (.aload_n 0, 1) := by decide +kernel
theorem d_X14_behind_16 : decode b_X14_behind 16 = .ok (.bipush 18, 2) := by decide +kernel
theorem d_X14_behind_18 : decode b_X14_behind 18 = .ok (.invokevirtual 308, 3) := by decide +kernel
theorem d_X14_behind_21 : decode b_X14_behind 21 = .ok (.ifCond .ne 12, 3) := by decide +kernel
theorem d_X14_behind_24 : decode b_X14_behind 24 = .ok (.aload_n 0, 1) := by decide +kernel
theorem d_X14_behind_25 : decode b_X14_behind 25 = .ok (.bipush 19, 2) := by decide +kernel
theorem d_X14_behind_27 : decode b_X14_behind 27 = .ok (.invokevirtual 308, 3) := by decide +kernel
theorem d_X14_behind_30 : decode b_X14_behind 30 = .ok (.ifCond .eq 168, 3) := by decide +kernel
theorem d_X14_behind_33 : decode b_X14_behind 33 = .ok (.aload_n 0, 1) := by decide +kernel
theorem d_X14_behind_34 : decode b_X14_behind 34 = .ok (.getfield 288, 3) := by decide +kernel
theorem d_X14_behind_37 : decode b_X14_behind 37 = .ok (.istore_n 3, 1) := by decide +kernel
theorem d_X14_behind_38 : decode b_X14_behind 38 = .ok (.aload_n 0, 1) := by decide +kernel
theorem d_X14_behind_39 : decode b_X14_behind 39 = .ok (.bipush 24, 2) := by decide +kernel
theorem d_X14_behind_41 : decode b_X14_behind 41 = .ok (.invokevirtual 308, 3) := by decide +kernel
theorem d_X14_behind_44 : decode b_X14_behind 44 = .ok (.ifCond .ne 32, 3) := by decide +kernel
theorem d_X14_behind_47 : decode b_X14_behind 47 = .ok (.aload_n 0, 1) := by decide +kernel
theorem d_X14_behind_48 : decode b_X14_behind 48 = .ok (.invokevirtual 383, 3) := by decide +kernel
theorem d_X14_behind_51 : decode b_X14_behind 51 = .ok (.istore 4, 2) := by decide +kernel
theorem d_X14_behind_53 : decode b_X14_behind 53 = .ok (.aload_n 0, 1) := by decide +kernel
theorem d_X14_behind_54 : decode b_X14_behind 54 = .ok (.dup, 1) := by decide +kernel
theorem d_X14_behind_55 : decode b_X14_behind 55 = .ok (.getfield 288, 3) := by decide +kernel
theorem d_X14_behind_58 : decode b_X14_behind 58 = .ok (.iconst 1, 1) := by decide +kernel
theorem d_X14_behind_59 : decode b_X14_behind 59 = .ok (.iadd, 1) := by decide +kernel
theorem d_X14_behind_60 : decode b_X14_behind 60 = .ok (.putfield 288, 3) := by decide +kernel
theorem d_X14_behind_63 : decode b_X14_behind 63 = .ok (.aload_n 0, 1) := by decide +kernel
theorem d_X14_behind_64 : decode b_X14_behind 64 = .ok (.aload_n 2, 1) := by decide +kernel
theorem d_X14_behind_65 : decode b_X14_behind 65 = .ok (.iload 4, 2) := by decide +kernel
theorem d_X14_behind_67 : decode b_X14_behind 67 = .ok (.iconst 1, 1) := by decide +kernel
theorem d_X14_behind_68 : decode b_X14_behind 68 = .ok (.iload_n 3, 1) := by decide +kernel
theorem d_X14_behind_69 : decode b_X14_behind 69 = .ok (.invokevirtual 484, 3) := by decide +kernel
theorem d_X14_behind_72 : decode b_X14_behind 72 = .ok (.astore_n 2, 1) := by decide +kernel
theorem d_X14_behind_73 : decode b_X14_behind 73 = .ok (.goto (-67), 3) := by decide +kernel
theorem d_X14_behind_76 : decode b_X14_behind 76 = .ok (.aload_n 0, 1) := by decide +kernel
theorem d_X14_behind_77 : decode b_X14_behind 77 = .ok (.aload_n 2, 1) := by decide +kernel
theorem d_X14_behind_78 : decode b_X14_behind 78 = .ok (.invokevirtual 398, 3) := by decide +kernel
theorem d_X14_behind_81 : decode b_X14_behind 81 = .ok (.aload_n 0, 1) := by decide +kernel
theorem d_X14_behind_82 : decode b_X14_behind 82 = .ok (.iload_n 1, 1) := by decide +kernel
theorem d_X14_behind_83 : decode b_X14_behind 83 = .ok (.invokevirtual 389, 3) := by decide +kernel
theorem d_X14_behind_86 : decode b_X14_behind 86 = .ok (.istore 4, 2) := by decide +kernel
theorem d_X14_behind_88 : decode b_X14_behind 88 = .ok (.aload_n 0, 1) := by decide +kernel
theorem d_X14_behind_89 : decode b_X14_behind 89 = .ok (.dup, 1) := by decide +kernel
theorem d_X14_behind_90 : decode b_X14_behind 90 = .ok (.getfield 288, 3) := by decide +kernel
theorem d_X14_behind_93 : decode b_X14_behind 93 = .ok (.iconst 1, 1) := by decide +kernel
theorem d_X14_behind_94 : decode b_X14_behind 94 = .ok (.iadd, 1) := by decide +kernel
theorem d_X14_behind_95 : decode b_X14_behind 95 = .ok (.putfield 288, 3) := by decide +kernel
theorem d_X14_behind_98 : decode b_X14_behind 98 = .ok (.aload_n 0, 1) := by decide +kernel
theorem d_X14_behind_99 : decode b_X14_behind 99 = .ok (.iload 4, 2) := by decide +kernel
theorem d_X14_behind_101 : decode b_X14_behind 101 = .ok (.invokevirtual 395, 3) := by decide +kernel
theorem d_X14_behind_104 : decode b_X14_behind 104 = .ok (.astore 5, 2) := by decide +kernel
theorem d_X14_behind_106 : decode b_X14_behind 106 = .ok (.aload_n 0, 1) := by decide +kernel
theorem d_X14_behind_107 : decode b_X14_behind 107 = .ok (.aload 5, 2) := by decide +kernel
theorem d_X14_behind_109 : decode b_X14_behind 109 = .ok (.invokevirtual 398, 3) := by decide +kernel
theorem d_X14_behind_112 : decode b_X14_behind 112 = .ok (.aload_n 0, 1) := by decide +kernel
theorem d_X14_behind_113 : decode b_X14_behind 113 = .ok (.bipush 25, 2) := by decide +kernel
theorem d_X14_behind_115 : decode b_X14_behind 115 = .ok (.invokevirtual 497, 3) := by decide +kernel
theorem d_X14_behind_118 : decode b_X14_behind 118 = .ok (.aload_n 0, 1) := by decide +kernel
theorem d_X14_behind_119 : decode b_X14_behind 119 = .ok (.aload_n 2, 1) := by decide +kernel
theorem d_X14_behind_120 : decode b_X14_behind 120 = .ok (.invokestatic 434, 3) := by decide +kernel
theorem d_X14_behind_123 : decode b_X14_behind 123 = .ok (.ifCond .eq 15, 3) := by decide +kernel
theorem d_X14_behind_126 : decode b_X14_behind 126 = .ok (.aload 5, 2) := by decide +kernel
theorem d_X14_behind_128 : decode b_X14_behind 128 = .ok (.invokestatic 406, 3) := by decide +kernel
theorem d_X14_behind_131 : decode b_X14_behind 131 = .ok (.ifCond .eq 7, 3) := by decide +kernel
theorem d_X14_behind_134 : decode b_X14_behind 134 = .ok (.iconst 1, 1) := by decide +kernel
theorem d_X14_behind_135 : decode b_X14_behind 135 = .ok (.goto 4, 3) := by decide +kernel
theorem d_X14_behind_138 : decode b_X14_behind 138 = .ok (.iconst 0, 1) := by decide +kernel
theorem d_X14_behind_139 : decode b_X14_behind 139 = .ok (.iload_n 3, 1) := by decide +kernel
theorem d_X14_behind_140 : decode b_X14_behind 140 = .ok (.invokevirtual 410, 3) := by decide +kernel
theorem d_X14_behind_143 : decode b_X14_behind 143 = .ok (.aload_n 0, 1) := by decide +kernel
theorem d_X14_behind_144 : decode b_X14_behind 144 = .ok (.aload_n 2, 1) := by decide +kernel
theorem d_X14_behind_145 : decode b_X14_behind 145 = .ok (.invokestatic 434, 3) := by decide +kernel
theorem d_X14_behind_148 : decode b_X14_behind 148 = .ok (.ifCond .eq 12, 3) := by decide +kernel
theorem d_X14_behind_151 : decode b_X14_behind 151 = .ok (.aload_n 2, 1) := by decide +kernel
theorem d_X14_behind_152 : decode b_X14_behind 152 = .ok (.getfield 352, 3) := by decide +kernel
theorem d_X14_behind_155 : decode b_X14_behind 155 = .ok (.iconst 1, 1) := by decide +kernel
theorem d_X14_behind_156 : decode b_X14_behind 156 = .ok (.isub, 1) := by decide +kernel
theorem d_X14_behind_157 : decode b_X14_behind 157 = .ok (.goto 5, 3) := by decide +kernel
theorem d_X14_behind_160 : decode b_X14_behind 160 = .ok (.bipush (-2), 2) := by decide +kernel
theorem d_X14_behind_162 : decode b_X14_behind 162 = .ok (.aload_n 2, 1) := by decide +kernel
theorem d_X14_behind_163 : decode b_X14_behind 163 = .ok (.aload 5, 2) := by decide +kernel
theorem d_X14_behind_165 : decode b_X14_behind 165 = .ok (.iload_n 3, 1) := by decide +kernel
theorem d_X14_behind_166 : decode b_X14_behind 166 = .ok (.invokevirtual 414, 3) := by decide +kernel
theorem d_X14_behind_169 : decode b_X14_behind 169 = .ok (.astore 6, 2) := by decide +kernel
theorem d_X14_behind_171 : decode b_X14_behind 171 = .ok (.aload_n 0, 1) := by decide +kernel
theorem d_X14_behind_172 : decode b_X14_behind 172 = .ok (.bipush 11, 2) := by decide +kernel
theorem d_X14_behind_174 : decode b_X14_behind 174 = .ok (.bipush 36, 2) := by decide +kernel
theorem d_X14_behind_176 : decode b_X14_behind 176 = .ok (.iconst 0, 1) := by decide +kernel
theorem d_X14_behind_177 : decode b_X14_behind 177 = .ok (.invokevirtual 418, 3) := by decide +kernel
theorem d_X14_behind_180 : decode b_X14_behind 180 = .ok (.aload 6, 2) := by decide +kernel
theorem d_X14_behind_182 : decode b_X14_behind 182 = .ok (.iconst 3, 1) := by decide +kernel
theorem d_X14_behind_183 : decode b_X14_behind 183 = .ok (.putfield 361, 3) := by decide +kernel
theorem d_X14_behind_186 : decode b_X14_behind 186 = .ok (.aload 6, 2) := by decide +kernel
theorem d_X14_behind_188 : decode b_X14_behind 188 = .ok (.iload_n 3, 1) := by decide +kernel
theorem d_X14_behind_189 : decode b_X14_behind 189 = .ok (.putfield 367, 3) := by decide +kernel
theorem d_X14_behind_192 : decode b_X14_behind 192 = .ok (.aload 6, 2) := by decide +kernel
theorem d_X14_behind_194 : decode b_X14_behind 194 = .ok (.astore_n 2, 1) := by decide +kernel
theorem d_X14_behind_195 : decode b_X14_behind 195 = .ok (.goto (-189), 3) := by decide +kernel
theorem d_X14_behind_198 : decode b_X14_behind 198 = .ok (.aload_n 2, 1) := by decide +kernel
theorem d_X14_behind_199 : decode b_X14_behind 199 = .ok (.areturn, 1) := by decide +kernel
theorem d_X14_binary_0 : decode b_X14_binary 0 = .ok (.aload_n 0, 1) := by decide +kernel
theorem d_X14_binary_1 : decode b_X14_binary 1 = .ok (.iload_n 2, 1) := by decide +kernel
theorem d_X14_binary_2 : decode b_X14_binary 2 = .ok (.invokevirtual 437, 3) := by decide +kernel
theorem d_X14_binary_5 : decode b_X14_binary 5 = .ok (.astore_n 3, 1) := by decide +kernel
theorem d_X14_binary_6 : decode b_X14_binary 6 = .ok (.aload_n 0, 1) := by decide +kernel
theorem d_X14_binary_7 : decode b_X14_binary 7 = .ok (.invokevirtual 383, 3) := by decide +kernel
theorem d_X14_binary_10 : decode b_X14_binary 10 = .ok (.invokestatic 440, 3) := by decide +kernel
theorem d_X14_binary_13 : decode b_X14_binary 13 = .ok (.iload_n 1, 1) := by decide +kernel
theorem d_X14_binary_14 : decode b_X14_binary 14 = .ok (.if_icmp .lt 93, 3) := by decide +kernel
theorem d_X14_binary_17 : decode b_X14_binary 17 = .ok (.aload_n 0, 1) := by decide +kernel
theorem d_X14_binary_18 : decode b_X14_binary 18 = .ok (.invokevirtual 383, 3) := by decide +kernel
theorem d_X14_binary_21 : decode b_X14_binary 21 = .ok (.istore 4, 2) := by decide +kernel
theorem d_X14_binary_23 : decode b_X14_binary 23 = .ok (.aload_n 0, 1) := by decide +kernel
theorem d_X14_binary_24 : decode b_X14_binary 24 = .ok (.getfield 288, 3) := by decide +kernel
theorem d_X14_binary_27 : decode b_X14_binary 27 = .ok (.istore 5, 2) := by decide +kernel
theorem d_X14_binary_29 : decode b_X14_binary 29 = .ok (.aload_n 0, 1) := by decide +kernel
theorem d_X14_binary_30 : decode b_X14_binary 30 = .ok (.dup, 1) := by decide +kernel
theorem d_X14_binary_31 : decode b_X14_binary 31 = .ok (.getfield 288, 3) := by decide +kernel
theorem d_X14_binary_34 : decode b_X14_binary 34 = .ok (.iconst 1, 1) := by decide +kernel
theorem d_X14_binary_35 : decode b_X14_binary 35 = .ok (.iadd, 1) := by decide +kernel
theorem d_X14_binary_36 : decode b_X14_binary 36 = .ok (.putfield 288, 3) := by decide +kernel
theorem d_X14_binary_39 : decode b_X14_binary 39 = .ok (.aload_n 0, 1) := by decide +kernel
theorem d_X14_binary_40 : decode b_X14_binary 40 = .ok (.aload_n 3, 1) := by decide +kernel
theorem d_X14_binary_41 : decode b_X14_binary 41 = .ok (.invokevirtual 398, 3) := by decide +kernel
theorem d_X14_binary_44 : decode b_X14_binary 44 = .ok (.iload 4, 2) := by decide +kernel
theorem d_X14_binary_46 : decode b_X14_binary 46 = .ok (.bipush 11, 2) := by decide +kernel
theorem d_X14_binary_48 : decode b_X14_binary 48 = .ok (.if_icmp .eq 10, 3) := by decide +kernel
theorem d_X14_binary_51 : decode b_X14_binary 51 = .ok (.iload 4, 2) := by decide +kernel
theorem d_X14_binary_53 : decode b_X14_binary 53 = .ok (.bipush 10, 2) := by decide +kernel
theorem d_X14_binary_55 : decode b_X14_binary 55 = .ok (.if_icmp .ne 17, 3) := by decide +kernel
theorem d_X14_binary_58 : decode b_X14_binary 58 = .ok (.aload_n 0, 1) := by decide +kernel
theorem d_X14_binary_59 : decode b_X14_binary 59 = .ok (.iload 4, 2) := by decide +kernel
theorem d_X14_binary_61 : decode b_X14_binary 61 = .ok (.aload_n 3, 1) := by decide +kernel
theorem d_X14_binary_62 : decode b_X14_binary 62 = .ok (.iload 5, 2) := by decide +kernel
theorem d_X14_binary_64 : decode b_X14_binary 64 = .ok (.iload_n 2, 1) := by decide +kernel
theorem d_X14_binary_65 : decode b_X14_binary 65 = .ok (.invokevirtual 443, 3) := by decide +kernel
theorem d_X14_binary_68 : decode b_X14_binary 68 = .ok (.astore_n 3, 1) := by decide +kernel
theorem d_X14_binary_69 : decode b_X14_binary 69 = .ok (.goto 35, 3) := by decide +kernel
theorem d_X14_binary_72 : decode b_X14_binary 72 = .ok (.aload_n 0, 1) := by decide +kernel
theorem d_X14_binary_73 : decode b_X14_binary 73 = .ok (.iload 4, 2) := by decide +kernel
theorem d_X14_binary_75 : decode b_X14_binary 75 = .ok (.invokestatic 440, 3) := by decide +kernel
theorem d_X14_binary_78 : decode b_X14_binary 78 = .ok (.iconst 1, 1) := by decide +kernel
theorem d_X14_binary_79 : decode b_X14_binary 79 = .ok (.iadd, 1) := by decide +kernel
theorem d_X14_binary_80 : decode b_X14_binary 80 = .ok (.iload_n 2, 1) := by decide +kernel
theorem d_X14_binary_81 : decode b_X14_binary 81 = .ok (.invokevirtual 421, 3) := by decide +kernel
theorem d_X14_binary_84 : decode b_X14_binary 84 = .ok (.astore 6, 2) := by decide +kernel
theorem d_X14_binary_86 : decode b_X14_binary 86 = .ok (.aload_n 0, 1) := by decide +kernel
theorem d_X14_binary_87 : decode b_X14_binary 87 = .ok (.aload 6, 2) := by decide +kernel
theorem d_X14_binary_89 : decode b_X14_binary 89 = .ok (.invokevirtual 398, 3) := by decide +kernel
theorem d_X14_binary_92 : decode b_X14_binary 92 = .ok (.aload_n 0, 1) := by decide +kernel
theorem d_X14_binary_93 : decode b_X14_binary 93 = .ok (.iload 4, 2) := by decide +kernel
theorem d_X14_binary_95 : decode b_X14_binary 95 = .ok (.aload_n 3, 1) := by decide +kernel
theorem d_X14_binary_96 : decode b_X14_binary 96 = .ok (.aload 6, 2) := by decide +kernel
theorem d_X14_binary_98 : decode b_X14_binary 98 = .ok (.iload 5, 2) := by decide +kernel
theorem d_X14_binary_100 : decode b_X14_binary 100 = .ok (.invokevirtual 447, 3) := by decide +kernel
theorem d_X14_binary_103 : decode b_X14_binary 103 = .ok (.astore_n 3, 1) := by decide +kernel
theorem d_X14_binary_104 : decode b_X14_binary 104 = .ok (.goto (-98), 3) := by decide +kernel
theorem d_X14_binary_107 : decode b_X14_binary 107 = .ok (.aload_n 3, 1) := by decide +kernel
theorem d_X14_binary_108 : decode b_X14_binary 108 = .ok (.areturn, 1) := by decide +kernel
theorem d_X14_block_0 : decode b_X14_block 0 = .ok (.aload_n 0, 1) := by decide +kernel
theorem d_X14_block_1 : decode b_X14_block 1 = .ok (.bipush 22, 2) := by decide +kernel
theorem d_X14_block_3 : decode b_X14_block 3 = .ok (.invokevirtual 497, 3) := by decide +kernel
theorem d_X14_block_6 : decode b_X14_block 6 = .ok (.aload_n 0, 1) := by decide +kernel
theorem d_X14_block_7 : decode b_X14_block 7 = .ok (.dup, 1) := by decide +kernel
theorem d_X14_block_8 : decode b_X14_block 8 = .ok (.getfield 346, 3) := by decide +kernel
theorem d_X14_block_11 : decode b_X14_block 11 = .ok (.iconst 1, 1) := by decide +kernel
theorem d_X14_block_12 : decode b_X14_block 12 = .ok (.iadd, 1) := by decide +kernel
theorem d_X14_block_13 : decode b_X14_block 13 = .ok (.putfield 346, 3) := by decide +kernel
theorem d_X14_block_16 : decode b_X14_block 16 = .ok (.aload_n 0, 1) := by decide +kernel
theorem d_X14_block_17 : decode b_X14_block 17 = .ok (.bipush 23, 2) := by decide +kernel
theorem d_X14_block_19 : decode b_X14_block 19 = .ok (.invokevirtual 308, 3) := by decide +kernel
theorem d_X14_block_22 : decode b_X14_block 22 = .ok (.ifCond .ne 13, 3) := by decide +kernel
theorem d_X14_block_25 : decode b_X14_block 25 = .ok (.aload_n 0, 1) := by decide +kernel
theorem d_X14_block_26 : decode b_X14_block 26 = .ok (.iload_n 1, 1) := by decide +kernel
theorem d_X14_block_27 : decode b_X14_block 27 = .ok (.iconst 1, 1) := by decide +kernel
theorem d_X14_block_28 : decode b_X14_block 28 = .ok (.iadd, 1) := by decide +kernel
theorem d_X14_block_29 : decode b_X14_block 29 = .ok (.invokevirtual 536, 3) := by decide +kernel
theorem d_X14_block_32 : decode b_X14_block 32 = .ok (.goto (-16), 3) := by decide +kernel
theorem d_X14_block_35 : decode b_X14_block 35 = .ok (.aload_n 0, 1) := by decide +kernel
theorem d_X14_block_36 : decode b_X14_block 36 = .ok (.dup, 1) := by decide +kernel
theorem d_X14_block_37 : decode b_X14_block 37 = .ok (.getfield 288, 3) := by decide +kernel
theorem d_X14_block_40 : decode b_X14_block 40 = .ok (.iconst 1, 1) := by decide +kernel
theorem d_X14_block_41 : decode b_X14_block 41 = .ok (.iadd, 1) := by decide +kernel
theorem d_X14_block_42 : decode b_X14_block 42 = .ok (.putfield 288, 3) := by decide +kernel
theorem d_X14_block_45 : decode b_X14_block 45 = .ok (.aload_n 0, 1) := by decide +kernel
theorem d_X14_block_46 : decode b_X14_block 46 = .ok (.invokevirtual 539, 3) := by decide +kernel
theorem d_X14_block_49 : decode b_X14_block 49 = .ok (.return_, 1) := by decide +kernel
theorem d_X14_bodiless_0 : decode b_X14_bodiless 0 = .ok (.iconst (-1), 1) := by decide +kernel
theorem d_X14_bodiless_1 : decode b_X14_bodiless 1 = .ok (.istore_n 1, 1) := by decide +kernel
theorem d_X14_bodiless_2 : decode b_X14_bodiless 2 = .ok (.aload_n 0, 1) := by decide +kernel
theorem d_X14_bodiless_3 : decode b_X14_bodiless 3 = .ok (.getfield 86, 3) := by decide +kernel
theorem d_X14_bodiless_6 : decode b_X14_bodiless 6 = .ok (.aload_n 0, 1) := by decide +kernel
theorem d_X14_bodiless_7 : decode b_X14_bodiless 7 = .ok (.getfield 327, 3) := by decide +kernel
theorem d_X14_bodiless_10 : decode b_X14_bodiless 10 = .ok (.iaload, 1) := by decide +kernel
theorem d_X14_bodiless_11 : decode b_X14_bodiless 11 = .ok (.istore_n 2, 1) := by decide +kernel
theorem d_X14_bodiless_12 : decode b_X14_bodiless 12 = .ok (.iload_n 2, 1) := by decide +kernel
theorem d_X14_bodiless_13 : decode b_X14_bodiless 13 = .ok (.aload_n 0, 1) := by decide +kernel
theorem d_X14_bodiless_14 : decode b_X14_bodiless 14 = .ok (.getfield 330, 3) := by decide +kernel
theorem d_X14_bodiless_17 : decode b_X14_bodiless 17 = .ok (.if_icmp .ge 69, 3) := by decide +kernel
theorem d_X14_bodiless_20 : decode b_X14_bodiless 20 = .ok (.aload_n 0, 1) := by decide +kernel
theorem d_X14_bodiless_21 : decode b_X14_bodiless 21 = .ok (.getfield 83, 3) := by decide +kernel
theorem d_X14_bodiless_24 : decode b_X14_bodiless 24 = .ok (.iload_n 2, 1) := by decide +kernel
theorem d_X14_bodiless_25 : decode b_X14_bodiless 25 = .ok (.aload_n 0, 1) := by decide +kernel
theorem d_X14_bodiless_26 : decode b_X14_bodiless 26 = .ok (.getfield 86, 3) := by decide +kernel
theorem d_X14_bodiless_29 : decode b_X14_bodiless 29 = .ok (.aload_n 0, 1) := by decide +kernel
theorem d_X14_bodiless_30 : decode b_X14_bodiless 30 = .ok (.getfield 327, 3) := by decide +kernel
theorem d_X14_bodiless_33 : decode b_X14_bodiless 33 = .ok (.iaload, 1) := by decide +kernel
theorem d_X14_bodiless_34 : decode b_X14_bodiless 34 = .ok (.isub, 1) := by decide +kernel
theorem d_X14_bodiless_35 : decode b_X14_bodiless 35 = .ok (.iaload, 1) := by decide +kernel
theorem d_X14_bodiless_36 : decode b_X14_bodiless 36 = .ok (.istore_n 3, 1) := by decide +kernel
theorem d_X14_bodiless_37 : decode b_X14_bodiless 37 = .ok (.aload_n 0, 1) := by decide +kernel
theorem d_X14_bodiless_38 : decode b_X14_bodiless 38 = .ok (.getfield 44, 3) := by decide +kernel
theorem d_X14_bodiless_41 : decode b_X14_bodiless 41 = .ok (.iload_n 2, 1) := by decide +kernel
theorem d_X14_bodiless_42 : decode b_X14_bodiless 42 = .ok (.iaload, 1) := by decide +kernel
theorem d_X14_bodiless_43 : decode b_X14_bodiless 43 = .ok (.iconst 2, 1) := by decide +kernel
theorem d_X14_bodiless_44 : decode b_X14_bodiless 44 = .ok (.if_icmp .ne 36, 3) := by decide +kernel
theorem d_X14_bodiless_47 : decode b_X14_bodiless 47 = .ok (.aload_n 0, 1) := by decide +kernel
theorem d_X14_bodiless_48 : decode b_X14_bodiless 48 = .ok (.getfield 53, 3) := by decide +kernel
theorem d_X14_bodiless_51 : decode b_X14_bodiless 51 = .ok (.iload_n 2, 1) := by decide +kernel
theorem d_X14_bodiless_52 : decode b_X14_bodiless 52 = .ok (.baload, 1) := by decide +kernel
theorem d_X14_bodiless_53 : decode b_X14_bodiless 53 = .ok (.ifCond .eq 27, 3) := by decide +kernel
theorem d_X14_bodiless_56 : decode b_X14_bodiless 56 = .ok (.aload_n 0, 1) := by decide +kernel
theorem d_X14_bodiless_57 : decode b_X14_bodiless 57 = .ok (.getfield 57, 3) := by decide +kernel
theorem d_X14_bodiless_60 : decode b_X14_bodiless 60 = .ok (.iload_n 2, 1) := by decide +kernel
theorem d_X14_bodiless_61 : decode b_X14_bodiless 61 = .ok (.baload, 1) := by decide +kernel
theorem d_X14_bodiless_62 : decode b_X14_bodiless 62 = .ok (.ifCond .ne 18, 3) := by decide +kernel
theorem d_X14_bodiless_65 : decode b_X14_bodiless 65 = .ok (.iload_n 3, 1) := by decide +kernel
theorem d_X14_bodiless_66 : decode b_X14_bodiless 66 = .ok (.ifCond .lt 14, 3) := by decide +kernel
theorem d_X14_bodiless_69 : decode b_X14_bodiless 69 = .ok (.iload_n 1, 1) := by decide +kernel
theorem d_X14_bodiless_70 : decode b_X14_bodiless 70 = .ok (.ifCond .lt 8, 3) := by decide +kernel
theorem d_X14_bodiless_73 : decode b_X14_bodiless 73 = .ok (.iload_n 3, 1) := by decide +kernel
theorem d_X14_bodiless_74 : decode b_X14_bodiless 74 = .ok (.iload_n 1, 1) := by decide +kernel
theorem d_X14_bodiless_75 : decode b_X14_bodiless 75 = .ok (.if_icmp .ge 5, 3) := by decide +kernel
theorem d_X14_bodiless_78 : decode b_X14_bodiless 78 = .ok (.iload_n 3, 1) := by decide +kernel
theorem d_X14_bodiless_79 : decode b_X14_bodiless 79 = .ok (.istore_n 1, 1) := by decide +kernel
theorem d_X14_bodiless_80 : decode b_X14_bodiless 80 = .ok (.iinc 2 1, 3) := by decide +kernel
theorem d_X14_bodiless_83 : decode b_X14_bodiless 83 = .ok (.goto (-71), 3) := by decide +kernel
theorem d_X14_bodiless_86 : decode b_X14_bodiless 86 = .ok (.iload_n 1, 1) := by decide +kernel
theorem d_X14_bodiless_87 : decode b_X14_bodiless 87 = .ok (.ifCond .lt 9, 3) := by decide +kernel
theorem d_X14_bodiless_90 : decode b_X14_bodiless 90 = .ok (.aload_n 0, 1) := by decide +kernel
theorem d_X14_bodiless_91 : decode b_X14_bodiless 91 = .ok (.iconst 2, 1) := by decide +kernel
theorem d_X14_bodiless_92 : decode b_X14_bodiless 92 = .ok (.iload_n 1, 1) := by decide +kernel
theorem d_X14_bodiless_93 : decode b_X14_bodiless 93 = .ok (.invokevirtual 304, 3) := by decide +kernel
theorem d_X14_bodiless_96 : decode b_X14_bodiless 96 = .ok (.return_, 1) := by decide +kernel
theorem d_X14_bodyOf_0 : decode b_X14_bodyOf 0 = .ok (.aload_n 0, 1) := by decide +kernel
theorem d_X14_bodyOf_1 : decode b_X14_bodyOf 1 = .ok (.iload_n 1, 1) := by decide +kernel
theorem d_X14_bodyOf_2 : decode b_X14_bodyOf 2 = .ok (.iconst (-1), 1) := by decide +kernel
theorem d_X14_bodyOf_3 : decode b_X14_bodyOf 3 = .ok (.if_icmp .ne 7, 3) := by decide +kernel
theorem d_X14_bodyOf_6 : decode b_X14_bodyOf 6 = .ok (.iconst 1, 1) := by decide +kernel
theorem d_X14_bodyOf_7 : decode b_X14_bodyOf 7 = .ok (.goto 4, 3) := by decide +kernel
theorem d_X14_bodyOf_10 : decode b_X14_bodyOf 10 = .ok (.iconst 0, 1) := by decide +kernel
theorem d_X14_bodyOf_11 : decode b_X14_bodyOf 11 = .ok (.putfield 588, 3) := by decide +kernel
theorem d_X14_bodyOf_14 : decode b_X14_bodyOf 14 = .ok (.aload_n 0, 1) := by decide +kernel
theorem d_X14_bodyOf_15 : decode b_X14_bodyOf 15 = .ok (.iload_n 1, 1) := by decide +kernel
theorem d_X14_bodyOf_16 : decode b_X14_bodyOf 16 = .ok (.putfield 591, 3) := by decide +kernel
theorem d_X14_bodyOf_19 : decode b_X14_bodyOf 19 = .ok (.aload_n 0, 1) := by decide +kernel
theorem d_X14_bodyOf_20 : decode b_X14_bodyOf 20 = .ok (.iconst 0, 1) := by decide +kernel
theorem d_X14_bodyOf_21 : decode b_X14_bodyOf 21 = .ok (.putfield 573, 3) := by decide +kernel
theorem d_X14_bodyOf_24 : decode b_X14_bodyOf 24 = .ok (.aload_n 0, 1) := by decide +kernel
theorem d_X14_bodyOf_25 : decode b_X14_bodyOf 25 = .ok (.iconst (-1), 1) := by decide +kernel
theorem d_X14_bodyOf_26 : decode b_X14_bodyOf 26 = .ok (.putfield 558, 3) := by decide +kernel
theorem d_X14_bodyOf_29 : decode b_X14_bodyOf 29 = .ok (.aload_n 0, 1) := by decide +kernel
theorem d_X14_bodyOf_30 : decode b_X14_bodyOf 30 = .ok (.iconst (-1), 1) := by decide +kernel
theorem d_X14_bodyOf_31 : decode b_X14_bodyOf 31 = .ok (.putfield 576, 3) := by decide +kernel
theorem d_X14_bodyOf_34 : decode b_X14_bodyOf 34 = .ok (.aload_n 0, 1) := by decide +kernel
theorem d_X14_bodyOf_35 : decode b_X14_bodyOf 35 = .ok (.getfield 315, 3) := by decide +kernel
theorem d_X14_bodyOf_38 : decode b_X14_bodyOf 38 = .ok (.istore_n 2, 1) := by decide +kernel
theorem d_X14_bodyOf_39 : decode b_X14_bodyOf 39 = .ok (.aload_n 0, 1) := by decide +kernel
theorem d_X14_bodyOf_40 : decode b_X14_bodyOf 40 = .ok (.getfield 656, 3) := by decide +kernel
theorem d_X14_bodyOf_43 : decode b_X14_bodyOf 43 = .ok (.istore_n 3, 1) := by decide +kernel
theorem d_X14_bodyOf_44 : decode b_X14_bodyOf 44 = .ok (.aload_n 0, 1) := by decide +kernel
theorem d_X14_bodyOf_45 : decode b_X14_bodyOf 45 = .ok (.dup, 1) := by decide +kernel
theorem d_X14_bodyOf_46 : decode b_X14_bodyOf 46 = .ok (.getfield 288, 3) := by decide +kernel
theorem d_X14_bodyOf_49 : decode b_X14_bodyOf 49 = .ok (.iconst 1, 1) := by decide +kernel
theorem d_X14_bodyOf_50 : decode b_X14_bodyOf 50 = .ok (.iadd, 1) := by decide +kernel
theorem d_X14_bodyOf_51 : decode b_X14_bodyOf 51 = .ok (.putfield 288, 3) := by decide +kernel
theorem d_X14_bodyOf_54 : decode b_X14_bodyOf 54 = .ok (.aload_n 0, 1) := by decide +kernel
theorem d_X14_bodyOf_55 : decode b_X14_bodyOf 55 = .ok (.bipush 23, 2) := by decide +kernel
theorem d_X14_bodyOf_57 : decode b_X14_bodyOf 57 = .ok (.invokevirtual 308, 3) := by decide +kernel
theorem d_X14_bodyOf_60 : decode b_X14_bodyOf 60 = .ok (.ifCond .ne 11, 3) := by decide +kernel
theorem d_X14_bodyOf_63 : decode b_X14_bodyOf 63 = .ok (.aload_n 0, 1) := by decide +kernel
theorem d_X14_bodyOf_64 : decode b_X14_bodyOf 64 = .ok (.iconst 1, 1) := by decide +kernel
theorem d_X14_bodyOf_65 : decode b_X14_bodyOf 65 = .ok (.invokevirtual 536, 3) := by decide +kernel
theorem d_X14_bodyOf_68 : decode b_X14_bodyOf 68 = .ok (.goto (-14), 3) := by decide +kernel
theorem d_X14_bodyOf_71 : decode b_X14_bodyOf 71 = .ok (.aload_n 0, 1) := by decide +kernel
theorem d_X14_bodyOf_72 : decode b_X14_bodyOf 72 = .ok (.dup, 1) := by decide +kernel
theorem d_X14_bodyOf_73 : decode b_X14_bodyOf 73 = .ok (.getfield 288, 3) := by decide +kernel
theorem d_X14_bodyOf_76 : decode b_X14_bodyOf 76 = .ok (.iconst 1, 1) := by decide +kernel
theorem d_X14_bodyOf_77 : decode b_X14_bodyOf 77 = .ok (.iadd, 1) := by decide +kernel
theorem d_X14_bodyOf_78 : decode b_X14_bodyOf 78 = .ok (.putfield 288, 3) := by decide +kernel
theorem d_X14_bodyOf_81 : decode b_X14_bodyOf 81 = .ok (.aload_n 0, 1) := by decide +kernel
theorem d_X14_bodyOf_82 : decode b_X14_bodyOf 82 = .ok (.getfield 588, 3) := by decide +kernel
theorem d_X14_bodyOf_85 : decode b_X14_bodyOf 85 = .ok (.ifCond .eq 12, 3) := by decide +kernel
theorem d_X14_bodyOf_88 : decode b_X14_bodyOf 88 = .ok (.aload_n 0, 1) := by decide +kernel
theorem d_X14_bodyOf_89 : decode b_X14_bodyOf 89 = .ok (.bipush 20, 2) := by decide +kernel
theorem d_X14_bodyOf_91 : decode b_X14_bodyOf 91 = .ok (.invokevirtual 318, 3) := by decide +kernel
theorem d_X14_bodyOf_94 : decode b_X14_bodyOf 94 = .ok (.goto 15, 3) := by decide +kernel
theorem d_X14_bodyOf_97 : decode b_X14_bodyOf 97 = .ok (.aload_n 0, 1) := by decide +kernel
theorem d_X14_bodyOf_98 : decode b_X14_bodyOf 98 = .ok (.iconst 0, 1) := by decide +kernel
theorem d_X14_bodyOf_99 : decode b_X14_bodyOf 99 = .ok (.iconst 0, 1) := by decide +kernel
theorem d_X14_bodyOf_100 : decode b_X14_bodyOf 100 = .ok (.invokevirtual 322, 3) := by decide +kernel
theorem d_X14_bodyOf_103 : decode b_X14_bodyOf 103 = .ok (.aload_n 0, 1) := by decide +kernel
theorem d_X14_bodyOf_104 : decode b_X14_bodyOf 104 = .ok (.bipush 21, 2) := by decide +kernel
theorem d_X14_bodyOf_106 : decode b_X14_bodyOf 106 = .ok (.invokevirtual 318, 3) := by decide +kernel
theorem d_X14_bodyOf_109 : decode b_X14_bodyOf 109 = .ok (.aload_n 0, 1) := by decide +kernel
theorem d_X14_bodyOf_110 : decode b_X14_bodyOf 110 = .ok (.iconst 0, 1) := by decide +kernel
theorem d_X14_bodyOf_111 : decode b_X14_bodyOf 111 = .ok (.putfield 340, 3) := by decide +kernel
theorem d_X14_bodyOf_114 : decode b_X14_bodyOf 114 = .ok (.iload_n 3, 1) := by decide +kernel
theorem d_X14_bodyOf_115 : decode b_X14_bodyOf 115 = .ok (.sipush 10000, 3) := by decide +kernel
theorem d_X14_bodyOf_118 : decode b_X14_bodyOf 118 = .ok (.if_icmp .ne 4, 3) := by decide +kernel
theorem d_X14_bodyOf_121 : decode b_X14_bodyOf 121 = .ok (.return_, 1) := by decide +kernel
theorem d_X14_bodyOf_122 : decode b_X14_bodyOf 122 = .ok (.aload_n 0, 1) := by decide +kernel
theorem d_X14_bodyOf_123 : decode b_X14_bodyOf 123 = .ok (.getfield 99, 3) := by decide +kernel
theorem d_X14_bodyOf_126 : decode b_X14_bodyOf 126 = .ok (.iload_n 3, 1) := by decide +kernel
theorem d_X14_bodyOf_127 : decode b_X14_bodyOf 127 = .ok (.iload_n 2, 1) := by decide +kernel
theorem d_X14_bodyOf_128 : decode b_X14_bodyOf 128 = .ok (.iastore, 1) := by decide +kernel
theorem d_X14_bodyOf_129 : decode b_X14_bodyOf 129 = .ok (.aload_n 0, 1) := by decide +kernel
theorem d_X14_bodyOf_130 : decode b_X14_bodyOf 130 = .ok (.getfield 102, 3) := by decide +kernel
theorem d_X14_bodyOf_133 : decode b_X14_bodyOf 133 = .ok (.iload_n 3, 1) := by decide +kernel
theorem d_X14_bodyOf_134 : decode b_X14_bodyOf 134 = .ok (.aload_n 0, 1) := by decide +kernel
theorem d_X14_bodyOf_135 : decode b_X14_bodyOf 135 = .ok (.getfield 327, 3) := by decide +kernel
theorem d_X14_bodyOf_138 : decode b_X14_bodyOf 138 = .ok (.iastore, 1) := by decide +kernel
theorem d_X14_bodyOf_139 : decode b_X14_bodyOf 139 = .ok (.aload_n 0, 1) := by decide +kernel
theorem d_X14_bodyOf_140 : decode b_X14_bodyOf 140 = .ok (.getfield 105, 3) := by decide +kernel
theorem d_X14_bodyOf_143 : decode b_X14_bodyOf 143 = .ok (.iload_n 3, 1) := by decide +kernel
theorem d_X14_bodyOf_144 : decode b_X14_bodyOf 144 = .ok (.aload_n 0, 1) := by decide +kernel
theorem d_X14_bodyOf_145 : decode b_X14_bodyOf 145 = .ok (.getfield 349, 3) := by decide +kernel
theorem d_X14_bodyOf_148 : decode b_X14_bodyOf 148 = .ok (.iastore, 1) := by decide +kernel
theorem d_X14_bodyOf_149 : decode b_X14_bodyOf 149 = .ok (.aload_n 0, 1) := by decide +kernel
theorem d_X14_bodyOf_150 : decode b_X14_bodyOf 150 = .ok (.getfield 108, 3) := by decide +kernel
theorem d_X14_bodyOf_153 : decode b_X14_bodyOf 153 = .ok (.iload_n 3, 1) := by decide +kernel
theorem d_X14_bodyOf_154 : decode b_X14_bodyOf 154 = .ok (.aload_n 0, 1) := by decide +kernel
theorem d_X14_bodyOf_155 : decode b_X14_bodyOf 155 = .ok (.getfield 315, 3) := by decide +kernel
theorem d_X14_bodyOf_158 : decode b_X14_bodyOf 158 = .ok (.iastore, 1) := by decide +kernel
theorem d_X14_bodyOf_159 : decode b_X14_bodyOf 159 = .ok (.iconst 0, 1) := by decide +kernel
theorem d_X14_bodyOf_160 : decode b_X14_bodyOf 160 = .ok (.istore 4, 2) := by decide +kernel
theorem d_X14_bodyOf_162 : decode b_X14_bodyOf 162 = .ok (.iconst 0, 1) := by decide +kernel
theorem d_X14_bodyOf_163 : decode b_X14_bodyOf 163 = .ok (.istore 5, 2) := by decide +kernel
theorem d_X14_bodyOf_165 : decode b_X14_bodyOf 165 = .ok (.iload 5, 2) := by decide +kernel
theorem d_X14_bodyOf_167 : decode b_X14_bodyOf 167 = .ok (.aload_n 0, 1) := by decide +kernel
theorem d_X14_bodyOf_168 : decode b_X14_bodyOf 168 = .ok (.getfield 349, 3) := by decide +kernel
theorem d_X14_bodyOf_171 : decode b_X14_bodyOf 171 = .ok (.if_icmp .ge 83, 3) := by decide +kernel
theorem d_X14_bodyOf_174 : decode b_X14_bodyOf 174 = .ok (.aload_n 0, 1) := by decide +kernel
theorem d_X14_bodyOf_175 : decode b_X14_bodyOf 175 = .ok (.getfield 120, 3) := by decide +kernel
theorem d_X14_bodyOf_178 : decode b_X14_bodyOf 178 = .ok (.iload 5, 2) := by decide +kernel
theorem d_X14_bodyOf_180 : decode b_X14_bodyOf 180 = .ok (.baload, 1) := by decide +kernel
theorem d_X14_bodyOf_181 : decode b_X14_bodyOf 181 = .ok (.ifCond .ne 13, 3) := by decide +kernel
theorem d_X14_bodyOf_184 : decode b_X14_bodyOf 184 = .ok (.aload_n 0, 1) := by decide +kernel
theorem d_X14_bodyOf_185 : decode b_X14_bodyOf 185 = .ok (.getfield 117, 3) := by decide +kernel
theorem d_X14_bodyOf_188 : decode b_X14_bodyOf 188 = .ok (.iload 5, 2) := by decide +kernel
theorem d_X14_bodyOf_190 : decode b_X14_bodyOf 190 = .ok (.iaload, 1) := by decide +kernel
theorem d_X14_bodyOf_191 : decode b_X14_bodyOf 191 = .ok (.ifCond .lt 7, 3) := by decide +kernel
theorem d_X14_bodyOf_194 : decode b_X14_bodyOf 194 = .ok (.iconst 1, 1) := by decide +kernel
theorem d_X14_bodyOf_195 : decode b_X14_bodyOf 195 = .ok (.goto 4, 3) := by decide +kernel
theorem d_X14_bodyOf_198 : decode b_X14_bodyOf 198 = .ok (.iconst 0, 1) := by decide +kernel
theorem d_X14_bodyOf_199 : decode b_X14_bodyOf 199 = .ok (.istore 6, 2) := by decide +kernel
theorem d_X14_bodyOf_201 : decode b_X14_bodyOf 201 = .ok (.aload_n 0, 1) := by decide +kernel
theorem d_X14_bodyOf_202 : decode b_X14_bodyOf 202 = .ok (.iload 6, 2) := by decide +kernel
theorem d_X14_bodyOf_204 : decode b_X14_bodyOf 204 = .ok (.ifCond .eq 8, 3) := by decide +kernel
theorem d_X14_bodyOf_207 : decode b_X14_bodyOf 207 = .ok (.iload 4, 2) := by decide +kernel
theorem d_X14_bodyOf_209 : decode b_X14_bodyOf 209 = .ok (.goto 4, 3) := by decide +kernel
theorem d_X14_bodyOf_212 : decode b_X14_bodyOf 212 = .ok (.iconst (-1), 1) := by decide +kernel
theorem d_X14_bodyOf_213 : decode b_X14_bodyOf 213 = .ok (.aload_n 0, 1) := by decide +kernel
theorem d_X14_bodyOf_214 : decode b_X14_bodyOf 214 = .ok (.getfield 117, 3) := by decide +kernel
theorem d_X14_bodyOf_217 : decode b_X14_bodyOf 217 = .ok (.iload 5, 2) := by decide +kernel
theorem d_X14_bodyOf_219 : decode b_X14_bodyOf 219 = .ok (.iaload, 1) := by decide +kernel
theorem d_X14_bodyOf_220 : decode b_X14_bodyOf 220 = .ok (.iconst 0, 1) := by decide +kernel
theorem d_X14_bodyOf_221 : decode b_X14_bodyOf 221 = .ok (.invokestatic 374, 3) := by decide +kernel
theorem d_X14_bodyOf_224 : decode b_X14_bodyOf 224 = .ok (.invokevirtual 322, 3) := by decide +kernel
theorem d_X14_bodyOf_227 : decode b_X14_bodyOf 227 = .ok (.iload 6, 2) := by decide +kernel
theorem d_X14_bodyOf_229 : decode b_X14_bodyOf 229 = .ok (.ifCond .eq 19, 3) := by decide +kernel
theorem d_X14_bodyOf_232 : decode b_X14_bodyOf 232 = .ok (.iload 4, 2) := by decide +kernel
theorem d_X14_bodyOf_234 : decode b_X14_bodyOf 234 = .ok (.aload_n 0, 1) := by decide +kernel
theorem d_X14_bodyOf_235 : decode b_X14_bodyOf 235 = .ok (.getfield 117, 3) := by decide +kernel
theorem d_X14_bodyOf_238 : decode b_X14_bodyOf 238 = .ok (.iload 5, 2) := by decide +kernel
theorem d_X14_bodyOf_240 : decode b_X14_bodyOf 240 = .ok (.iaload, 1) := by decide +kernel
theorem d_X14_bodyOf_241 : decode b_X14_bodyOf 241 = .ok (.iconst 1, 1) := by decide +kernel
theorem d_X14_bodyOf_242 : decode b_X14_bodyOf 242 = .ok (.invokestatic 374, 3) := by decide +kernel
theorem d_X14_bodyOf_245 : decode b_X14_bodyOf 245 = .ok (.iadd, 1) := by decide +kernel
theorem d_X14_bodyOf_246 : decode b_X14_bodyOf 246 = .ok (.istore 4, 2) := by decide +kernel
theorem d_X14_bodyOf_248 : decode b_X14_bodyOf 248 = .ok (.iinc 5 1, 3) := by decide +kernel
theorem d_X14_bodyOf_251 : decode b_X14_bodyOf 251 = .ok (.goto (-86), 3) := by decide +kernel
theorem d_X14_bodyOf_254 : decode b_X14_bodyOf 254 = .ok (.aload_n 0, 1) := by decide +kernel
theorem d_X14_bodyOf_255 : decode b_X14_bodyOf 255 = .ok (.getfield 111, 3) := by decide +kernel
theorem d_X14_bodyOf_258 : decode b_X14_bodyOf 258 = .ok (.iload_n 3, 1) := by decide +kernel
theorem d_X14_bodyOf_259 : decode b_X14_bodyOf 259 = .ok (.iload 4, 2) := by decide +kernel
theorem d_X14_bodyOf_261 : decode b_X14_bodyOf 261 = .ok (.iastore, 1) := by decide +kernel
theorem d_X14_bodyOf_262 : decode b_X14_bodyOf 262 = .ok (.aload_n 0, 1) := by decide +kernel
theorem d_X14_bodyOf_263 : decode b_X14_bodyOf 263 = .ok (.getfield 194, 3) := by decide +kernel
theorem d_X14_bodyOf_266 : decode b_X14_bodyOf 266 = .ok (.iload_n 3, 1) := by decide +kernel
theorem d_X14_bodyOf_267 : decode b_X14_bodyOf 267 = .ok (.aload_n 0, 1) := by decide +kernel
theorem d_X14_bodyOf_268 : decode b_X14_bodyOf 268 = .ok (.getfield 659, 3) := by decide +kernel
theorem d_X14_bodyOf_271 : decode b_X14_bodyOf 271 = .ok (.iastore, 1) := by decide +kernel
theorem d_X14_bodyOf_272 : decode b_X14_bodyOf 272 = .ok (.aload_n 0, 1) := by decide +kernel
theorem d_X14_bodyOf_273 : decode b_X14_bodyOf 273 = .ok (.iload_n 3, 1) := by decide +kernel
theorem d_X14_bodyOf_274 : decode b_X14_bodyOf 274 = .ok (.iconst 1, 1) := by decide +kernel
theorem d_X14_bodyOf_275 : decode b_X14_bodyOf 275 = .ok (.iadd, 1) := by decide +kernel
theorem d_X14_bodyOf_276 : decode b_X14_bodyOf 276 = .ok (.putfield 656, 3) := by decide +kernel
theorem d_X14_bodyOf_279 : decode b_X14_bodyOf 279 = .ok (.return_, 1) := by decide +kernel
theorem d_X14_braces_0 : decode b_X14_braces 0 = .ok (.aload_n 0, 1) := by decide +kernel
theorem d_X14_braces_1 : decode b_X14_braces 1 = .ok (.bipush 22, 2) := by decide +kernel
theorem d_X14_braces_3 : decode b_X14_braces 3 = .ok (.invokevirtual 497, 3) := by decide +kernel
theorem d_X14_braces_6 : decode b_X14_braces 6 = .ok (.iconst 1, 1) := by decide +kernel
theorem d_X14_braces_7 : decode b_X14_braces 7 = .ok (.istore 6, 2) := by decide +kernel
theorem d_X14_braces_9 : decode b_X14_braces 9 = .ok (.iload_n 3, 1) := by decide +kernel
theorem d_X14_braces_10 : decode b_X14_braces 10 = .ok (.istore 7, 2) := by decide +kernel
theorem d_X14_braces_12 : decode b_X14_braces 12 = .ok (.iload 5, 2) := by decide +kernel
theorem d_X14_braces_14 : decode b_X14_braces 14 = .ok (.ifCond .eq 79, 3) := by decide +kernel
theorem d_X14_braces_17 : decode b_X14_braces 17 = .ok (.iload 4, 2) := by decide +kernel
theorem d_X14_braces_19 : decode b_X14_braces 19 = .ok (.ifCond .lt 26, 3) := by decide +kernel
theorem d_X14_braces_22 : decode b_X14_braces 22 = .ok (.aload_n 0, 1) := by decide +kernel
theorem d_X14_braces_23 : decode b_X14_braces 23 = .ok (.iconst 4, 1) := by decide +kernel
theorem d_X14_braces_24 : decode b_X14_braces 24 = .ok (.iload 4, 2) := by decide +kernel
theorem d_X14_braces_26 : decode b_X14_braces 26 = .ok (.invokevirtual 322, 3) := by decide +kernel
theorem d_X14_braces_29 : decode b_X14_braces 29 = .ok (.aload_n 0, 1) := by decide +kernel
theorem d_X14_braces_30 : decode b_X14_braces 30 = .ok (.iconst 0, 1) := by decide +kernel
theorem d_X14_braces_31 : decode b_X14_braces 31 = .ok (.iload 7, 2) := by decide +kernel
theorem d_X14_braces_33 : decode b_X14_braces 33 = .ok (.invokevirtual 322, 3) := by decide +kernel
theorem d_X14_braces_36 : decode b_X14_braces 36 = .ok (.aload_n 0, 1) := by decide +kernel
theorem d_X14_braces_37 : decode b_X14_braces 37 = .ok (.bipush 11, 2) := by decide +kernel
theorem d_X14_braces_39 : decode b_X14_braces 39 = .ok (.bipush 36, 2) := by decide +kernel
theorem d_X14_braces_41 : decode b_X14_braces 41 = .ok (.iconst 0, 1) := by decide +kernel
theorem d_X14_braces_42 : decode b_X14_braces 42 = .ok (.invokevirtual 418, 3) := by decide +kernel
theorem d_X14_braces_45 : decode b_X14_braces 45 = .ok (.aload_n 0, 1) := by decide +kernel
theorem d_X14_braces_46 : decode b_X14_braces 46 = .ok (.iload_n 2, 1) := by decide +kernel
theorem d_X14_braces_47 : decode b_X14_braces 47 = .ok (.iconst (-1), 1) := by decide +kernel
theorem d_X14_braces_48 : decode b_X14_braces 48 = .ok (.iconst (-1), 1) := by decide +kernel
theorem d_X14_braces_49 : decode b_X14_braces 49 = .ok (.iconst 1, 1) := by decide +kernel
theorem d_X14_braces_50 : decode b_X14_braces 50 = .ok (.invokevirtual 638, 3) := by decide +kernel
theorem d_X14_braces_53 : decode b_X14_braces 53 = .ok (.istore 8, 2) := by decide +kernel
theorem d_X14_braces_55 : decode b_X14_braces 55 = .ok (.iload 6, 2) := by decide +kernel
theorem d_X14_braces_57 : decode b_X14_braces 57 = .ok (.ifCond .eq 12, 3) := by decide +kernel
theorem d_X14_braces_60 : decode b_X14_braces 60 = .ok (.iload 8, 2) := by decide +kernel
theorem d_X14_braces_62 : decode b_X14_braces 62 = .ok (.ifCond .eq 7, 3) := by decide +kernel
theorem d_X14_braces_65 : decode b_X14_braces 65 = .ok (.iconst 1, 1) := by decide +kernel
theorem d_X14_braces_66 : decode b_X14_braces 66 = .ok (.goto 4, 3) := by decide +kernel
theorem d_X14_braces_69 : decode b_X14_braces 69 = .ok (.iconst 0, 1) := by decide +kernel
theorem d_X14_braces_70 : decode b_X14_braces 70 = .ok (.istore 6, 2) := by decide +kernel
theorem d_X14_braces_72 : decode b_X14_braces 72 = .ok (.iload 4, 2) := by decide +kernel
theorem d_X14_braces_74 : decode b_X14_braces 74 = .ok (.ifCond .lt 16, 3) := by decide +kernel
theorem d_X14_braces_77 : decode b_X14_braces 77 = .ok (.aload_n 0, 1) := by decide +kernel
theorem d_X14_braces_78 : decode b_X14_braces 78 = .ok (.bipush 6, 2) := by decide +kernel
theorem d_X14_braces_80 : decode b_X14_braces 80 = .ok (.iconst 0, 1) := by decide +kernel
theorem d_X14_braces_81 : decode b_X14_braces 81 = .ok (.invokevirtual 322, 3) := by decide +kernel
theorem d_X14_braces_84 : decode b_X14_braces 84 = .ok (.aload_n 0, 1) := by decide +kernel
theorem d_X14_braces_85 : decode b_X14_braces 85 = .ok (.bipush 10, 2) := by decide +kernel
theorem d_X14_braces_87 : decode b_X14_braces 87 = .ok (.invokevirtual 318, 3) := by decide +kernel
theorem d_X14_braces_90 : decode b_X14_braces 90 = .ok (.goto 49, 3) := by decide +kernel
theorem d_X14_braces_93 : decode b_X14_braces 93 = .ok (.aload_n 0, 1) := by decide +kernel
theorem d_X14_braces_94 : decode b_X14_braces 94 = .ok (.iload_n 2, 1) := by decide +kernel
theorem d_X14_braces_95 : decode b_X14_braces 95 = .ok (.iload 4, 2) := by decide +kernel
theorem d_X14_braces_97 : decode b_X14_braces 97 = .ok (.ifCond .ge 7, 3) := by decide +kernel
theorem d_X14_braces_100 : decode b_X14_braces 100 = .ok (.iconst 0, 1) := by decide +kernel
theorem d_X14_braces_101 : decode b_X14_braces 101 = .ok (.goto 13, 3) := by decide +kernel
theorem d_X14_braces_104 : decode b_X14_braces 104 = .ok (.aload_n 0, 1) := by decide +kernel
theorem d_X14_braces_105 : decode b_X14_braces 105 = .ok (.getfield 70, 3) := by decide +kernel
theorem d_X14_braces_108 : decode b_X14_braces 108 = .ok (.iload 4, 2) := by decide +kernel
theorem d_X14_braces_110 : decode b_X14_braces 110 = .ok (.iaload, 1) := by decide +kernel
theorem d_X14_braces_111 : decode b_X14_braces 111 = .ok (.iload 7, 2) := by decide +kernel
theorem d_X14_braces_113 : decode b_X14_braces 113 = .ok (.iadd, 1) := by decide +kernel
theorem d_X14_braces_114 : decode b_X14_braces 114 = .ok (.iload 4, 2) := by decide +kernel
theorem d_X14_braces_116 : decode b_X14_braces 116 = .ok (.iconst 0, 1) := by decide +kernel
theorem d_X14_braces_117 : decode b_X14_braces 117 = .ok (.invokevirtual 638, 3) := by decide +kernel
theorem d_X14_braces_120 : decode b_X14_braces 120 = .ok (.istore 8, 2) := by decide +kernel
theorem d_X14_braces_122 : decode b_X14_braces 122 = .ok (.iload 6, 2) := by decide +kernel
theorem d_X14_braces_124 : decode b_X14_braces 124 = .ok (.ifCond .eq 12, 3) := by decide +kernel
theorem d_X14_braces_127 : decode b_X14_braces 127 = .ok (.iload 8, 2) := by decide +kernel
theorem d_X14_braces_129 : decode b_X14_braces 129 = .ok (.ifCond .eq 7, 3) := by decide +kernel
theorem d_X14_braces_132 : decode b_X14_braces 132 = .ok (.iconst 1, 1) := by decide +kernel
theorem d_X14_braces_133 : decode b_X14_braces 133 = .ok (.goto 4, 3) := by decide +kernel
theorem d_X14_braces_136 : decode b_X14_braces 136 = .ok (.iconst 0, 1) := by decide +kernel
theorem d_X14_braces_137 : decode b_X14_braces 137 = .ok (.istore 6, 2) := by decide +kernel
theorem d_X14_braces_139 : decode b_X14_braces 139 = .ok (.iinc 7 1, 3) := by decide +kernel
theorem d_X14_braces_142 : decode b_X14_braces 142 = .ok (.aload_n 0, 1) := by decide +kernel
theorem d_X14_braces_143 : decode b_X14_braces 143 = .ok (.bipush 26, 2) := by decide +kernel
theorem d_X14_braces_145 : decode b_X14_braces 145 = .ok (.invokevirtual 530, 3) := by decide +kernel
theorem d_X14_braces_148 : decode b_X14_braces 148 = .ok (.ifCond .ne (-136), 3) := by decide +kernel
theorem d_X14_braces_151 : decode b_X14_braces 151 = .ok (.aload_n 0, 1) := by decide +kernel
theorem d_X14_braces_152 : decode b_X14_braces 152 = .ok (.bipush 23, 2) := by decide +kernel
theorem d_X14_braces_154 : decode b_X14_braces 154 = .ok (.invokevirtual 497, 3) := by decide +kernel
theorem d_X14_braces_157 : decode b_X14_braces 157 = .ok (.iload 6, 2) := by decide +kernel
theorem d_X14_braces_159 : decode b_X14_braces 159 = .ok (.ifCond .eq 13, 3) := by decide +kernel
theorem d_X14_braces_162 : decode b_X14_braces 162 = .ok (.iload 7, 2) := by decide +kernel
theorem d_X14_braces_164 : decode b_X14_braces 164 = .ok (.iload_n 1, 1) := by decide +kernel
theorem d_X14_braces_165 : decode b_X14_braces 165 = .ok (.if_icmp .gt 7, 3) := by decide +kernel
theorem d_X14_braces_168 : decode b_X14_braces 168 = .ok (.iconst 1, 1) := by decide +kernel
theorem d_X14_braces_169 : decode b_X14_braces 169 = .ok (.goto 4, 3) := by decide +kernel
theorem d_X14_braces_172 : decode b_X14_braces 172 = .ok (.iconst 0, 1) := by decide +kernel
theorem d_X14_braces_173 : decode b_X14_braces 173 = .ok (.ireturn, 1) := by decide +kernel
theorem d_X14_call_0_0 : decode b_X14_call_0 0 = .ok (.aload_n 0, 1) := by decide +kernel
theorem d_X14_call_0_1 : decode b_X14_call_0 1 = .ok (.iload_n 1, 1) := by decide +kernel
theorem d_X14_call_0_2 : decode b_X14_call_0 2 = .ok (.invokevirtual 524, 3) := by decide +kernel
theorem d_X14_call_0_5 : decode b_X14_call_0 5 = .ok (.ifCond .lt 7, 3) := by decide +kernel
theorem d_X14_call_0_8 : decode b_X14_call_0 8 = .ok (.iconst (-1), 1) := by decide +kernel
theorem d_X14_call_0_9 : decode b_X14_call_0 9 = .ok (.goto 8, 3) := by decide +kernel
theorem d_X14_call_0_12 : decode b_X14_call_0 12 = .ok (.aload_n 0, 1) := by decide +kernel
theorem d_X14_call_0_13 : decode b_X14_call_0 13 = .ok (.iload_n 1, 1) := by decide +kernel
theorem d_X14_call_0_14 : decode b_X14_call_0 14 = .ok (.invokevirtual 527, 3) := by decide +kernel
theorem d_X14_call_0_17 : decode b_X14_call_0 17 = .ok (.istore_n 3, 1) := by decide +kernel
theorem d_X14_call_0_18 : decode b_X14_call_0 18 = .ok (.iload_n 3, 1) := by decide +kernel
theorem d_X14_call_0_19 : decode b_X14_call_0 19 = .ok (.ifCond .lt 17, 3) := by decide +kernel
theorem d_X14_call_0_22 : decode b_X14_call_0 22 = .ok (.aload_n 0, 1) := by decide +kernel
theorem d_X14_call_0_23 : decode b_X14_call_0 23 = .ok (.getfield 44, 3) := by decide +kernel
theorem d_X14_call_0_26 : decode b_X14_call_0 26 = .ok (.iload_n 3, 1) := by decide +kernel
theorem d_X14_call_0_27 : decode b_X14_call_0 27 = .ok (.iaload, 1) := by decide +kernel
theorem d_X14_call_0_28 : decode b_X14_call_0 28 = .ok (.iconst 2, 1) := by decide +kernel
theorem d_X14_call_0_29 : decode b_X14_call_0 29 = .ok (.if_icmp .ne 7, 3) := by decide +kernel
theorem d_X14_call_0_32 : decode b_X14_call_0 32 = .ok (.iconst 1, 1) := by decide +kernel
theorem d_X14_call_0_33 : decode b_X14_call_0 33 = .ok (.goto 4, 3) := by decide +kernel
theorem d_X14_call_0_36 : decode b_X14_call_0 36 = .ok (.iconst 0, 1) := by decide +kernel
theorem d_X14_call_0_37 : decode b_X14_call_0 37 = .ok (.istore 4, 2) := by decide +kernel
theorem d_X14_call_0_39 : decode b_X14_call_0 39 = .ok (.aload_n 0, 1) := by decide +kernel
theorem d_X14_call_0_40 : decode b_X14_call_0 40 = .ok (.iload 4, 2) := by decide +kernel
theorem d_X14_call_0_42 : decode b_X14_call_0 42 = .ok (.iload_n 1, 1) := by decide +kernel
theorem d_X14_call_0_43 : decode b_X14_call_0 43 = .ok (.invokevirtual 410, 3) := by decide +kernel
theorem d_X14_call_0_46 : decode b_X14_call_0 46 = .ok (.iload 4, 2) := by decide +kernel
theorem d_X14_call_0_48 : decode b_X14_call_0 48 = .ok (.ifCond .eq 10, 3) := by decide +kernel
theorem d_X14_call_0_51 : decode b_X14_call_0 51 = .ok (.aload_n 0, 1) := by decide +kernel
theorem d_X14_call_0_52 : decode b_X14_call_0 52 = .ok (.getfield 60, 3) := by decide +kernel
theorem d_X14_call_0_55 : decode b_X14_call_0 55 = .ok (.iload_n 3, 1) := by decide +kernel
theorem d_X14_call_0_56 : decode b_X14_call_0 56 = .ok (.iconst 1, 1) := by decide +kernel
theorem d_X14_call_0_57 : decode b_X14_call_0 57 = .ok (.bastore, 1) := by decide +kernel
theorem d_X14_call_0_58 : decode b_X14_call_0 58 = .ok (.iload 4, 2) := by decide +kernel
theorem d_X14_call_0_60 : decode b_X14_call_0 60 = .ok (.ifCond .eq 39, 3) := by decide +kernel
theorem d_X14_call_0_63 : decode b_X14_call_0 63 = .ok (.aload_n 0, 1) := by decide +kernel
theorem d_X14_call_0_64 : decode b_X14_call_0 64 = .ok (.getfield 83, 3) := by decide +kernel
theorem d_X14_call_0_67 : decode b_X14_call_0 67 = .ok (.iload_n 3, 1) := by decide +kernel
theorem d_X14_call_0_68 : decode b_X14_call_0 68 = .ok (.aload_n 0, 1) := by decide +kernel
theorem d_X14_call_0_69 : decode b_X14_call_0 69 = .ok (.getfield 86, 3) := by decide +kernel
theorem d_X14_call_0_72 : decode b_X14_call_0 72 = .ok (.aload_n 0, 1) := by decide +kernel
theorem d_X14_call_0_73 : decode b_X14_call_0 73 = .ok (.getfield 327, 3) := by decide +kernel
theorem d_X14_call_0_76 : decode b_X14_call_0 76 = .ok (.iaload, 1) := by decide +kernel
theorem d_X14_call_0_77 : decode b_X14_call_0 77 = .ok (.isub, 1) := by decide +kernel
theorem d_X14_call_0_78 : decode b_X14_call_0 78 = .ok (.iaload, 1) := by decide +kernel
theorem d_X14_call_0_79 : decode b_X14_call_0 79 = .ok (.ifCond .ge 20, 3) := by decide +kernel
theorem d_X14_call_0_82 : decode b_X14_call_0 82 = .ok (.aload_n 0, 1) := by decide +kernel
theorem d_X14_call_0_83 : decode b_X14_call_0 83 = .ok (.getfield 83, 3) := by decide +kernel
theorem d_X14_call_0_86 : decode b_X14_call_0 86 = .ok (.iload_n 3, 1) := by decide +kernel
theorem d_X14_call_0_87 : decode b_X14_call_0 87 = .ok (.aload_n 0, 1) := by decide +kernel
theorem d_X14_call_0_88 : decode b_X14_call_0 88 = .ok (.getfield 86, 3) := by decide +kernel
theorem d_X14_call_0_91 : decode b_X14_call_0 91 = .ok (.aload_n 0, 1) := by decide +kernel
theorem d_X14_call_0_92 : decode b_X14_call_0 92 = .ok (.getfield 327, 3) := by decide +kernel
theorem d_X14_call_0_95 : decode b_X14_call_0 95 = .ok (.iaload, 1) := by decide +kernel
theorem d_X14_call_0_96 : decode b_X14_call_0 96 = .ok (.isub, 1) := by decide +kernel
theorem d_X14_call_0_97 : decode b_X14_call_0 97 = .ok (.iload_n 1, 1) := by decide +kernel
theorem d_X14_call_0_98 : decode b_X14_call_0 98 = .ok (.iastore, 1) := by decide +kernel
theorem d_X14_call_0_99 : decode b_X14_call_0 99 = .ok (.aload_n 0, 1) := by decide +kernel
theorem d_X14_call_0_100 : decode b_X14_call_0 100 = .ok (.iload_n 2, 1) := by decide +kernel
theorem d_X14_call_0_101 : decode b_X14_call_0 101 = .ok (.invokevirtual 389, 3) := by decide +kernel
theorem d_X14_call_0_104 : decode b_X14_call_0 104 = .ok (.istore 5, 2) := by decide +kernel
theorem d_X14_call_0_106 : decode b_X14_call_0 106 = .ok (.aload_n 0, 1) := by decide +kernel
theorem d_X14_call_0_107 : decode b_X14_call_0 107 = .ok (.dup, 1) := by decide +kernel
theorem d_X14_call_0_108 : decode b_X14_call_0 108 = .ok (.getfield 288, 3) := by decide +kernel
theorem d_X14_call_0_111 : decode b_X14_call_0 111 = .ok (.iconst 1, 1) := by decide +kernel
theorem d_X14_call_0_112 : decode b_X14_call_0 112 = .ok (.iadd, 1) := by decide +kernel
theorem d_X14_call_0_113 : decode b_X14_call_0 113 = .ok (.putfield 288, 3) := by decide +kernel
theorem d_X14_call_0_116 : decode b_X14_call_0 116 = .ok (.iconst 0, 1) := by decide +kernel
theorem d_X14_call_0_117 : decode b_X14_call_0 117 = .ok (.istore 6, 2) := by decide +kernel
theorem d_X14_call_0_119 : decode b_X14_call_0 119 = .ok (.iconst 0, 1) := by decide +kernel
theorem d_X14_call_0_120 : decode b_X14_call_0 120 = .ok (.istore 7, 2) := by decide +kernel
theorem d_X14_call_0_122 : decode b_X14_call_0 122 = .ok (.iconst 1, 1) := by decide +kernel
theorem d_X14_call_0_123 : decode b_X14_call_0 123 = .ok (.istore 8, 2) := by decide +kernel
theorem d_X14_call_0_125 : decode b_X14_call_0 125 = .ok (.aload_n 0, 1) := by decide +kernel
theorem d_X14_call_0_126 : decode b_X14_call_0 126 = .ok (.bipush 21, 2) := by decide +kernel
theorem d_X14_call_0_128 : decode b_X14_call_0 128 = .ok (.invokevirtual 308, 3) := by decide +kernel
theorem d_X14_call_0_131 : decode b_X14_call_0 131 = .ok (.ifCond .ne 89, 3) := by decide +kernel
theorem d_X14_call_0_134 : decode b_X14_call_0 134 = .ok (.aload_n 0, 1) := by decide +kernel
theorem d_X14_call_0_135 : decode b_X14_call_0 135 = .ok (.iload 5, 2) := by decide +kernel
theorem d_X14_call_0_137 : decode b_X14_call_0 137 = .ok (.invokevirtual 395, 3) := by decide +kernel
theorem d_X14_call_0_140 : decode b_X14_call_0 140 = .ok (.astore 9, 2) := by decide +kernel
theorem d_X14_call_0_142 : decode b_X14_call_0 142 = .ok (.aload_n 0, 1) := by decide +kernel
theorem d_X14_call_0_143 : decode b_X14_call_0 143 = .ok (.aload 9, 2) := by decide +kernel
theorem d_X14_call_0_145 : decode b_X14_call_0 145 = .ok (.invokevirtual 398, 3) := by decide +kernel
theorem d_X14_call_0_148 : decode b_X14_call_0 148 = .ok (.iload 8, 2) := by decide +kernel
theorem d_X14_call_0_150 : decode b_X14_call_0 150 = .ok (.ifCond .eq 43, 3) := by decide +kernel
theorem d_X14_call_0_153 : decode b_X14_call_0 153 = .ok (.iload 4, 2) := by decide +kernel
theorem d_X14_call_0_155 : decode b_X14_call_0 155 = .ok (.ifCond .eq 38, 3) := by decide +kernel
theorem d_X14_call_0_158 : decode b_X14_call_0 158 = .ok (.iload 6, 2) := by decide +kernel
theorem d_X14_call_0_160 : decode b_X14_call_0 160 = .ok (.aload_n 0, 1) := by decide +kernel
theorem d_X14_call_0_161 : decode b_X14_call_0 161 = .ok (.getfield 63, 3) := by decide +kernel
theorem d_X14_call_0_164 : decode b_X14_call_0 164 = .ok (.iload_n 3, 1) := by decide +kernel
theorem d_X14_call_0_165 : decode b_X14_call_0 165 = .ok (.iaload, 1) := by decide +kernel
theorem d_X14_call_0_166 : decode b_X14_call_0 166 = .ok (.if_icmp .ge 27, 3) := by decide +kernel
theorem d_X14_call_0_169 : decode b_X14_call_0 169 = .ok (.aload 9, 2) := by decide +kernel
theorem d_X14_call_0_171 : decode b_X14_call_0 171 = .ok (.aload_n 0, 1) := by decide +kernel
theorem d_X14_call_0_172 : decode b_X14_call_0 172 = .ok (.getfield 67, 3) := by decide +kernel
theorem d_X14_call_0_175 : decode b_X14_call_0 175 = .ok (.bipush 8, 2) := by decide +kernel
theorem d_X14_call_0_177 : decode b_X14_call_0 177 = .ok (.iload_n 3, 1) := by decide +kernel
theorem d_X14_call_0_178 : decode b_X14_call_0 178 = .ok (.imul, 1) := by decide +kernel
theorem d_X14_call_0_179 : decode b_X14_call_0 179 = .ok (.iload 6, 2) := by decide +kernel
theorem d_X14_call_0_181 : decode b_X14_call_0 181 = .ok (.iadd, 1) := by decide +kernel
theorem d_X14_call_0_182 : decode b_X14_call_0 182 = .ok (.iaload, 1) := by decide +kernel
theorem d_X14_call_0_183 : decode b_X14_call_0 183 = .ok (.invokestatic 402, 3) := by decide +kernel
theorem d_X14_call_0_186 : decode b_X14_call_0 186 = .ok (.ifCond .eq 7, 3) := by decide +kernel
theorem d_X14_call_0_189 : decode b_X14_call_0 189 = .ok (.iconst 1, 1) := by decide +kernel
theorem d_X14_call_0_190 : decode b_X14_call_0 190 = .ok (.goto 4, 3) := by decide +kernel
theorem d_X14_call_0_193 : decode b_X14_call_0 193 = .ok (.iconst 0, 1) := by decide +kernel
theorem d_X14_call_0_194 : decode b_X14_call_0 194 = .ok (.istore 8, 2) := by decide +kernel
theorem d_X14_call_0_196 : decode b_X14_call_0 196 = .ok (.iload 7, 2) := by decide +kernel
theorem d_X14_call_0_198 : decode b_X14_call_0 198 = .ok (.aload 9, 2) := by decide +kernel
theorem d_X14_call_0_200 : decode b_X14_call_0 200 = .ok (.getfield 371, 3) := by decide +kernel
theorem d_X14_call_0_203 : decode b_X14_call_0 203 = .ok (.invokestatic 374, 3) := by decide +kernel
theorem d_X14_call_0_206 : decode b_X14_call_0 206 = .ok (.istore 7, 2) := by decide +kernel
theorem d_X14_call_0_208 : decode b_X14_call_0 208 = .ok (.iinc 6 1, 3) := by decide +kernel
theorem d_X14_call_0_211 : decode b_X14_call_0 211 = .ok (.aload_n 0, 1) := by decide +kernel
theorem d_X14_call_0_212 : decode b_X14_call_0 212 = .ok (.bipush 26, 2) := by decide +kernel
theorem d_X14_call_0_214 : decode b_X14_call_0 214 = .ok (.invokevirtual 530, 3) := by decide +kernel
theorem d_X14_call_0_217 : decode b_X14_call_0 217 = .ok (.ifCond .ne (-83), 3) := by decide +kernel
theorem d_X14_call_0_220 : decode b_X14_call_0 220 = .ok (.aload_n 0, 1) := by decide +kernel
theorem d_X14_call_0_221 : decode b_X14_call_0 221 = .ok (.bipush 21, 2) := by decide +kernel
theorem d_X14_call_0_223 : decode b_X14_call_0 223 = .ok (.invokevirtual 497, 3) := by decide +kernel
theorem d_X14_call_0_226 : decode b_X14_call_0 226 = .ok (.aload_n 0, 1) := by decide +kernel
theorem d_X14_call_0_227 : decode b_X14_call_0 227 = .ok (.iload 8, 2) := by decide +kernel
theorem d_X14_call_0_229 : decode b_X14_call_0 229 = .ok (.ifCond .eq 23, 3) := by decide +kernel
theorem d_X14_call_0_232 : decode b_X14_call_0 232 = .ok (.iload 4, 2) := by decide +kernel
theorem d_X14_call_0_234 : decode b_X14_call_0 234 = .ok (.ifCond .eq 18, 3) := by decide +kernel
theorem d_X14_call_0_237 : decode b_X14_call_0 237 = .ok (.iload 6, 2) := by decide +kernel
theorem d_X14_call_0_239 : decode b_X14_call_0 239 = .ok (.aload_n 0, 1) := by decide +kernel
theorem d_X14_call_0_240 : decode b_X14_call_0 240 = .ok (.getfield 63, 3) := by decide +kernel
theorem d_X14_call_0_243 : decode b_X14_call_0 243 = .ok (.iload_n 3, 1) := by decide +kernel
theorem d_X14_call_0_244 : decode b_X14_call_0 244 = .ok (.iaload, 1) := by decide +kernel
theorem d_X14_call_0_245 : decode b_X14_call_0 245 = .ok (.if_icmp .ne 7, 3) := by decide +kernel
theorem d_X14_call_0_248 : decode b_X14_call_0 248 = .ok (.iconst 1, 1) := by decide +kernel
theorem d_X14_call_0_249 : decode b_X14_call_0 249 = .ok (.goto 4, 3) := by decide +kernel
theorem d_X14_call_0_252 : decode b_X14_call_0 252 = .ok (.iconst 0, 1) := by decide +kernel
theorem d_X14_call_0_253 : decode b_X14_call_0 253 = .ok (.iload_n 1, 1) := by decide +kernel
theorem d_X14_call_0_254 : decode b_X14_call_0 254 = .ok (.invokevirtual 410, 3) := by decide +kernel
theorem d_X14_call_0_257 : decode b_X14_call_0 257 = .ok (.aload_n 0, 1) := by decide +kernel
theorem d_X14_call_0_258 : decode b_X14_call_0 258 = .ok (.bipush 19, 2) := by decide +kernel
theorem d_X14_call_0_260 : decode b_X14_call_0 260 = .ok (.iload 4, 2) := by decide +kernel
theorem d_X14_call_0_262 : decode b_X14_call_0 262 = .ok (.ifCond .eq 17, 3) := by decide +kernel
theorem d_X14_call_0_265 : decode b_X14_call_0 265 = .ok (.iload_n 3, 1) := by decide +kernel
theorem d_X14_call_0_266 : decode b_X14_call_0 266 = .ok (.aload_n 0, 1) := by decide +kernel
theorem d_X14_call_0_267 : decode b_X14_call_0 267 = .ok (.getfield 86, 3) := by decide +kernel
theorem d_X14_call_0_270 : decode b_X14_call_0 270 = .ok (.aload_n 0, 1) := by decide +kernel
theorem d_X14_call_0_271 : decode b_X14_call_0 271 = .ok (.getfield 327, 3) := by decide +kernel
theorem d_X14_call_0_274 : decode b_X14_call_0 274 = .ok (.iaload, 1) := by decide +kernel
theorem d_X14_call_0_275 : decode b_X14_call_0 275 = .ok (.isub, 1) := by decide +kernel
theorem d_X14_call_0_276 : decode b_X14_call_0 276 = .ok (.goto 4, 3) := by decide +kernel
theorem d_X14_call_0_279 : decode b_X14_call_0 279 = .ok (.iconst 0, 1) := by decide +kernel
theorem d_X14_call_0_280 : decode b_X14_call_0 280 = .ok (.aload_n 0, 1) := by decide +kernel
theorem d_X14_call_0_281 : decode b_X14_call_0 281 = .ok (.getfield 23, 3) := by decide +kernel
theorem d_X14_call_0_284 : decode b_X14_call_0 284 = .ok (.iload_n 1, 1) := by decide +kernel
theorem d_X14_call_0_285 : decode b_X14_call_0 285 = .ok (.iaload, 1) := by decide +kernel
theorem d_X14_call_0_286 : decode b_X14_call_0 286 = .ok (.invokevirtual 418, 3) := by decide +kernel
theorem d_X14_call_0_289 : decode b_X14_call_0 289 = .ok (.new 353, 3) := by decide +kernel
theorem d_X14_call_0_292 : decode b_X14_call_0 292 = .ok (.dup, 1) := by decide +kernel
theorem d_X14_call_0_293 : decode b_X14_call_0 293 = .ok (.iload 4, 2) := by decide +kernel
theorem d_X14_call_0_295 : decode b_X14_call_0 295 = .ok (.ifCond .eq 12, 3) := by decide +kernel
theorem d_X14_call_0_298 : decode b_X14_call_0 298 = .ok (.aload_n 0, 1) := by decide +kernel
theorem d_X14_call_0_299 : decode b_X14_call_0 299 = .ok (.getfield 47, 3) := by decide +kernel
theorem d_X14_call_0_302 : decode b_X14_call_0 302 = .ok (.iload_n 3, 1) := by decide +kernel
theorem d_X14_call_0_303 : decode b_X14_call_0 303 = .ok (.iaload, 1) := by decide +kernel
theorem d_X14_call_0_304 : decode b_X14_call_0 304 = .ok (.goto 5, 3) := by decide +kernel
theorem d_X14_call_0_307 : decode b_X14_call_0 307 = .ok (.bipush (-2), 2) := by decide +kernel
theorem d_X14_call_0_309 : decode b_X14_call_0 309 = .ok (.invokespecial 369, 3) := by decide +kernel
theorem d_X14_call_0_312 : decode b_X14_call_0 312 = .ok (.astore 9, 2) := by decide +kernel
theorem d_X14_call_0_314 : decode b_X14_call_0 314 = .ok (.aload 9, 2) := by decide +kernel
theorem d_X14_call_0_316 : decode b_X14_call_0 316 = .ok (.iload 7, 2) := by decide +kernel
theorem d_X14_call_0_318 : decode b_X14_call_0 318 = .ok (.iconst 1, 1) := by decide +kernel
theorem d_X14_call_0_319 : decode b_X14_call_0 319 = .ok (.iadd, 1) := by decide +kernel
theorem d_X14_call_0_320 : decode b_X14_call_0 320 = .ok (.putfield 371, 3) := by decide +kernel
theorem d_X14_call_0_323 : decode b_X14_call_0 323 = .ok (.aload 9, 2) := by decide +kernel
theorem d_X14_call_0_325 : decode b_X14_call_0 325 = .ok (.getfield 371, 3) := by decide +kernel
theorem d_X14_call_0_328 : decode b_X14_call_0 328 = .ok (.bipush 60, 2) := by decide +kernel
theorem d_X14_call_0_330 : decode b_X14_call_0 330 = .ok (.if_icmp .le 9, 3) := by decide +kernel
theorem d_X14_call_0_333 : decode b_X14_call_0 333 = .ok (.aload_n 0, 1) := by decide +kernel
theorem d_X14_call_0_334 : decode b_X14_call_0 334 = .ok (.iconst 4, 1) := by decide +kernel
theorem d_X14_call_0_335 : decode b_X14_call_0 335 = .ok (.iload_n 1, 1) := by decide +kernel
theorem d_X14_call_0_336 : decode b_X14_call_0 336 = .ok (.invokevirtual 304, 3) := by decide +kernel
theorem d_X14_call_0_339 : decode b_X14_call_0 339 = .ok (.aload 9, 2) := by decide +kernel
theorem d_X14_call_0_341 : decode b_X14_call_0 341 = .ok (.areturn, 1) := by decide +kernel
theorem d_X14_call_1_0 : decode b_X14_call_1 0 = .ok (.aload_n 0, 1) := by decide +kernel
theorem d_X14_call_1_1 : decode b_X14_call_1 1 = .ok (.getfield 102, 3) := by decide +kernel
theorem d_X14_call_1_4 : decode b_X14_call_1 4 = .ok (.aload_n 0, 1) := by decide +kernel
theorem d_X14_call_1_5 : decode b_X14_call_1 5 = .ok (.getfield 182, 3) := by decide +kernel
theorem d_X14_call_1_8 : decode b_X14_call_1 8 = .ok (.aload_n 0, 1) := by decide +kernel
theorem d_X14_call_1_9 : decode b_X14_call_1 9 = .ok (.getfield 771, 3) := by decide +kernel
theorem d_X14_call_1_12 : decode b_X14_call_1 12 = .ok (.iconst 1, 1) := by decide +kernel
theorem d_X14_call_1_13 : decode b_X14_call_1 13 = .ok (.isub, 1) := by decide +kernel
theorem d_X14_call_1_14 : decode b_X14_call_1 14 = .ok (.iaload, 1) := by decide +kernel
theorem d_X14_call_1_15 : decode b_X14_call_1 15 = .ok (.iaload, 1) := by decide +kernel
theorem d_X14_call_1_16 : decode b_X14_call_1 16 = .ok (.istore 4, 2) := by decide +kernel
theorem d_X14_call_1_18 : decode b_X14_call_1 18 = .ok (.aload_n 0, 1) := by decide +kernel
theorem d_X14_call_1_19 : decode b_X14_call_1 19 = .ok (.getfield 159, 3) := by decide +kernel
theorem d_X14_call_1_22 : decode b_X14_call_1 22 = .ok (.aload_n 0, 1) := by decide +kernel
theorem d_X14_call_1_23 : decode b_X14_call_1 23 = .ok (.getfield 86, 3) := by decide +kernel
theorem d_X14_call_1_26 : decode b_X14_call_1 26 = .ok (.iload 4, 2) := by decide +kernel
theorem d_X14_call_1_28 : decode b_X14_call_1 28 = .ok (.iaload, 1) := by decide +kernel
theorem d_X14_call_1_29 : decode b_X14_call_1 29 = .ok (.iload_n 2, 1) := by decide +kernel
theorem d_X14_call_1_30 : decode b_X14_call_1 30 = .ok (.iadd, 1) := by decide +kernel
theorem d_X14_call_1_31 : decode b_X14_call_1 31 = .ok (.iaload, 1) := by decide +kernel
theorem d_X14_call_1_32 : decode b_X14_call_1 32 = .ok (.istore 5, 2) := by decide +kernel
theorem d_X14_call_1_34 : decode b_X14_call_1 34 = .ok (.iload 5, 2) := by decide +kernel
theorem d_X14_call_1_36 : decode b_X14_call_1 36 = .ok (.ifCond .ge 16, 3) := by decide +kernel
theorem d_X14_call_1_39 : decode b_X14_call_1 39 = .ok (.aload_n 0, 1) := by decide +kernel
theorem d_X14_call_1_40 : decode b_X14_call_1 40 = .ok (.iconst (-1), 1) := by decide +kernel
theorem d_X14_call_1_41 : decode b_X14_call_1 41 = .ok (.iload 5, 2) := by decide +kernel
theorem d_X14_call_1_43 : decode b_X14_call_1 43 = .ok (.isub, 1) := by decide +kernel
theorem d_X14_call_1_44 : decode b_X14_call_1 44 = .ok (.iload_n 3, 1) := by decide +kernel
theorem d_X14_call_1_45 : decode b_X14_call_1 45 = .ok (.invokevirtual 823, 3) := by decide +kernel
theorem d_X14_call_1_48 : decode b_X14_call_1 48 = .ok (.iload_n 1, 1) := by decide +kernel
theorem d_X14_call_1_49 : decode b_X14_call_1 49 = .ok (.iconst 3, 1) := by decide +kernel
theorem d_X14_call_1_50 : decode b_X14_call_1 50 = .ok (.iadd, 1) := by decide +kernel
theorem d_X14_call_1_51 : decode b_X14_call_1 51 = .ok (.ireturn, 1) := by decide +kernel
theorem d_X14_call_1_52 : decode b_X14_call_1 52 = .ok (.aload_n 0, 1) := by decide +kernel
theorem d_X14_call_1_53 : decode b_X14_call_1 53 = .ok (.iload 5, 2) := by decide +kernel
theorem d_X14_call_1_55 : decode b_X14_call_1 55 = .ok (.iload_n 1, 1) := by decide +kernel
theorem d_X14_call_1_56 : decode b_X14_call_1 56 = .ok (.iconst 3, 1) := by decide +kernel
theorem d_X14_call_1_57 : decode b_X14_call_1 57 = .ok (.iadd, 1) := by decide +kernel
theorem d_X14_call_1_58 : decode b_X14_call_1 58 = .ok (.iload 4, 2) := by decide +kernel
theorem d_X14_call_1_60 : decode b_X14_call_1 60 = .ok (.iconst 1, 1) := by decide +kernel
theorem d_X14_call_1_61 : decode b_X14_call_1 61 = .ok (.iadd, 1) := by decide +kernel
theorem d_X14_call_1_62 : decode b_X14_call_1 62 = .ok (.iload_n 3, 1) := by decide +kernel
theorem d_X14_call_1_63 : decode b_X14_call_1 63 = .ok (.invokevirtual 777, 3) := by decide +kernel
theorem d_X14_call_1_66 : decode b_X14_call_1 66 = .ok (.aload_n 0, 1) := by decide +kernel
theorem d_X14_call_1_67 : decode b_X14_call_1 67 = .ok (.getfield 774, 3) := by decide +kernel
theorem d_X14_call_1_70 : decode b_X14_call_1 70 = .ok (.ifCond .ge 13, 3) := by decide +kernel
theorem d_X14_call_1_73 : decode b_X14_call_1 73 = .ok (.aload_n 0, 1) := by decide +kernel
theorem d_X14_call_1_74 : decode b_X14_call_1 74 = .ok (.getfield 99, 3) := by decide +kernel
theorem d_X14_call_1_77 : decode b_X14_call_1 77 = .ok (.iload 5, 2) := by decide +kernel
theorem d_X14_call_1_79 : decode b_X14_call_1 79 = .ok (.iaload, 1) := by decide +kernel
theorem d_X14_call_1_80 : decode b_X14_call_1 80 = .ok (.goto 4, 3) := by decide +kernel
theorem d_X14_call_1_83 : decode b_X14_call_1 83 = .ok (.iload_n 1, 1) := by decide +kernel
theorem d_X14_call_1_84 : decode b_X14_call_1 84 = .ok (.ireturn, 1) := by decide +kernel
theorem d_X14_cell_0 : decode b_X14_cell 0 = .ok (.aload_n 0, 1) := by decide +kernel
theorem d_X14_cell_1 : decode b_X14_cell 1 = .ok (.getfield 197, 3) := by decide +kernel
theorem d_X14_cell_4 : decode b_X14_cell 4 = .ok (.istore_n 1, 1) := by decide +kernel
theorem d_X14_cell_5 : decode b_X14_cell 5 = .ok (.aload_n 0, 1) := by decide +kernel
theorem d_X14_cell_6 : decode b_X14_cell 6 = .ok (.iconst 0, 1) := by decide +kernel
theorem d_X14_cell_7 : decode b_X14_cell 7 = .ok (.putfield 197, 3) := by decide +kernel
theorem d_X14_cell_10 : decode b_X14_cell 10 = .ok (.aload_n 0, 1) := by decide +kernel
theorem d_X14_cell_11 : decode b_X14_cell 11 = .ok (.getfield 150, 3) := by decide +kernel
theorem d_X14_cell_14 : decode b_X14_cell 14 = .ok (.ifCond .ge 5, 3) := by decide +kernel
theorem d_X14_cell_17 : decode b_X14_cell 17 = .ok (.iconst (-1), 1) := by decide +kernel
theorem d_X14_cell_18 : decode b_X14_cell 18 = .ok (.ireturn, 1) := by decide +kernel
theorem d_X14_cell_19 : decode b_X14_cell 19 = .ok (.iconst 0, 1) := by decide +kernel
theorem d_X14_cell_20 : decode b_X14_cell 20 = .ok (.istore_n 2, 1) := by decide +kernel
theorem d_X14_cell_21 : decode b_X14_cell 21 = .ok (.iload_n 2, 1) := by decide +kernel
theorem d_X14_cell_22 : decode b_X14_cell 22 = .ok (.aload_n 0, 1) := by decide +kernel
theorem d_X14_cell_23 : decode b_X14_cell 23 = .ok (.getfield 150, 3) := by decide +kernel
theorem d_X14_cell_26 : decode b_X14_cell 26 = .ok (.if_icmp .ge 90, 3) := by decide +kernel
theorem d_X14_cell_29 : decode b_X14_cell 29 = .ok (.aload_n 0, 1) := by decide +kernel
theorem d_X14_cell_30 : decode b_X14_cell 30 = .ok (.getfield 86, 3) := by decide +kernel
theorem d_X14_cell_33 : decode b_X14_cell 33 = .ok (.aload_n 0, 1) := by decide +kernel
theorem d_X14_cell_34 : decode b_X14_cell 34 = .ok (.getfield 144, 3) := by decide +kernel
theorem d_X14_cell_37 : decode b_X14_cell 37 = .ok (.iload_n 2, 1) := by decide +kernel
theorem d_X14_cell_38 : decode b_X14_cell 38 = .ok (.iaload, 1) := by decide +kernel
theorem d_X14_cell_39 : decode b_X14_cell 39 = .ok (.iconst 1, 1) := by decide +kernel
theorem d_X14_cell_40 : decode b_X14_cell 40 = .ok (.isub, 1) := by decide +kernel
theorem d_X14_cell_41 : decode b_X14_cell 41 = .ok (.iaload, 1) := by decide +kernel
theorem d_X14_cell_42 : decode b_X14_cell 42 = .ok (.istore_n 3, 1) := by decide +kernel
theorem d_X14_cell_43 : decode b_X14_cell 43 = .ok (.iload_n 3, 1) := by decide +kernel
theorem d_X14_cell_44 : decode b_X14_cell 44 = .ok (.aload_n 0, 1) := by decide +kernel
theorem d_X14_cell_45 : decode b_X14_cell 45 = .ok (.getfield 86, 3) := by decide +kernel
theorem d_X14_cell_48 : decode b_X14_cell 48 = .ok (.aload_n 0, 1) := by decide +kernel
theorem d_X14_cell_49 : decode b_X14_cell 49 = .ok (.getfield 144, 3) := by decide +kernel
theorem d_X14_cell_52 : decode b_X14_cell 52 = .ok (.iload_n 2, 1) := by decide +kernel
theorem d_X14_cell_53 : decode b_X14_cell 53 = .ok (.iaload, 1) := by decide +kernel
theorem d_X14_cell_54 : decode b_X14_cell 54 = .ok (.iaload, 1) := by decide +kernel
theorem d_X14_cell_55 : decode b_X14_cell 55 = .ok (.if_icmp .ge 55, 3) := by decide +kernel
theorem d_X14_cell_58 : decode b_X14_cell 58 = .ok (.aload_n 0, 1) := by decide +kernel
theorem d_X14_cell_59 : decode b_X14_cell 59 = .ok (.iload_n 3, 1) := by decide +kernel
theorem d_X14_cell_60 : decode b_X14_cell 60 = .ok (.iconst 1, 1) := by decide +kernel
theorem d_X14_cell_61 : decode b_X14_cell 61 = .ok (.invokevirtual 694, 3) := by decide +kernel
theorem d_X14_cell_64 : decode b_X14_cell 64 = .ok (.ifCond .eq 40, 3) := by decide +kernel
theorem d_X14_cell_67 : decode b_X14_cell 67 = .ok (.aload_n 0, 1) := by decide +kernel
theorem d_X14_cell_68 : decode b_X14_cell 68 = .ok (.iload_n 3, 1) := by decide +kernel
theorem d_X14_cell_69 : decode b_X14_cell 69 = .ok (.iload_n 1, 1) := by decide +kernel
theorem d_X14_cell_70 : decode b_X14_cell 70 = .ok (.invokevirtual 738, 3) := by decide +kernel
theorem d_X14_cell_73 : decode b_X14_cell 73 = .ok (.ifCond .eq 31, 3) := by decide +kernel
theorem d_X14_cell_76 : decode b_X14_cell 76 = .ok (.aload_n 0, 1) := by decide +kernel
theorem d_X14_cell_77 : decode b_X14_cell 77 = .ok (.getfield 44, 3) := by decide +kernel
theorem d_X14_cell_80 : decode b_X14_cell 80 = .ok (.iload_n 3, 1) := by decide +kernel
theorem d_X14_cell_81 : decode b_X14_cell 81 = .ok (.iaload, 1) := by decide +kernel
theorem d_X14_cell_82 : decode b_X14_cell 82 = .ok (.iconst 1, 1) := by decide +kernel
theorem d_X14_cell_83 : decode b_X14_cell 83 = .ok (.if_icmp .ne 19, 3) := by decide +kernel
theorem d_X14_cell_86 : decode b_X14_cell 86 = .ok (.aload_n 0, 1) := by decide +kernel
theorem d_X14_cell_87 : decode b_X14_cell 87 = .ok (.getfield 147, 3) := by decide +kernel
theorem d_X14_cell_90 : decode b_X14_cell 90 = .ok (.iload_n 2, 1) := by decide +kernel
theorem d_X14_cell_91 : decode b_X14_cell 91 = .ok (.iaload, 1) := by decide +kernel
theorem d_X14_cell_92 : decode b_X14_cell 92 = .ok (.aload_n 0, 1) := by decide +kernel
theorem d_X14_cell_93 : decode b_X14_cell 93 = .ok (.getfield 70, 3) := by decide +kernel
theorem d_X14_cell_96 : decode b_X14_cell 96 = .ok (.iload_n 3, 1) := by decide +kernel
theorem d_X14_cell_97 : decode b_X14_cell 97 = .ok (.iaload, 1) := by decide +kernel
theorem d_X14_cell_98 : decode b_X14_cell 98 = .ok (.iadd, 1) := by decide +kernel
theorem d_X14_cell_99 : decode b_X14_cell 99 = .ok (.goto 4, 3) := by decide +kernel
theorem d_X14_cell_102 : decode b_X14_cell 102 = .ok (.iconst 0, 1) := by decide +kernel
theorem d_X14_cell_103 : decode b_X14_cell 103 = .ok (.ireturn, 1) := by decide +kernel
theorem d_X14_cell_104 : decode b_X14_cell 104 = .ok (.iinc 3 1, 3) := by decide +kernel
theorem d_X14_cell_107 : decode b_X14_cell 107 = .ok (.goto (-64), 3) := by decide +kernel
theorem d_X14_cell_110 : decode b_X14_cell 110 = .ok (.iinc 2 1, 3) := by decide +kernel
theorem d_X14_cell_113 : decode b_X14_cell 113 = .ok (.goto (-92), 3) := by decide +kernel
theorem d_X14_cell_116 : decode b_X14_cell 116 = .ok (.iconst 1, 1) := by decide +kernel
theorem d_X14_cell_117 : decode b_X14_cell 117 = .ok (.istore_n 2, 1) := by decide +kernel
theorem d_X14_cell_118 : decode b_X14_cell 118 = .ok (.iconst 0, 1) := by decide +kernel
theorem d_X14_cell_119 : decode b_X14_cell 119 = .ok (.istore_n 3, 1) := by decide +kernel
theorem d_X14_cell_120 : decode b_X14_cell 120 = .ok (.iload_n 3, 1) := by decide +kernel
theorem d_X14_cell_121 : decode b_X14_cell 121 = .ok (.iconst 4, 1) := by decide +kernel
theorem d_X14_cell_122 : decode b_X14_cell 122 = .ok (.if_icmp .ge 105, 3) := by decide +kernel
theorem d_X14_cell_125 : decode b_X14_cell 125 = .ok (.iload_n 2, 1) := by decide +kernel
theorem d_X14_cell_126 : decode b_X14_cell 126 = .ok (.istore 4, 2) := by decide +kernel
theorem d_X14_cell_128 : decode b_X14_cell 128 = .ok (.ldc_w 692, 3) := by decide +kernel
theorem d_X14_cell_131 : decode b_X14_cell 131 = .ok (.iload 4, 2) := by decide +kernel
theorem d_X14_cell_133 : decode b_X14_cell 133 = .ok (.invokevirtual 270, 3) := by decide +kernel
theorem d_X14_cell_136 : decode b_X14_cell 136 = .ok (.bipush 32, 2) := by decide +kernel
theorem d_X14_cell_138 : decode b_X14_cell 138 = .ok (.if_icmp .eq 9, 3) := by decide +kernel
theorem d_X14_cell_141 : decode b_X14_cell 141 = .ok (.iinc 4 1, 3) := by decide +kernel
theorem d_X14_cell_144 : decode b_X14_cell 144 = .ok (.goto (-16), 3) := by decide +kernel
theorem d_X14_cell_147 : decode b_X14_cell 147 = .ok (.iload 4, 2) := by decide +kernel
theorem d_X14_cell_149 : decode b_X14_cell 149 = .ok (.iload_n 2, 1) := by decide +kernel
theorem d_X14_cell_150 : decode b_X14_cell 150 = .ok (.isub, 1) := by decide +kernel
theorem d_X14_cell_151 : decode b_X14_cell 151 = .ok (.iload_n 1, 1) := by decide +kernel
theorem d_X14_cell_152 : decode b_X14_cell 152 = .ok (.if_icmp .ne 7, 3) := by decide +kernel
theorem d_X14_cell_155 : decode b_X14_cell 155 = .ok (.iconst 1, 1) := by decide +kernel
theorem d_X14_cell_156 : decode b_X14_cell 156 = .ok (.goto 4, 3) := by decide +kernel
theorem d_X14_cell_159 : decode b_X14_cell 159 = .ok (.iconst 0, 1) := by decide +kernel
theorem d_X14_cell_160 : decode b_X14_cell 160 = .ok (.istore 5, 2) := by decide +kernel
theorem d_X14_cell_162 : decode b_X14_cell 162 = .ok (.iconst 0, 1) := by decide +kernel
theorem d_X14_cell_163 : decode b_X14_cell 163 = .ok (.istore 6, 2) := by decide +kernel
theorem d_X14_cell_165 : decode b_X14_cell 165 = .ok (.iload 5, 2) := by decide +kernel
theorem d_X14_cell_167 : decode b_X14_cell 167 = .ok (.ifCond .eq 42, 3) := by decide +kernel
theorem d_X14_cell_170 : decode b_X14_cell 170 = .ok (.iload 6, 2) := by decide +kernel
theorem d_X14_cell_172 : decode b_X14_cell 172 = .ok (.iload_n 1, 1) := by decide +kernel
theorem d_X14_cell_173 : decode b_X14_cell 173 = .ok (.if_icmp .ge 36, 3) := by decide +kernel
theorem d_X14_cell_176 : decode b_X14_cell 176 = .ok (.ldc_w 692, 3) := by decide +kernel
theorem d_X14_cell_179 : decode b_X14_cell 179 = .ok (.iload_n 2, 1) := by decide +kernel
theorem d_X14_cell_180 : decode b_X14_cell 180 = .ok (.iload 6, 2) := by decide +kernel
theorem d_X14_cell_182 : decode b_X14_cell 182 = .ok (.iadd, 1) := by decide +kernel
theorem d_X14_cell_183 : decode b_X14_cell 183 = .ok (.invokevirtual 270, 3) := by decide +kernel
theorem d_X14_cell_186 : decode b_X14_cell 186 = .ok (.aload_n 0, 1) := by decide +kernel
theorem d_X14_cell_187 : decode b_X14_cell 187 = .ok (.getfield 9, 3) := by decide +kernel
theorem d_X14_cell_190 : decode b_X14_cell 190 = .ok (.iload 6, 2) := by decide +kernel
theorem d_X14_cell_192 : decode b_X14_cell 192 = .ok (.baload, 1) := by decide +kernel
theorem d_X14_cell_193 : decode b_X14_cell 193 = .ok (.if_icmp .ne 7, 3) := by decide +kernel
theorem d_X14_cell_196 : decode b_X14_cell 196 = .ok (.iconst 1, 1) := by decide +kernel
theorem d_X14_cell_197 : decode b_X14_cell 197 = .ok (.goto 4, 3) := by decide +kernel
theorem d_X14_cell_200 : decode b_X14_cell 200 = .ok (.iconst 0, 1) := by decide +kernel
theorem d_X14_cell_201 : decode b_X14_cell 201 = .ok (.istore 5, 2) := by decide +kernel
theorem d_X14_cell_203 : decode b_X14_cell 203 = .ok (.iinc 6 1, 3) := by decide +kernel
theorem d_X14_cell_206 : decode b_X14_cell 206 = .ok (.goto (-41), 3) := by decide +kernel
theorem d_X14_cell_209 : decode b_X14_cell 209 = .ok (.iload 5, 2) := by decide +kernel
theorem d_X14_cell_211 : decode b_X14_cell 211 = .ok (.ifCond .eq 5, 3) := by decide +kernel
theorem d_X14_cell_214 : decode b_X14_cell 214 = .ok (.iconst 0, 1) := by decide +kernel
theorem d_X14_cell_215 : decode b_X14_cell 215 = .ok (.ireturn, 1) := by decide +kernel
theorem d_X14_cell_216 : decode b_X14_cell 216 = .ok (.iload 4, 2) := by decide +kernel
theorem d_X14_cell_218 : decode b_X14_cell 218 = .ok (.iconst 1, 1) := by decide +kernel
theorem d_X14_cell_219 : decode b_X14_cell 219 = .ok (.iadd, 1) := by decide +kernel
theorem d_X14_cell_220 : decode b_X14_cell 220 = .ok (.istore_n 2, 1) := by decide +kernel
theorem d_X14_cell_221 : decode b_X14_cell 221 = .ok (.iinc 3 1, 3) := by decide +kernel
theorem d_X14_cell_224 : decode b_X14_cell 224 = .ok (.goto (-104), 3) := by decide +kernel
theorem d_X14_cell_227 : decode b_X14_cell 227 = .ok (.iconst (-1), 1) := by decide +kernel
theorem d_X14_cell_228 : decode b_X14_cell 228 = .ok (.ireturn, 1) := by decide +kernel
theorem d_X14_choice_0 : decode b_X14_choice 0 = .ok (.aload_n 0, 1) := by decide +kernel
theorem d_X14_choice_1 : decode b_X14_choice 1 = .ok (.iconst 1, 1) := by decide +kernel
theorem d_X14_choice_2 : decode b_X14_choice 2 = .ok (.iload_n 1, 1) := by decide +kernel
theorem d_X14_choice_3 : decode b_X14_choice 3 = .ok (.invokevirtual 421, 3) := by decide +kernel
theorem d_X14_choice_6 : decode b_X14_choice 6 = .ok (.astore_n 2, 1) := by decide +kernel
theorem d_X14_choice_7 : decode b_X14_choice 7 = .ok (.aload_n 0, 1) := by decide +kernel
theorem d_X14_choice_8 : decode b_X14_choice 8 = .ok (.bipush 28, 2) := by decide +kernel
theorem d_X14_choice_10 : decode b_X14_choice 10 = .ok (.invokevirtual 308, 3) := by decide +kernel
theorem d_X14_choice_13 : decode b_X14_choice 13 = .ok (.ifCond .ne 5, 3) := by decide +kernel
theorem d_X14_choice_16 : decode b_X14_choice 16 = .ok (.aload_n 2, 1) := by decide +kernel
theorem d_X14_choice_17 : decode b_X14_choice 17 = .ok (.areturn, 1) := by decide +kernel
theorem d_X14_choice_18 : decode b_X14_choice 18 = .ok (.aload_n 0, 1) := by decide +kernel
theorem d_X14_choice_19 : decode b_X14_choice 19 = .ok (.getfield 288, 3) := by decide +kernel
theorem d_X14_choice_22 : decode b_X14_choice 22 = .ok (.istore_n 3, 1) := by decide +kernel
theorem d_X14_choice_23 : decode b_X14_choice 23 = .ok (.aload_n 0, 1) := by decide +kernel
theorem d_X14_choice_24 : decode b_X14_choice 24 = .ok (.aload_n 2, 1) := by decide +kernel
theorem d_X14_choice_25 : decode b_X14_choice 25 = .ok (.invokevirtual 398, 3) := by decide +kernel
theorem d_X14_choice_28 : decode b_X14_choice 28 = .ok (.aload_n 0, 1) := by decide +kernel
theorem d_X14_choice_29 : decode b_X14_choice 29 = .ok (.iload_n 1, 1) := by decide +kernel
theorem d_X14_choice_30 : decode b_X14_choice 30 = .ok (.invokevirtual 389, 3) := by decide +kernel
theorem d_X14_choice_33 : decode b_X14_choice 33 = .ok (.istore 4, 2) := by decide +kernel
theorem d_X14_choice_35 : decode b_X14_choice 35 = .ok (.aload_n 0, 1) := by decide +kernel
theorem d_X14_choice_36 : decode b_X14_choice 36 = .ok (.dup, 1) := by decide +kernel
theorem d_X14_choice_37 : decode b_X14_choice 37 = .ok (.getfield 288, 3) := by decide +kernel
theorem d_X14_choice_40 : decode b_X14_choice 40 = .ok (.iconst 1, 1) := by decide +kernel
theorem d_X14_choice_41 : decode b_X14_choice 41 = .ok (.iadd, 1) := by decide +kernel
theorem d_X14_choice_42 : decode b_X14_choice 42 = .ok (.putfield 288, 3) := by decide +kernel
theorem d_X14_choice_45 : decode b_X14_choice 45 = .ok (.aload_n 0, 1) := by decide +kernel
theorem d_X14_choice_46 : decode b_X14_choice 46 = .ok (.bipush 16, 2) := by decide +kernel
theorem d_X14_choice_48 : decode b_X14_choice 48 = .ok (.invokevirtual 425, 3) := by decide +kernel
theorem d_X14_choice_51 : decode b_X14_choice 51 = .ok (.istore 5, 2) := by decide +kernel
theorem d_X14_choice_53 : decode b_X14_choice 53 = .ok (.aload_n 0, 1) := by decide +kernel
theorem d_X14_choice_54 : decode b_X14_choice 54 = .ok (.iload 4, 2) := by decide +kernel
theorem d_X14_choice_56 : decode b_X14_choice 56 = .ok (.invokevirtual 395, 3) := by decide +kernel
theorem d_X14_choice_59 : decode b_X14_choice 59 = .ok (.astore 6, 2) := by decide +kernel
theorem d_X14_choice_61 : decode b_X14_choice 61 = .ok (.aload_n 0, 1) := by decide +kernel
theorem d_X14_choice_62 : decode b_X14_choice 62 = .ok (.aload 6, 2) := by decide +kernel
theorem d_X14_choice_64 : decode b_X14_choice 64 = .ok (.invokevirtual 398, 3) := by decide +kernel
theorem d_X14_choice_67 : decode b_X14_choice 67 = .ok (.aload_n 0, 1) := by decide +kernel
theorem d_X14_choice_68 : decode b_X14_choice 68 = .ok (.bipush 15, 2) := by decide +kernel
theorem d_X14_choice_70 : decode b_X14_choice 70 = .ok (.invokevirtual 425, 3) := by decide +kernel
theorem d_X14_choice_73 : decode b_X14_choice 73 = .ok (.istore 7, 2) := by decide +kernel
theorem d_X14_choice_75 : decode b_X14_choice 75 = .ok (.aload_n 0, 1) := by decide +kernel
theorem d_X14_choice_76 : decode b_X14_choice 76 = .ok (.iload 5, 2) := by decide +kernel
theorem d_X14_choice_78 : decode b_X14_choice 78 = .ok (.invokevirtual 428, 3) := by decide +kernel
theorem d_X14_choice_81 : decode b_X14_choice 81 = .ok (.aload_n 0, 1) := by decide +kernel
theorem d_X14_choice_82 : decode b_X14_choice 82 = .ok (.bipush 29, 2) := by decide +kernel
theorem d_X14_choice_84 : decode b_X14_choice 84 = .ok (.invokevirtual 308, 3) := by decide +kernel
theorem d_X14_choice_87 : decode b_X14_choice 87 = .ok (.ifCond .ne 8, 3) := by decide +kernel
theorem d_X14_choice_90 : decode b_X14_choice 90 = .ok (.aload_n 0, 1) := by decide +kernel
theorem d_X14_choice_91 : decode b_X14_choice 91 = .ok (.invokevirtual 311, 3) := by decide +kernel
theorem d_X14_choice_94 : decode b_X14_choice 94 = .ok (.athrow, 1) := by decide +kernel
theorem d_X14_choice_95 : decode b_X14_choice 95 = .ok (.aload_n 0, 1) := by decide +kernel
theorem d_X14_choice_96 : decode b_X14_choice 96 = .ok (.iload_n 1, 1) := by decide +kernel
theorem d_X14_choice_97 : decode b_X14_choice 97 = .ok (.invokevirtual 389, 3) := by decide +kernel
theorem d_X14_choice_100 : decode b_X14_choice 100 = .ok (.istore 8, 2) := by decide +kernel
theorem d_X14_choice_102 : decode b_X14_choice 102 = .ok (.aload_n 0, 1) := by decide +kernel
theorem d_X14_choice_103 : decode b_X14_choice 103 = .ok (.dup, 1) := by decide +kernel
theorem d_X14_choice_104 : decode b_X14_choice 104 = .ok (.getfield 288, 3) := by decide +kernel
theorem d_X14_choice_107 : decode b_X14_choice 107 = .ok (.iconst 1, 1) := by decide +kernel
theorem d_X14_choice_108 : decode b_X14_choice 108 = .ok (.iadd, 1) := by decide +kernel
theorem d_X14_choice_109 : decode b_X14_choice 109 = .ok (.putfield 288, 3) := by decide +kernel
theorem d_X14_choice_112 : decode b_X14_choice 112 = .ok (.aload_n 0, 1) := by decide +kernel
theorem d_X14_choice_113 : decode b_X14_choice 113 = .ok (.iload 8, 2) := by decide +kernel
theorem d_X14_choice_115 : decode b_X14_choice 115 = .ok (.invokevirtual 379, 3) := by decide +kernel
theorem d_X14_choice_118 : decode b_X14_choice 118 = .ok (.astore 9, 2) := by decide +kernel
theorem d_X14_choice_120 : decode b_X14_choice 120 = .ok (.aload_n 0, 1) := by decide +kernel
theorem d_X14_choice_121 : decode b_X14_choice 121 = .ok (.aload 9, 2) := by decide +kernel
theorem d_X14_choice_123 : decode b_X14_choice 123 = .ok (.invokevirtual 398, 3) := by decide +kernel
theorem d_X14_choice_126 : decode b_X14_choice 126 = .ok (.aload_n 0, 1) := by decide +kernel
theorem d_X14_choice_127 : decode b_X14_choice 127 = .ok (.iload 7, 2) := by decide +kernel
theorem d_X14_choice_129 : decode b_X14_choice 129 = .ok (.invokevirtual 428, 3) := by decide +kernel
theorem d_X14_choice_132 : decode b_X14_choice 132 = .ok (.aload 6, 2) := by decide +kernel
theorem d_X14_choice_134 : decode b_X14_choice 134 = .ok (.getfield 352, 3) := by decide +kernel
theorem d_X14_choice_137 : decode b_X14_choice 137 = .ok (.aload 9, 2) := by decide +kernel
theorem d_X14_choice_139 : decode b_X14_choice 139 = .ok (.getfield 352, 3) := by decide +kernel
theorem d_X14_choice_142 : decode b_X14_choice 142 = .ok (.if_icmp .ne 11, 3) := by decide +kernel
theorem d_X14_choice_145 : decode b_X14_choice 145 = .ok (.aload 6, 2) := by decide +kernel
theorem d_X14_choice_147 : decode b_X14_choice 147 = .ok (.invokestatic 431, 3) := by decide +kernel
theorem d_X14_choice_150 : decode b_X14_choice 150 = .ok (.ifCond .ne 35, 3) := by decide +kernel
theorem d_X14_choice_153 : decode b_X14_choice 153 = .ok (.aload 6, 2) := by decide +kernel
theorem d_X14_choice_155 : decode b_X14_choice 155 = .ok (.invokestatic 434, 3) := by decide +kernel
theorem d_X14_choice_158 : decode b_X14_choice 158 = .ok (.ifCond .eq 11, 3) := by decide +kernel
theorem d_X14_choice_161 : decode b_X14_choice 161 = .ok (.aload 9, 2) := by decide +kernel
theorem d_X14_choice_163 : decode b_X14_choice 163 = .ok (.getfield 357, 3) := by decide +kernel
theorem d_X14_choice_166 : decode b_X14_choice 166 = .ok (.ifCond .ne 19, 3) := by decide +kernel
theorem d_X14_choice_169 : decode b_X14_choice 169 = .ok (.aload 9, 2) := by decide +kernel
theorem d_X14_choice_171 : decode b_X14_choice 171 = .ok (.invokestatic 434, 3) := by decide +kernel
theorem d_X14_choice_174 : decode b_X14_choice 174 = .ok (.ifCond .eq 15, 3) := by decide +kernel
theorem d_X14_choice_177 : decode b_X14_choice 177 = .ok (.aload 6, 2) := by decide +kernel
theorem d_X14_choice_179 : decode b_X14_choice 179 = .ok (.getfield 357, 3) := by decide +kernel
theorem d_X14_choice_182 : decode b_X14_choice 182 = .ok (.ifCond .eq 7, 3) := by decide +kernel
theorem d_X14_choice_185 : decode b_X14_choice 185 = .ok (.iconst 1, 1) := by decide +kernel
theorem d_X14_choice_186 : decode b_X14_choice 186 = .ok (.goto 4, 3) := by decide +kernel
theorem d_X14_choice_189 : decode b_X14_choice 189 = .ok (.iconst 0, 1) := by decide +kernel
theorem d_X14_choice_190 : decode b_X14_choice 190 = .ok (.istore 10, 2) := by decide +kernel
theorem d_X14_choice_192 : decode b_X14_choice 192 = .ok (.aload_n 0, 1) := by decide +kernel
theorem d_X14_choice_193 : decode b_X14_choice 193 = .ok (.aload_n 2, 1) := by decide +kernel
theorem d_X14_choice_194 : decode b_X14_choice 194 = .ok (.invokestatic 431, 3) := by decide +kernel
theorem d_X14_choice_197 : decode b_X14_choice 197 = .ok (.ifCond .eq 12, 3) := by decide +kernel
theorem d_X14_choice_200 : decode b_X14_choice 200 = .ok (.iload 10, 2) := by decide +kernel
theorem d_X14_choice_202 : decode b_X14_choice 202 = .ok (.ifCond .eq 7, 3) := by decide +kernel
theorem d_X14_choice_205 : decode b_X14_choice 205 = .ok (.iconst 1, 1) := by decide +kernel
theorem d_X14_choice_206 : decode b_X14_choice 206 = .ok (.goto 4, 3) := by decide +kernel
theorem d_X14_choice_209 : decode b_X14_choice 209 = .ok (.iconst 0, 1) := by decide +kernel
theorem d_X14_choice_210 : decode b_X14_choice 210 = .ok (.iload_n 3, 1) := by decide +kernel
theorem d_X14_choice_211 : decode b_X14_choice 211 = .ok (.invokevirtual 410, 3) := by decide +kernel
theorem d_X14_choice_214 : decode b_X14_choice 214 = .ok (.aload_n 0, 1) := by decide +kernel
theorem d_X14_choice_215 : decode b_X14_choice 215 = .ok (.iload 10, 2) := by decide +kernel
theorem d_X14_choice_217 : decode b_X14_choice 217 = .ok (.ifCond .eq 19, 3) := by decide +kernel
theorem d_X14_choice_220 : decode b_X14_choice 220 = .ok (.aload 6, 2) := by decide +kernel
theorem d_X14_choice_222 : decode b_X14_choice 222 = .ok (.getfield 352, 3) := by decide +kernel
theorem d_X14_choice_225 : decode b_X14_choice 225 = .ok (.aload 9, 2) := by decide +kernel
theorem d_X14_choice_227 : decode b_X14_choice 227 = .ok (.getfield 352, 3) := by decide +kernel
theorem d_X14_choice_230 : decode b_X14_choice 230 = .ok (.invokestatic 374, 3) := by decide +kernel
theorem d_X14_choice_233 : decode b_X14_choice 233 = .ok (.goto 5, 3) := by decide +kernel
theorem d_X14_choice_236 : decode b_X14_choice 236 = .ok (.bipush (-2), 2) := by decide +kernel
theorem d_X14_choice_238 : decode b_X14_choice 238 = .ok (.aload 6, 2) := by decide +kernel
theorem d_X14_choice_240 : decode b_X14_choice 240 = .ok (.aload 9, 2) := by decide +kernel
theorem d_X14_choice_242 : decode b_X14_choice 242 = .ok (.iload_n 3, 1) := by decide +kernel
theorem d_X14_choice_243 : decode b_X14_choice 243 = .ok (.invokevirtual 414, 3) := by decide +kernel
theorem d_X14_choice_246 : decode b_X14_choice 246 = .ok (.astore 11, 2) := by decide +kernel
theorem d_X14_choice_248 : decode b_X14_choice 248 = .ok (.aload_n 2, 1) := by decide +kernel
theorem d_X14_choice_249 : decode b_X14_choice 249 = .ok (.getfield 371, 3) := by decide +kernel
theorem d_X14_choice_252 : decode b_X14_choice 252 = .ok (.iconst 1, 1) := by decide +kernel
theorem d_X14_choice_253 : decode b_X14_choice 253 = .ok (.iadd, 1) := by decide +kernel
theorem d_X14_choice_254 : decode b_X14_choice 254 = .ok (.aload 11, 2) := by decide +kernel
theorem d_X14_choice_256 : decode b_X14_choice 256 = .ok (.getfield 371, 3) := by decide +kernel
theorem d_X14_choice_259 : decode b_X14_choice 259 = .ok (.if_icmp .le 30, 3) := by decide +kernel
theorem d_X14_choice_262 : decode b_X14_choice 262 = .ok (.aload 11, 2) := by decide +kernel
theorem d_X14_choice_264 : decode b_X14_choice 264 = .ok (.aload_n 2, 1) := by decide +kernel
theorem d_X14_choice_265 : decode b_X14_choice 265 = .ok (.getfield 371, 3) := by decide +kernel
theorem d_X14_choice_268 : decode b_X14_choice 268 = .ok (.iconst 1, 1) := by decide +kernel
theorem d_X14_choice_269 : decode b_X14_choice 269 = .ok (.iadd, 1) := by decide +kernel
theorem d_X14_choice_270 : decode b_X14_choice 270 = .ok (.putfield 371, 3) := by decide +kernel
theorem d_X14_choice_273 : decode b_X14_choice 273 = .ok (.aload 11, 2) := by decide +kernel
theorem d_X14_choice_275 : decode b_X14_choice 275 = .ok (.getfield 371, 3) := by decide +kernel
theorem d_X14_choice_278 : decode b_X14_choice 278 = .ok (.bipush 60, 2) := by decide +kernel
theorem d_X14_choice_280 : decode b_X14_choice 280 = .ok (.if_icmp .le 9, 3) := by decide +kernel
theorem d_X14_choice_283 : decode b_X14_choice 283 = .ok (.aload_n 0, 1) := by decide +kernel
theorem d_X14_choice_284 : decode b_X14_choice 284 = .ok (.iconst 4, 1) := by decide +kernel
theorem d_X14_choice_285 : decode b_X14_choice 285 = .ok (.iload_n 3, 1) := by decide +kernel
theorem d_X14_choice_286 : decode b_X14_choice 286 = .ok (.invokevirtual 304, 3) := by decide +kernel
theorem d_X14_choice_289 : decode b_X14_choice 289 = .ok (.aload 11, 2) := by decide +kernel
theorem d_X14_choice_291 : decode b_X14_choice 291 = .ok (.areturn, 1) := by decide +kernel
theorem d_X14_clear_0 : decode b_X14_clear 0 = .ok (.aload_n 0, 1) := by decide +kernel
theorem d_X14_clear_1 : decode b_X14_clear 1 = .ok (.getfield 41, 3) := by decide +kernel
theorem d_X14_clear_4 : decode b_X14_clear 4 = .ok (.aload_n 0, 1) := by decide +kernel
theorem d_X14_clear_5 : decode b_X14_clear 5 = .ok (.iload_n 1, 1) := by decide +kernel
theorem d_X14_clear_6 : decode b_X14_clear 6 = .ok (.invokevirtual 793, 3) := by decide +kernel
theorem d_X14_clear_9 : decode b_X14_clear 9 = .ok (.iconst 1, 1) := by decide +kernel
theorem d_X14_clear_10 : decode b_X14_clear 10 = .ok (.iadd, 1) := by decide +kernel
theorem d_X14_clear_11 : decode b_X14_clear 11 = .ok (.iaload, 1) := by decide +kernel
theorem d_X14_clear_12 : decode b_X14_clear 12 = .ok (.istore_n 2, 1) := by decide +kernel
theorem d_X14_clear_13 : decode b_X14_clear 13 = .ok (.aload_n 0, 1) := by decide +kernel
theorem d_X14_clear_14 : decode b_X14_clear 14 = .ok (.getfield 179, 3) := by decide +kernel
theorem d_X14_clear_17 : decode b_X14_clear 17 = .ok (.aload_n 0, 1) := by decide +kernel
theorem d_X14_clear_18 : decode b_X14_clear 18 = .ok (.getfield 771, 3) := by decide +kernel
theorem d_X14_clear_21 : decode b_X14_clear 21 = .ok (.iconst 1, 1) := by decide +kernel
theorem d_X14_clear_22 : decode b_X14_clear 22 = .ok (.isub, 1) := by decide +kernel
theorem d_X14_clear_23 : decode b_X14_clear 23 = .ok (.iaload, 1) := by decide +kernel
theorem d_X14_clear_24 : decode b_X14_clear 24 = .ok (.aload_n 0, 1) := by decide +kernel
theorem d_X14_clear_25 : decode b_X14_clear 25 = .ok (.getfield 41, 3) := by decide +kernel
theorem d_X14_clear_28 : decode b_X14_clear 28 = .ok (.aload_n 0, 1) := by decide +kernel
theorem d_X14_clear_29 : decode b_X14_clear 29 = .ok (.iload_n 1, 1) := by decide +kernel
theorem d_X14_clear_30 : decode b_X14_clear 30 = .ok (.invokevirtual 793, 3) := by decide +kernel
theorem d_X14_clear_33 : decode b_X14_clear 33 = .ok (.iaload, 1) := by decide +kernel
theorem d_X14_clear_34 : decode b_X14_clear 34 = .ok (.iadd, 1) := by decide +kernel
theorem d_X14_clear_35 : decode b_X14_clear 35 = .ok (.istore_n 3, 1) := by decide +kernel
theorem d_X14_clear_36 : decode b_X14_clear 36 = .ok (.iconst 0, 1) := by decide +kernel
theorem d_X14_clear_37 : decode b_X14_clear 37 = .ok (.istore 4, 2) := by decide +kernel
theorem d_X14_clear_39 : decode b_X14_clear 39 = .ok (.iload 4, 2) := by decide +kernel
theorem d_X14_clear_41 : decode b_X14_clear 41 = .ok (.iload_n 2, 1) := by decide +kernel
theorem d_X14_clear_42 : decode b_X14_clear 42 = .ok (.if_icmp .ge 19, 3) := by decide +kernel
theorem d_X14_clear_45 : decode b_X14_clear 45 = .ok (.aload_n 0, 1) := by decide +kernel
theorem d_X14_clear_46 : decode b_X14_clear 46 = .ok (.getfield 169, 3) := by decide +kernel
theorem d_X14_clear_49 : decode b_X14_clear 49 = .ok (.iload_n 3, 1) := by decide +kernel
theorem d_X14_clear_50 : decode b_X14_clear 50 = .ok (.iload 4, 2) := by decide +kernel
theorem d_X14_clear_52 : decode b_X14_clear 52 = .ok (.iadd, 1) := by decide +kernel
theorem d_X14_clear_53 : decode b_X14_clear 53 = .ok (.iconst 0, 1) := by decide +kernel
theorem d_X14_clear_54 : decode b_X14_clear 54 = .ok (.iastore, 1) := by decide +kernel
theorem d_X14_clear_55 : decode b_X14_clear 55 = .ok (.iinc 4 1, 3) := by decide +kernel
theorem d_X14_clear_58 : decode b_X14_clear 58 = .ok (.goto (-19), 3) := by decide +kernel
theorem d_X14_clear_61 : decode b_X14_clear 61 = .ok (.iload_n 2, 1) := by decide +kernel
theorem d_X14_clear_62 : decode b_X14_clear 62 = .ok (.ifCond .ne 9, 3) := by decide +kernel
theorem d_X14_clear_65 : decode b_X14_clear 65 = .ok (.aload_n 0, 1) := by decide +kernel
theorem d_X14_clear_66 : decode b_X14_clear 66 = .ok (.iload_n 1, 1) := by decide +kernel
theorem d_X14_clear_67 : decode b_X14_clear 67 = .ok (.iconst 0, 1) := by decide +kernel
theorem d_X14_clear_68 : decode b_X14_clear 68 = .ok (.invokevirtual 790, 3) := by decide +kernel
theorem d_X14_clear_71 : decode b_X14_clear 71 = .ok (.return_, 1) := by decide +kernel
theorem d_X14_close_0 : decode b_X14_close 0 = .ok (.aload_n 0, 1) := by decide +kernel
theorem d_X14_close_1 : decode b_X14_close 1 = .ok (.getfield 340, 3) := by decide +kernel
theorem d_X14_close_4 : decode b_X14_close 4 = .ok (.ifCond .le 34, 3) := by decide +kernel
theorem d_X14_close_7 : decode b_X14_close 7 = .ok (.aload_n 0, 1) := by decide +kernel
theorem d_X14_close_8 : decode b_X14_close 8 = .ok (.getfield 129, 3) := by decide +kernel
theorem d_X14_close_11 : decode b_X14_close 11 = .ok (.aload_n 0, 1) := by decide +kernel
theorem d_X14_close_12 : decode b_X14_close 12 = .ok (.getfield 340, 3) := by decide +kernel
theorem d_X14_close_15 : decode b_X14_close 15 = .ok (.iconst 1, 1) := by decide +kernel
theorem d_X14_close_16 : decode b_X14_close 16 = .ok (.isub, 1) := by decide +kernel
theorem d_X14_close_17 : decode b_X14_close 17 = .ok (.iaload, 1) := by decide +kernel
theorem d_X14_close_18 : decode b_X14_close 18 = .ok (.aload_n 0, 1) := by decide +kernel
theorem d_X14_close_19 : decode b_X14_close 19 = .ok (.getfield 346, 3) := by decide +kernel
theorem d_X14_close_22 : decode b_X14_close 22 = .ok (.if_icmp .ne 16, 3) := by decide +kernel
theorem d_X14_close_25 : decode b_X14_close 25 = .ok (.aload_n 0, 1) := by decide +kernel
theorem d_X14_close_26 : decode b_X14_close 26 = .ok (.dup, 1) := by decide +kernel
theorem d_X14_close_27 : decode b_X14_close 27 = .ok (.getfield 340, 3) := by decide +kernel
theorem d_X14_close_30 : decode b_X14_close 30 = .ok (.iconst 1, 1) := by decide +kernel
theorem d_X14_close_31 : decode b_X14_close 31 = .ok (.isub, 1) := by decide +kernel
theorem d_X14_close_32 : decode b_X14_close 32 = .ok (.putfield 340, 3) := by decide +kernel
theorem d_X14_close_35 : decode b_X14_close 35 = .ok (.goto (-35), 3) := by decide +kernel
theorem d_X14_close_38 : decode b_X14_close 38 = .ok (.aload_n 0, 1) := by decide +kernel
theorem d_X14_close_39 : decode b_X14_close 39 = .ok (.dup, 1) := by decide +kernel
theorem d_X14_close_40 : decode b_X14_close 40 = .ok (.getfield 346, 3) := by decide +kernel
theorem d_X14_close_43 : decode b_X14_close 43 = .ok (.iconst 1, 1) := by decide +kernel
theorem d_X14_close_44 : decode b_X14_close 44 = .ok (.isub, 1) := by decide +kernel
theorem d_X14_close_45 : decode b_X14_close 45 = .ok (.putfield 346, 3) := by decide +kernel
theorem d_X14_close_48 : decode b_X14_close 48 = .ok (.return_, 1) := by decide +kernel
theorem d_X14_code_0 : decode b_X14_code 0 = .ok (.aload_n 0, 1) := by decide +kernel
theorem d_X14_code_1 : decode b_X14_code 1 = .ok (.iload_n 1, 1) := by decide +kernel
theorem d_X14_code_2 : decode b_X14_code 2 = .ok (.invokevirtual 209, 3) := by decide +kernel
theorem d_X14_code_5 : decode b_X14_code 5 = .ok (.istore_n 3, 1) := by decide +kernel
theorem d_X14_code_6 : decode b_X14_code 6 = .ok (.iload_n 3, 1) := by decide +kernel
theorem d_X14_code_7 : decode b_X14_code 7 = .ok (.bipush 92, 2) := by decide +kernel
theorem d_X14_code_9 : decode b_X14_code 9 = .ok (.if_icmp .ne 63, 3) := by decide +kernel
theorem d_X14_code_12 : decode b_X14_code 12 = .ok (.aload_n 0, 1) := by decide +kernel
theorem d_X14_code_13 : decode b_X14_code 13 = .ok (.iload_n 1, 1) := by decide +kernel
theorem d_X14_code_14 : decode b_X14_code 14 = .ok (.iconst 1, 1) := by decide +kernel
theorem d_X14_code_15 : decode b_X14_code 15 = .ok (.iadd, 1) := by decide +kernel
theorem d_X14_code_16 : decode b_X14_code 16 = .ok (.invokevirtual 209, 3) := by decide +kernel
theorem d_X14_code_19 : decode b_X14_code 19 = .ok (.istore 4, 2) := by decide +kernel
theorem d_X14_code_21 : decode b_X14_code 21 = .ok (.iload 4, 2) := by decide +kernel
theorem d_X14_code_23 : decode b_X14_code 23 = .ok (.bipush 110, 2) := by decide +kernel
theorem d_X14_code_25 : decode b_X14_code 25 = .ok (.if_icmp .ne 8, 3) := by decide +kernel
theorem d_X14_code_28 : decode b_X14_code 28 = .ok (.bipush 10, 2) := by decide +kernel
theorem d_X14_code_30 : decode b_X14_code 30 = .ok (.goto 41, 3) := by decide +kernel
theorem d_X14_code_33 : decode b_X14_code 33 = .ok (.iload 4, 2) := by decide +kernel
theorem d_X14_code_35 : decode b_X14_code 35 = .ok (.bipush 48, 2) := by decide +kernel
theorem d_X14_code_37 : decode b_X14_code 37 = .ok (.if_icmp .ne 7, 3) := by decide +kernel
theorem d_X14_code_40 : decode b_X14_code 40 = .ok (.iconst 0, 1) := by decide +kernel
theorem d_X14_code_41 : decode b_X14_code 41 = .ok (.goto 30, 3) := by decide +kernel
theorem d_X14_code_44 : decode b_X14_code 44 = .ok (.iload 4, 2) := by decide +kernel
theorem d_X14_code_46 : decode b_X14_code 46 = .ok (.bipush 92, 2) := by decide +kernel
theorem d_X14_code_48 : decode b_X14_code 48 = .ok (.if_icmp .eq 17, 3) := by decide +kernel
theorem d_X14_code_51 : decode b_X14_code 51 = .ok (.iload 4, 2) := by decide +kernel
theorem d_X14_code_53 : decode b_X14_code 53 = .ok (.bipush 39, 2) := by decide +kernel
theorem d_X14_code_55 : decode b_X14_code 55 = .ok (.if_icmp .eq 10, 3) := by decide +kernel
theorem d_X14_code_58 : decode b_X14_code 58 = .ok (.iload 4, 2) := by decide +kernel
theorem d_X14_code_60 : decode b_X14_code 60 = .ok (.bipush 34, 2) := by decide +kernel
theorem d_X14_code_62 : decode b_X14_code 62 = .ok (.if_icmp .ne 8, 3) := by decide +kernel
theorem d_X14_code_65 : decode b_X14_code 65 = .ok (.iload 4, 2) := by decide +kernel
theorem d_X14_code_67 : decode b_X14_code 67 = .ok (.goto 4, 3) := by decide +kernel
theorem d_X14_code_70 : decode b_X14_code 70 = .ok (.iconst (-1), 1) := by decide +kernel
theorem d_X14_code_71 : decode b_X14_code 71 = .ok (.ireturn, 1) := by decide +kernel
theorem d_X14_code_72 : decode b_X14_code 72 = .ok (.iload_n 3, 1) := by decide +kernel
theorem d_X14_code_73 : decode b_X14_code 73 = .ok (.bipush 32, 2) := by decide +kernel
theorem d_X14_code_75 : decode b_X14_code 75 = .ok (.if_icmp .lt 18, 3) := by decide +kernel
theorem d_X14_code_78 : decode b_X14_code 78 = .ok (.iload_n 3, 1) := by decide +kernel
theorem d_X14_code_79 : decode b_X14_code 79 = .ok (.bipush 126, 2) := by decide +kernel
theorem d_X14_code_81 : decode b_X14_code 81 = .ok (.if_icmp .gt 12, 3) := by decide +kernel
theorem d_X14_code_84 : decode b_X14_code 84 = .ok (.iload_n 3, 1) := by decide +kernel
theorem d_X14_code_85 : decode b_X14_code 85 = .ok (.iload_n 2, 1) := by decide +kernel
theorem d_X14_code_86 : decode b_X14_code 86 = .ok (.if_icmp .eq 7, 3) := by decide +kernel
theorem d_X14_code_89 : decode b_X14_code 89 = .ok (.iload_n 3, 1) := by decide +kernel
theorem d_X14_code_90 : decode b_X14_code 90 = .ok (.goto 4, 3) := by decide +kernel
theorem d_X14_code_93 : decode b_X14_code 93 = .ok (.iconst (-1), 1) := by decide +kernel
theorem d_X14_code_94 : decode b_X14_code 94 = .ok (.ireturn, 1) := by decide +kernel
theorem d_X14_codeEnd_0 : decode b_X14_codeEnd 0 = .ok (.aload_n 0, 1) := by decide +kernel
theorem d_X14_codeEnd_1 : decode b_X14_codeEnd 1 = .ok (.iload_n 1, 1) := by decide +kernel
theorem d_X14_codeEnd_2 : decode b_X14_codeEnd 2 = .ok (.iconst 1, 1) := by decide +kernel
theorem d_X14_codeEnd_3 : decode b_X14_codeEnd 3 = .ok (.iadd, 1) := by decide +kernel
theorem d_X14_codeEnd_4 : decode b_X14_codeEnd 4 = .ok (.bipush 39, 2) := by decide +kernel
theorem d_X14_codeEnd_6 : decode b_X14_codeEnd 6 = .ok (.invokevirtual 283, 3) := by decide +kernel
theorem d_X14_codeEnd_9 : decode b_X14_codeEnd 9 = .ok (.istore_n 3, 1) := by decide +kernel
theorem d_X14_codeEnd_10 : decode b_X14_codeEnd 10 = .ok (.iload_n 1, 1) := by decide +kernel
theorem d_X14_codeEnd_11 : decode b_X14_codeEnd 11 = .ok (.aload_n 0, 1) := by decide +kernel
theorem d_X14_codeEnd_12 : decode b_X14_codeEnd 12 = .ok (.iload_n 1, 1) := by decide +kernel
theorem d_X14_codeEnd_13 : decode b_X14_codeEnd 13 = .ok (.iconst 1, 1) := by decide +kernel
theorem d_X14_codeEnd_14 : decode b_X14_codeEnd 14 = .ok (.iadd, 1) := by decide +kernel
theorem d_X14_codeEnd_15 : decode b_X14_codeEnd 15 = .ok (.invokevirtual 209, 3) := by decide +kernel
theorem d_X14_codeEnd_18 : decode b_X14_codeEnd 18 = .ok (.bipush 92, 2) := by decide +kernel
theorem d_X14_codeEnd_20 : decode b_X14_codeEnd 20 = .ok (.if_icmp .ne 7, 3) := by decide +kernel
theorem d_X14_codeEnd_23 : decode b_X14_codeEnd 23 = .ok (.iconst 3, 1) := by decide +kernel
theorem d_X14_codeEnd_24 : decode b_X14_codeEnd 24 = .ok (.goto 4, 3) := by decide +kernel
theorem d_X14_codeEnd_27 : decode b_X14_codeEnd 27 = .ok (.iconst 2, 1) := by decide +kernel
theorem d_X14_codeEnd_28 : decode b_X14_codeEnd 28 = .ok (.iadd, 1) := by decide +kernel
theorem d_X14_codeEnd_29 : decode b_X14_codeEnd 29 = .ok (.istore 4, 2) := by decide +kernel
theorem d_X14_codeEnd_31 : decode b_X14_codeEnd 31 = .ok (.iload_n 3, 1) := by decide +kernel
theorem d_X14_codeEnd_32 : decode b_X14_codeEnd 32 = .ok (.ifCond .lt 14, 3) := by decide +kernel
theorem d_X14_codeEnd_35 : decode b_X14_codeEnd 35 = .ok (.aload_n 0, 1) := by decide +kernel
theorem d_X14_codeEnd_36 : decode b_X14_codeEnd 36 = .ok (.iload 4, 2) := by decide +kernel
theorem d_X14_codeEnd_38 : decode b_X14_codeEnd 38 = .ok (.invokevirtual 209, 3) := by decide +kernel
theorem d_X14_codeEnd_41 : decode b_X14_codeEnd 41 = .ok (.bipush 39, 2) := by decide +kernel
theorem d_X14_codeEnd_43 : decode b_X14_codeEnd 43 = .ok (.if_icmp .eq 9, 3) := by decide +kernel
theorem d_X14_codeEnd_46 : decode b_X14_codeEnd 46 = .ok (.aload_n 0, 1) := by decide +kernel
theorem d_X14_codeEnd_47 : decode b_X14_codeEnd 47 = .ok (.iload_n 1, 1) := by decide +kernel
theorem d_X14_codeEnd_48 : decode b_X14_codeEnd 48 = .ok (.invokevirtual 234, 3) := by decide +kernel
theorem d_X14_codeEnd_51 : decode b_X14_codeEnd 51 = .ok (.ireturn, 1) := by decide +kernel
theorem d_X14_codeEnd_52 : decode b_X14_codeEnd 52 = .ok (.aload_n 0, 1) := by decide +kernel
theorem d_X14_codeEnd_53 : decode b_X14_codeEnd 53 = .ok (.iconst 3, 1) := by decide +kernel
theorem d_X14_codeEnd_54 : decode b_X14_codeEnd 54 = .ok (.iload_n 1, 1) := by decide +kernel
theorem d_X14_codeEnd_55 : decode b_X14_codeEnd 55 = .ok (.iload 4, 2) := by decide +kernel
theorem d_X14_codeEnd_57 : decode b_X14_codeEnd 57 = .ok (.iconst 1, 1) := by decide +kernel
theorem d_X14_codeEnd_58 : decode b_X14_codeEnd 58 = .ok (.iadd, 1) := by decide +kernel
theorem d_X14_codeEnd_59 : decode b_X14_codeEnd 59 = .ok (.iload_n 2, 1) := by decide +kernel
theorem d_X14_codeEnd_60 : decode b_X14_codeEnd 60 = .ok (.iload_n 3, 1) := by decide +kernel
theorem d_X14_codeEnd_61 : decode b_X14_codeEnd 61 = .ok (.invokevirtual 217, 3) := by decide +kernel
theorem d_X14_codeEnd_64 : decode b_X14_codeEnd 64 = .ok (.iload 4, 2) := by decide +kernel
theorem d_X14_codeEnd_66 : decode b_X14_codeEnd 66 = .ok (.iconst 1, 1) := by decide +kernel
theorem d_X14_codeEnd_67 : decode b_X14_codeEnd 67 = .ok (.iadd, 1) := by decide +kernel
theorem d_X14_codeEnd_68 : decode b_X14_codeEnd 68 = .ok (.ireturn, 1) := by decide +kernel
theorem d_X14_codes_0 : decode b_X14_codes 0 = .ok (.aload_n 0, 1) := by decide +kernel
theorem d_X14_codes_1 : decode b_X14_codes 1 = .ok (.getfield 17, 3) := by decide +kernel
theorem d_X14_codes_4 : decode b_X14_codes 4 = .ok (.iload_n 1, 1) := by decide +kernel
theorem d_X14_codes_5 : decode b_X14_codes 5 = .ok (.iaload, 1) := by decide +kernel
theorem d_X14_codes_6 : decode b_X14_codes 6 = .ok (.iconst 1, 1) := by decide +kernel
theorem d_X14_codes_7 : decode b_X14_codes 7 = .ok (.iadd, 1) := by decide +kernel
theorem d_X14_codes_8 : decode b_X14_codes 8 = .ok (.istore_n 3, 1) := by decide +kernel
theorem d_X14_codes_9 : decode b_X14_codes 9 = .ok (.iconst 0, 1) := by decide +kernel
theorem d_X14_codes_10 : decode b_X14_codes 10 = .ok (.istore 4, 2) := by decide +kernel
theorem d_X14_codes_12 : decode b_X14_codes 12 = .ok (.iload 4, 2) := by decide +kernel
theorem d_X14_codes_14 : decode b_X14_codes 14 = .ok (.aload_n 0, 1) := by decide +kernel
theorem d_X14_codes_15 : decode b_X14_codes 15 = .ok (.getfield 26, 3) := by decide +kernel
theorem d_X14_codes_18 : decode b_X14_codes 18 = .ok (.iload_n 1, 1) := by decide +kernel
theorem d_X14_codes_19 : decode b_X14_codes 19 = .ok (.iaload, 1) := by decide +kernel
theorem d_X14_codes_20 : decode b_X14_codes 20 = .ok (.if_icmp .ge 43, 3) := by decide +kernel
theorem d_X14_codes_23 : decode b_X14_codes 23 = .ok (.aload_n 0, 1) := by decide +kernel
theorem d_X14_codes_24 : decode b_X14_codes 24 = .ok (.iload_n 2, 1) := by decide +kernel
theorem d_X14_codes_25 : decode b_X14_codes 25 = .ok (.iload 4, 2) := by decide +kernel
theorem d_X14_codes_27 : decode b_X14_codes 27 = .ok (.iadd, 1) := by decide +kernel
theorem d_X14_codes_28 : decode b_X14_codes 28 = .ok (.aload_n 0, 1) := by decide +kernel
theorem d_X14_codes_29 : decode b_X14_codes 29 = .ok (.iload_n 3, 1) := by decide +kernel
theorem d_X14_codes_30 : decode b_X14_codes 30 = .ok (.bipush 34, 2) := by decide +kernel
theorem d_X14_codes_32 : decode b_X14_codes 32 = .ok (.invokevirtual 283, 3) := by decide +kernel
theorem d_X14_codes_35 : decode b_X14_codes 35 = .ok (.iconst 0, 1) := by decide +kernel
theorem d_X14_codes_36 : decode b_X14_codes 36 = .ok (.invokevirtual 521, 3) := by decide +kernel
theorem d_X14_codes_39 : decode b_X14_codes 39 = .ok (.iload_n 3, 1) := by decide +kernel
theorem d_X14_codes_40 : decode b_X14_codes 40 = .ok (.aload_n 0, 1) := by decide +kernel
theorem d_X14_codes_41 : decode b_X14_codes 41 = .ok (.iload_n 3, 1) := by decide +kernel
theorem d_X14_codes_42 : decode b_X14_codes 42 = .ok (.invokevirtual 209, 3) := by decide +kernel
theorem d_X14_codes_45 : decode b_X14_codes 45 = .ok (.bipush 92, 2) := by decide +kernel
theorem d_X14_codes_47 : decode b_X14_codes 47 = .ok (.if_icmp .ne 7, 3) := by decide +kernel
theorem d_X14_codes_50 : decode b_X14_codes 50 = .ok (.iconst 2, 1) := by decide +kernel
theorem d_X14_codes_51 : decode b_X14_codes 51 = .ok (.goto 4, 3) := by decide +kernel
theorem d_X14_codes_54 : decode b_X14_codes 54 = .ok (.iconst 1, 1) := by decide +kernel
theorem d_X14_codes_55 : decode b_X14_codes 55 = .ok (.iadd, 1) := by decide +kernel
theorem d_X14_codes_56 : decode b_X14_codes 56 = .ok (.istore_n 3, 1) := by decide +kernel
theorem d_X14_codes_57 : decode b_X14_codes 57 = .ok (.iinc 4 1, 3) := by decide +kernel
theorem d_X14_codes_60 : decode b_X14_codes 60 = .ok (.goto (-48), 3) := by decide +kernel
theorem d_X14_codes_63 : decode b_X14_codes 63 = .ok (.return_, 1) := by decide +kernel
theorem d_X14_compared_0 : decode b_X14_compared 0 = .ok (.iload_n 0, 1) := by decide +kernel
theorem d_X14_compared_1 : decode b_X14_compared 1 = .ok (.bipush 34, 2) := by decide +kernel
theorem d_X14_compared_3 : decode b_X14_compared 3 = .ok (.if_icmp .ne 16, 3) := by decide +kernel
theorem d_X14_compared_6 : decode b_X14_compared 6 = .ok (.iload_n 1, 1) := by decide +kernel
theorem d_X14_compared_7 : decode b_X14_compared 7 = .ok (.iload_n 2, 1) := by decide +kernel
theorem d_X14_compared_8 : decode b_X14_compared 8 = .ok (.if_icmp .ge 7, 3) := by decide +kernel
theorem d_X14_compared_11 : decode b_X14_compared 11 = .ok (.iconst 1, 1) := by decide +kernel
theorem d_X14_compared_12 : decode b_X14_compared 12 = .ok (.goto 55, 3) := by decide +kernel
theorem d_X14_compared_15 : decode b_X14_compared 15 = .ok (.iconst 0, 1) := by decide +kernel
theorem d_X14_compared_16 : decode b_X14_compared 16 = .ok (.goto 51, 3) := by decide +kernel
theorem d_X14_compared_19 : decode b_X14_compared 19 = .ok (.iload_n 0, 1) := by decide +kernel
theorem d_X14_compared_20 : decode b_X14_compared 20 = .ok (.bipush 35, 2) := by decide +kernel
theorem d_X14_compared_22 : decode b_X14_compared 22 = .ok (.if_icmp .ne 16, 3) := by decide +kernel
theorem d_X14_compared_25 : decode b_X14_compared 25 = .ok (.iload_n 1, 1) := by decide +kernel
theorem d_X14_compared_26 : decode b_X14_compared 26 = .ok (.iload_n 2, 1) := by decide +kernel
theorem d_X14_compared_27 : decode b_X14_compared 27 = .ok (.if_icmp .le 7, 3) := by decide +kernel
theorem d_X14_compared_30 : decode b_X14_compared 30 = .ok (.iconst 1, 1) := by decide +kernel
theorem d_X14_compared_31 : decode b_X14_compared 31 = .ok (.goto 36, 3) := by decide +kernel
theorem d_X14_compared_34 : decode b_X14_compared 34 = .ok (.iconst 0, 1) := by decide +kernel
theorem d_X14_compared_35 : decode b_X14_compared 35 = .ok (.goto 32, 3) := by decide +kernel
theorem d_X14_compared_38 : decode b_X14_compared 38 = .ok (.iload_n 0, 1) := by decide +kernel
theorem d_X14_compared_39 : decode b_X14_compared 39 = .ok (.bipush 14, 2) := by decide +kernel
theorem d_X14_compared_41 : decode b_X14_compared 41 = .ok (.if_icmp .ne 16, 3) := by decide +kernel
theorem d_X14_compared_44 : decode b_X14_compared 44 = .ok (.iload_n 1, 1) := by decide +kernel
theorem d_X14_compared_45 : decode b_X14_compared 45 = .ok (.iload_n 2, 1) := by decide +kernel
theorem d_X14_compared_46 : decode b_X14_compared 46 = .ok (.if_icmp .gt 7, 3) := by decide +kernel
theorem d_X14_compared_49 : decode b_X14_compared 49 = .ok (.iconst 1, 1) := by decide +kernel
theorem d_X14_compared_50 : decode b_X14_compared 50 = .ok (.goto 17, 3) := by decide +kernel
theorem d_X14_compared_53 : decode b_X14_compared 53 = .ok (.iconst 0, 1) := by decide +kernel
theorem d_X14_compared_54 : decode b_X14_compared 54 = .ok (.goto 13, 3) := by decide +kernel
theorem d_X14_compared_57 : decode b_X14_compared 57 = .ok (.iload_n 1, 1) := by decide +kernel
theorem d_X14_compared_58 : decode b_X14_compared 58 = .ok (.iload_n 2, 1) := by decide +kernel
theorem d_X14_compared_59 : decode b_X14_compared 59 = .ok (.if_icmp .lt 7, 3) := by decide +kernel
theorem d_X14_compared_62 : decode b_X14_compared 62 = .ok (.iconst 1, 1) := by decide +kernel
theorem d_X14_compared_63 : decode b_X14_compared 63 = .ok (.goto 4, 3) := by decide +kernel
theorem d_X14_compared_66 : decode b_X14_compared 66 = .ok (.iconst 0, 1) := by decide +kernel
theorem d_X14_compared_67 : decode b_X14_compared 67 = .ok (.ireturn, 1) := by decide +kernel
theorem d_X14_compile_0 : decode b_X14_compile 0 = .ok (.aload_n 0, 1) := by decide +kernel
theorem d_X14_compile_1 : decode b_X14_compile 1 = .ok (.aload_n 0, 1) := by decide +kernel
theorem d_X14_compile_2 : decode b_X14_compile 2 = .ok (.getfield 197, 3) := by decide +kernel
theorem d_X14_compile_5 : decode b_X14_compile 5 = .ok (.putfield 203, 3) := by decide +kernel
theorem d_X14_compile_8 : decode b_X14_compile 8 = .ok (.aload_n 0, 1) := by decide +kernel
theorem d_X14_compile_9 : decode b_X14_compile 9 = .ok (.iconst 0, 1) := by decide +kernel
theorem d_X14_compile_10 : decode b_X14_compile 10 = .ok (.putfield 197, 3) := by decide +kernel
theorem d_X14_compile_13 : decode b_X14_compile 13 = .ok (.aload_n 0, 1) := by decide +kernel
theorem d_X14_compile_14 : decode b_X14_compile 14 = .ok (.iconst (-1), 1) := by decide +kernel
theorem d_X14_compile_15 : decode b_X14_compile 15 = .ok (.putfield 36, 3) := by decide +kernel
theorem d_X14_compile_18 : decode b_X14_compile 18 = .ok (.iload_n 1, 1) := by decide +kernel
theorem d_X14_compile_19 : decode b_X14_compile 19 = .ok (.ifCond .lt 17, 3) := by decide +kernel
theorem d_X14_compile_22 : decode b_X14_compile 22 = .ok (.iload_n 1, 1) := by decide +kernel
theorem d_X14_compile_23 : decode b_X14_compile 23 = .ok (.iconst 3, 1) := by decide +kernel
theorem d_X14_compile_24 : decode b_X14_compile 24 = .ok (.if_icmp .gt 12, 3) := by decide +kernel
theorem d_X14_compile_27 : decode b_X14_compile 27 = .ok (.aload_n 0, 1) := by decide +kernel
theorem d_X14_compile_28 : decode b_X14_compile 28 = .ok (.getfield 327, 3) := by decide +kernel
theorem d_X14_compile_31 : decode b_X14_compile 31 = .ok (.bipush 100, 2) := by decide +kernel
theorem d_X14_compile_33 : decode b_X14_compile 33 = .ok (.if_icmp .ne 6, 3) := by decide +kernel
theorem d_X14_compile_36 : decode b_X14_compile 36 = .ok (.bipush (-14), 2) := by decide +kernel
theorem d_X14_compile_38 : decode b_X14_compile 38 = .ok (.ireturn, 1) := by decide +kernel
theorem d_X14_compile_39 : decode b_X14_compile 39 = .ok (.aload_n 0, 1) := by decide +kernel
theorem d_X14_compile_40 : decode b_X14_compile 40 = .ok (.getfield 315, 3) := by decide +kernel
theorem d_X14_compile_43 : decode b_X14_compile 43 = .ok (.istore_n 2, 1) := by decide +kernel
theorem d_X14_compile_44 : decode b_X14_compile 44 = .ok (.aload_n 0, 1) := by decide +kernel
theorem d_X14_compile_45 : decode b_X14_compile 45 = .ok (.getfield 337, 3) := by decide +kernel
theorem d_X14_compile_48 : decode b_X14_compile 48 = .ok (.istore_n 3, 1) := by decide +kernel
theorem d_X14_compile_49 : decode b_X14_compile 49 = .ok (.aload_n 0, 1) := by decide +kernel
theorem d_X14_compile_50 : decode b_X14_compile 50 = .ok (.getfield 656, 3) := by decide +kernel
theorem d_X14_compile_53 : decode b_X14_compile 53 = .ok (.istore 4, 2) := by decide +kernel
theorem d_X14_compile_55 : decode b_X14_compile 55 = .ok (.aload_n 0, 1) := by decide +kernel
theorem d_X14_compile_56 : decode b_X14_compile 56 = .ok (.getfield 324, 3) := by decide +kernel
theorem d_X14_compile_59 : decode b_X14_compile 59 = .ok (.istore 5, 2) := by decide +kernel
theorem d_X14_compile_61 : decode b_X14_compile 61 = .ok (.aload_n 0, 1) := by decide +kernel
theorem d_X14_compile_62 : decode b_X14_compile 62 = .ok (.getfield 86, 3) := by decide +kernel
theorem d_X14_compile_65 : decode b_X14_compile 65 = .ok (.aload_n 0, 1) := by decide +kernel
theorem d_X14_compile_66 : decode b_X14_compile 66 = .ok (.getfield 327, 3) := by decide +kernel
theorem d_X14_compile_69 : decode b_X14_compile 69 = .ok (.aload_n 0, 1) := by decide +kernel
theorem d_X14_compile_70 : decode b_X14_compile 70 = .ok (.getfield 330, 3) := by decide +kernel
theorem d_X14_compile_73 : decode b_X14_compile 73 = .ok (.iastore, 1) := by decide +kernel
theorem d_X14_compile_74 : decode b_X14_compile 74 = .ok (.aload_n 0, 1) := by decide +kernel
theorem d_X14_compile_75 : decode b_X14_compile 75 = .ok (.getfield 92, 3) := by decide +kernel
theorem d_X14_compile_78 : decode b_X14_compile 78 = .ok (.aload_n 0, 1) := by decide +kernel
theorem d_X14_compile_79 : decode b_X14_compile 79 = .ok (.getfield 327, 3) := by decide +kernel
theorem d_X14_compile_82 : decode b_X14_compile 82 = .ok (.aload_n 0, 1) := by decide +kernel
theorem d_X14_compile_83 : decode b_X14_compile 83 = .ok (.getfield 324, 3) := by decide +kernel
theorem d_X14_compile_86 : decode b_X14_compile 86 = .ok (.iastore, 1) := by decide +kernel
theorem d_X14_compile_87 : decode b_X14_compile 87 = .ok (.aload_n 0, 1) := by decide +kernel
theorem d_X14_compile_88 : decode b_X14_compile 88 = .ok (.iconst 0, 1) := by decide +kernel
theorem d_X14_compile_89 : decode b_X14_compile 89 = .ok (.putfield 515, 3) := by decide +kernel
theorem d_X14_compile_92 : decode b_X14_compile 92 = .ok (.aload_n 0, 1) := by decide +kernel
theorem d_X14_compile_93 : decode b_X14_compile 93 = .ok (.iconst 0, 1) := by decide +kernel
theorem d_X14_compile_94 : decode b_X14_compile 94 = .ok (.putfield 295, 3) := by decide +kernel
theorem d_X14_compile_97 : decode b_X14_compile 97 = .ok (.aload_n 0, 1) := by decide +kernel
theorem d_X14_compile_98 : decode b_X14_compile 98 = .ok (.iconst 0, 1) := by decide +kernel
theorem d_X14_compile_99 : decode b_X14_compile 99 = .ok (.putfield 298, 3) := by decide +kernel
theorem d_X14_compile_102 : decode b_X14_compile 102 = .ok (.aload_n 0, 1) := by decide +kernel
theorem d_X14_compile_103 : decode b_X14_compile 103 = .ok (.iconst 0, 1) := by decide +kernel
theorem d_X14_compile_104 : decode b_X14_compile 104 = .ok (.putfield 340, 3) := by decide +kernel
theorem d_X14_compile_107 : decode b_X14_compile 107 = .ok (.aload_n 0, 1) := by decide +kernel
theorem d_X14_compile_108 : decode b_X14_compile 108 = .ok (.iconst 0, 1) := by decide +kernel
theorem d_X14_compile_109 : decode b_X14_compile 109 = .ok (.putfield 346, 3) := by decide +kernel
theorem d_X14_compile_112 : decode b_X14_compile 112 = .ok (.aload_n 0, 1) := by decide +kernel
theorem d_X14_compile_113 : decode b_X14_compile 113 = .ok (.iconst 0, 1) := by decide +kernel
theorem d_X14_compile_114 : decode b_X14_compile 114 = .ok (.putfield 349, 3) := by decide +kernel
theorem d_X14_compile_117 : decode b_X14_compile 117 = .ok (.aload_n 0, 1) := by decide +kernel
theorem d_X14_compile_118 : decode b_X14_compile 118 = .ok (.invokevirtual 669, 3) := by decide +kernel
theorem d_X14_compile_121 : decode b_X14_compile 121 = .ok (.istore 6, 2) := by decide +kernel
theorem d_X14_compile_123 : decode b_X14_compile 123 = .ok (.iload 6, 2) := by decide +kernel
theorem d_X14_compile_125 : decode b_X14_compile 125 = .ok (.ifCond .ge 41, 3) := by decide +kernel
theorem d_X14_compile_128 : decode b_X14_compile 128 = .ok (.aload_n 0, 1) := by decide +kernel
theorem d_X14_compile_129 : decode b_X14_compile 129 = .ok (.iload_n 2, 1) := by decide +kernel
theorem d_X14_compile_130 : decode b_X14_compile 130 = .ok (.putfield 315, 3) := by decide +kernel
theorem d_X14_compile_133 : decode b_X14_compile 133 = .ok (.aload_n 0, 1) := by decide +kernel
theorem d_X14_compile_134 : decode b_X14_compile 134 = .ok (.iload_n 3, 1) := by decide +kernel
theorem d_X14_compile_135 : decode b_X14_compile 135 = .ok (.putfield 337, 3) := by decide +kernel
theorem d_X14_compile_138 : decode b_X14_compile 138 = .ok (.aload_n 0, 1) := by decide +kernel
theorem d_X14_compile_139 : decode b_X14_compile 139 = .ok (.iload 4, 2) := by decide +kernel
theorem d_X14_compile_141 : decode b_X14_compile 141 = .ok (.putfield 656, 3) := by decide +kernel
theorem d_X14_compile_144 : decode b_X14_compile 144 = .ok (.aload_n 0, 1) := by decide +kernel
theorem d_X14_compile_145 : decode b_X14_compile 145 = .ok (.iload 5, 2) := by decide +kernel
theorem d_X14_compile_147 : decode b_X14_compile 147 = .ok (.putfield 324, 3) := by decide +kernel
theorem d_X14_compile_150 : decode b_X14_compile 150 = .ok (.aload_n 0, 1) := by decide +kernel
theorem d_X14_compile_151 : decode b_X14_compile 151 = .ok (.aload_n 0, 1) := by decide +kernel
theorem d_X14_compile_152 : decode b_X14_compile 152 = .ok (.getfield 86, 3) := by decide +kernel
theorem d_X14_compile_155 : decode b_X14_compile 155 = .ok (.aload_n 0, 1) := by decide +kernel
theorem d_X14_compile_156 : decode b_X14_compile 156 = .ok (.getfield 327, 3) := by decide +kernel
theorem d_X14_compile_159 : decode b_X14_compile 159 = .ok (.iaload, 1) := by decide +kernel
theorem d_X14_compile_160 : decode b_X14_compile 160 = .ok (.putfield 330, 3) := by decide +kernel
theorem d_X14_compile_163 : decode b_X14_compile 163 = .ok (.iload 6, 2) := by decide +kernel
