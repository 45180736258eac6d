theorem d_X14_symbol_20 : decode b_X14_symbol 20 = .ok (.getfield 57, 3) := by decide +kernel
theorem d_X14_symbol_23 : decode b_X14_symbol 23 = .ok (.iload_n 3, 1) := by decide +kernel
theorem d_X14_symbol_24 : decode b_X14_symbol 24 = .ok (.baload, 1) := by decide +kernel
theorem d_X14_symbol_25 : decode b_X14_symbol 25 = .ok (.ifCond .eq 7, 3) := by decide +kernel
theorem d_X14_symbol_28 : decode b_X14_symbol 28 = .ok (.iconst 4, 1) := by decide +kernel
theorem d_X14_symbol_29 : decode b_X14_symbol 29 = .ok (.goto 4, 3) := by decide +kernel
theorem d_X14_symbol_32 : decode b_X14_symbol 32 = .ok (.iconst 0, 1) := by decide +kernel
theorem d_X14_symbol_33 : decode b_X14_symbol 33 = .ok (.iadd, 1) := by decide +kernel
theorem d_X14_symbol_34 : decode b_X14_symbol 34 = .ok (.aload_n 0, 1) := by decide +kernel
theorem d_X14_symbol_35 : decode b_X14_symbol 35 = .ok (.getfield 57, 3) := by decide +kernel
theorem d_X14_symbol_38 : decode b_X14_symbol 38 = .ok (.iload_n 3, 1) := by decide +kernel
theorem d_X14_symbol_39 : decode b_X14_symbol 39 = .ok (.baload, 1) := by decide +kernel
theorem d_X14_symbol_40 : decode b_X14_symbol 40 = .ok (.ifCond .ne 17, 3) := by decide +kernel
theorem d_X14_symbol_43 : decode b_X14_symbol 43 = .ok (.aload_n 0, 1) := by decide +kernel
theorem d_X14_symbol_44 : decode b_X14_symbol 44 = .ok (.getfield 60, 3) := by decide +kernel
theorem d_X14_symbol_47 : decode b_X14_symbol 47 = .ok (.iload_n 3, 1) := by decide +kernel
theorem d_X14_symbol_48 : decode b_X14_symbol 48 = .ok (.baload, 1) := by decide +kernel
theorem d_X14_symbol_49 : decode b_X14_symbol 49 = .ok (.ifCond .eq 8, 3) := by decide +kernel
theorem d_X14_symbol_52 : decode b_X14_symbol 52 = .ok (.bipush 8, 2) := by decide +kernel
theorem d_X14_symbol_54 : decode b_X14_symbol 54 = .ok (.goto 4, 3) := by decide +kernel
theorem d_X14_symbol_57 : decode b_X14_symbol 57 = .ok (.iconst 0, 1) := by decide +kernel
theorem d_X14_symbol_58 : decode b_X14_symbol 58 = .ok (.iadd, 1) := by decide +kernel
theorem d_X14_symbol_59 : decode b_X14_symbol 59 = .ok (.ireturn, 1) := by decide +kernel
theorem d_X14_pick_0 : decode b_X14_pick 0 = .ok (.aload_n 0, 1) := by decide +kernel
theorem d_X14_pick_1 : decode b_X14_pick 1 = .ok (.iload_n 1, 1) := by decide +kernel
theorem d_X14_pick_2 : decode b_X14_pick 2 = .ok (.invokevirtual 680, 3) := by decide +kernel
theorem d_X14_pick_5 : decode b_X14_pick 5 = .ok (.ifCond .ne 5, 3) := by decide +kernel
theorem d_X14_pick_8 : decode b_X14_pick 8 = .ok (.iconst (-1), 1) := by decide +kernel
theorem d_X14_pick_9 : decode b_X14_pick 9 = .ok (.ireturn, 1) := by decide +kernel
theorem d_X14_pick_10 : decode b_X14_pick 10 = .ok (.iconst 0, 1) := by decide +kernel
theorem d_X14_pick_11 : decode b_X14_pick 11 = .ok (.istore_n 2, 1) := by decide +kernel
theorem d_X14_pick_12 : decode b_X14_pick 12 = .ok (.iload_n 2, 1) := by decide +kernel
theorem d_X14_pick_13 : decode b_X14_pick 13 = .ok (.aload_n 0, 1) := by decide +kernel
theorem d_X14_pick_14 : decode b_X14_pick 14 = .ok (.getfield 689, 3) := by decide +kernel
theorem d_X14_pick_17 : decode b_X14_pick 17 = .ok (.if_icmp .ge 21, 3) := by decide +kernel
theorem d_X14_pick_20 : decode b_X14_pick 20 = .ok (.aload_n 0, 1) := by decide +kernel
theorem d_X14_pick_21 : decode b_X14_pick 21 = .ok (.getfield 141, 3) := by decide +kernel
theorem d_X14_pick_24 : decode b_X14_pick 24 = .ok (.iload_n 2, 1) := by decide +kernel
theorem d_X14_pick_25 : decode b_X14_pick 25 = .ok (.iaload, 1) := by decide +kernel
theorem d_X14_pick_26 : decode b_X14_pick 26 = .ok (.iload_n 1, 1) := by decide +kernel
theorem d_X14_pick_27 : decode b_X14_pick 27 = .ok (.if_icmp .ne 5, 3) := by decide +kernel
theorem d_X14_pick_30 : decode b_X14_pick 30 = .ok (.iconst (-1), 1) := by decide +kernel
theorem d_X14_pick_31 : decode b_X14_pick 31 = .ok (.ireturn, 1) := by decide +kernel
theorem d_X14_pick_32 : decode b_X14_pick 32 = .ok (.iinc 2 1, 3) := by decide +kernel
theorem d_X14_pick_35 : decode b_X14_pick 35 = .ok (.goto (-23), 3) := by decide +kernel
theorem d_X14_pick_38 : decode b_X14_pick 38 = .ok (.aload_n 0, 1) := by decide +kernel
theorem d_X14_pick_39 : decode b_X14_pick 39 = .ok (.getfield 141, 3) := by decide +kernel
theorem d_X14_pick_42 : decode b_X14_pick 42 = .ok (.aload_n 0, 1) := by decide +kernel
theorem d_X14_pick_43 : decode b_X14_pick 43 = .ok (.getfield 689, 3) := by decide +kernel
theorem d_X14_pick_46 : decode b_X14_pick 46 = .ok (.iload_n 1, 1) := by decide +kernel
theorem d_X14_pick_47 : decode b_X14_pick 47 = .ok (.iastore, 1) := by decide +kernel
theorem d_X14_pick_48 : decode b_X14_pick 48 = .ok (.aload_n 0, 1) := by decide +kernel
theorem d_X14_pick_49 : decode b_X14_pick 49 = .ok (.dup, 1) := by decide +kernel
theorem d_X14_pick_50 : decode b_X14_pick 50 = .ok (.getfield 689, 3) := by decide +kernel
theorem d_X14_pick_53 : decode b_X14_pick 53 = .ok (.iconst 1, 1) := by decide +kernel
theorem d_X14_pick_54 : decode b_X14_pick 54 = .ok (.iadd, 1) := by decide +kernel
theorem d_X14_pick_55 : decode b_X14_pick 55 = .ok (.putfield 689, 3) := by decide +kernel
theorem d_X14_pick_58 : decode b_X14_pick 58 = .ok (.aload_n 0, 1) := by decide +kernel
theorem d_X14_pick_59 : decode b_X14_pick 59 = .ok (.getfield 689, 3) := by decide +kernel
theorem d_X14_pick_62 : decode b_X14_pick 62 = .ok (.ireturn, 1) := by decide +kernel
theorem d_X14_link_0 : decode b_X14_link 0 = .ok (.aload_n 0, 1) := by decide +kernel
theorem d_X14_link_1 : decode b_X14_link 1 = .ok (.getfield 689, 3) := by decide +kernel
theorem d_X14_link_4 : decode b_X14_link 4 = .ok (.istore_n 1, 1) := by decide +kernel
theorem d_X14_link_5 : decode b_X14_link 5 = .ok (.aload_n 0, 1) := by decide +kernel
theorem d_X14_link_6 : decode b_X14_link 6 = .ok (.iconst 0, 1) := by decide +kernel
theorem d_X14_link_7 : decode b_X14_link 7 = .ok (.putfield 689, 3) := by decide +kernel
theorem d_X14_link_10 : decode b_X14_link 10 = .ok (.aload_n 0, 1) := by decide +kernel
theorem d_X14_link_11 : decode b_X14_link 11 = .ok (.iconst (-1), 1) := by decide +kernel
theorem d_X14_link_12 : decode b_X14_link 12 = .ok (.putfield 153, 3) := by decide +kernel
theorem d_X14_link_15 : decode b_X14_link 15 = .ok (.aload_n 0, 1) := by decide +kernel
theorem d_X14_link_16 : decode b_X14_link 16 = .ok (.iconst (-1), 1) := by decide +kernel
theorem d_X14_link_17 : decode b_X14_link 17 = .ok (.putfield 156, 3) := by decide +kernel
theorem d_X14_link_20 : decode b_X14_link 20 = .ok (.bipush 31, 2) := by decide +kernel
theorem d_X14_link_22 : decode b_X14_link 22 = .ok (.istore_n 2, 1) := by decide +kernel
theorem d_X14_link_23 : decode b_X14_link 23 = .ok (.iload_n 2, 1) := by decide +kernel
theorem d_X14_link_24 : decode b_X14_link 24 = .ok (.bipush 34, 2) := by decide +kernel
theorem d_X14_link_26 : decode b_X14_link 26 = .ok (.if_icmp .ge 21, 3) := by decide +kernel
theorem d_X14_link_29 : decode b_X14_link 29 = .ok (.aload_n 0, 1) := by decide +kernel
theorem d_X14_link_30 : decode b_X14_link 30 = .ok (.iload_n 2, 1) := by decide +kernel
theorem d_X14_link_31 : decode b_X14_link 31 = .ok (.iload_n 1, 1) := by decide +kernel
theorem d_X14_link_32 : decode b_X14_link 32 = .ok (.invokevirtual 723, 3) := by decide +kernel
theorem d_X14_link_35 : decode b_X14_link 35 = .ok (.ifCond .eq 6, 3) := by decide +kernel
theorem d_X14_link_38 : decode b_X14_link 38 = .ok (.iload_n 2, 1) := by decide +kernel
theorem d_X14_link_39 : decode b_X14_link 39 = .ok (.ineg, 1) := by decide +kernel
theorem d_X14_link_40 : decode b_X14_link 40 = .ok (.ireturn, 1) := by decide +kernel
theorem d_X14_link_41 : decode b_X14_link 41 = .ok (.iinc 2 1, 3) := by decide +kernel
theorem d_X14_link_44 : decode b_X14_link 44 = .ok (.goto (-21), 3) := by decide +kernel
theorem d_X14_link_47 : decode b_X14_link 47 = .ok (.aload_n 0, 1) := by decide +kernel
theorem d_X14_link_48 : decode b_X14_link 48 = .ok (.iload_n 1, 1) := by decide +kernel
theorem d_X14_link_49 : decode b_X14_link 49 = .ok (.invokevirtual 726, 3) := by decide +kernel
theorem d_X14_link_52 : decode b_X14_link 52 = .ok (.istore_n 2, 1) := by decide +kernel
theorem d_X14_link_53 : decode b_X14_link 53 = .ok (.iload_n 2, 1) := by decide +kernel
theorem d_X14_link_54 : decode b_X14_link 54 = .ok (.ifCond .ge 6, 3) := by decide +kernel
theorem d_X14_link_57 : decode b_X14_link 57 = .ok (.bipush (-34), 2) := by decide +kernel
theorem d_X14_link_59 : decode b_X14_link 59 = .ok (.ireturn, 1) := by decide +kernel
theorem d_X14_link_60 : decode b_X14_link 60 = .ok (.iconst 0, 1) := by decide +kernel
theorem d_X14_link_61 : decode b_X14_link 61 = .ok (.istore_n 3, 1) := by decide +kernel
theorem d_X14_link_62 : decode b_X14_link 62 = .ok (.iconst 0, 1) := by decide +kernel
theorem d_X14_link_63 : decode b_X14_link 63 = .ok (.istore 4, 2) := by decide +kernel
theorem d_X14_link_65 : decode b_X14_link 65 = .ok (.iload 4, 2) := by decide +kernel
theorem d_X14_link_67 : decode b_X14_link 67 = .ok (.iload_n 1, 1) := by decide +kernel
theorem d_X14_link_68 : decode b_X14_link 68 = .ok (.if_icmp .ge 26, 3) := by decide +kernel
theorem d_X14_link_71 : decode b_X14_link 71 = .ok (.iload_n 3, 1) := by decide +kernel
theorem d_X14_link_72 : decode b_X14_link 72 = .ok (.aload_n 0, 1) := by decide +kernel
theorem d_X14_link_73 : decode b_X14_link 73 = .ok (.getfield 89, 3) := by decide +kernel
theorem d_X14_link_76 : decode b_X14_link 76 = .ok (.aload_n 0, 1) := by decide +kernel
theorem d_X14_link_77 : decode b_X14_link 77 = .ok (.getfield 141, 3) := by decide +kernel
theorem d_X14_link_80 : decode b_X14_link 80 = .ok (.iload 4, 2) := by decide +kernel
theorem d_X14_link_82 : decode b_X14_link 82 = .ok (.iaload, 1) := by decide +kernel
theorem d_X14_link_83 : decode b_X14_link 83 = .ok (.iconst 1, 1) := by decide +kernel
theorem d_X14_link_84 : decode b_X14_link 84 = .ok (.isub, 1) := by decide +kernel
theorem d_X14_link_85 : decode b_X14_link 85 = .ok (.iaload, 1) := by decide +kernel
theorem d_X14_link_86 : decode b_X14_link 86 = .ok (.iadd, 1) := by decide +kernel
theorem d_X14_link_87 : decode b_X14_link 87 = .ok (.istore_n 3, 1) := by decide +kernel
theorem d_X14_link_88 : decode b_X14_link 88 = .ok (.iinc 4 1, 3) := by decide +kernel
theorem d_X14_link_91 : decode b_X14_link 91 = .ok (.goto (-26), 3) := by decide +kernel
theorem d_X14_link_94 : decode b_X14_link 94 = .ok (.iload_n 3, 1) := by decide +kernel
theorem d_X14_link_95 : decode b_X14_link 95 = .ok (.sipush 16000, 3) := by decide +kernel
theorem d_X14_link_98 : decode b_X14_link 98 = .ok (.if_icmp .le 6, 3) := by decide +kernel
theorem d_X14_link_101 : decode b_X14_link 101 = .ok (.bipush (-35), 2) := by decide +kernel
theorem d_X14_link_103 : decode b_X14_link 103 = .ok (.ireturn, 1) := by decide +kernel
theorem d_X14_link_104 : decode b_X14_link 104 = .ok (.aload_n 0, 1) := by decide +kernel
theorem d_X14_link_105 : decode b_X14_link 105 = .ok (.iload_n 2, 1) := by decide +kernel
theorem d_X14_link_106 : decode b_X14_link 106 = .ok (.putfield 729, 3) := by decide +kernel
theorem d_X14_link_109 : decode b_X14_link 109 = .ok (.aload_n 0, 1) := by decide +kernel
theorem d_X14_link_110 : decode b_X14_link 110 = .ok (.iload_n 1, 1) := by decide +kernel
theorem d_X14_link_111 : decode b_X14_link 111 = .ok (.invokevirtual 732, 3) := by decide +kernel
theorem d_X14_link_114 : decode b_X14_link 114 = .ok (.iconst 0, 1) := by decide +kernel
theorem d_X14_link_115 : decode b_X14_link 115 = .ok (.ireturn, 1) := by decide +kernel
theorem d_X14_isFault_0 : decode b_X14_isFault 0 = .ok (.iconst 0, 1) := by decide +kernel
theorem d_X14_isFault_1 : decode b_X14_isFault 1 = .ok (.istore_n 3, 1) := by decide +kernel
theorem d_X14_isFault_2 : decode b_X14_isFault 2 = .ok (.iload_n 3, 1) := by decide +kernel
theorem d_X14_isFault_3 : decode b_X14_isFault 3 = .ok (.iload_n 2, 1) := by decide +kernel
theorem d_X14_isFault_4 : decode b_X14_isFault 4 = .ok (.if_icmp .ge 90, 3) := by decide +kernel
theorem d_X14_isFault_7 : decode b_X14_isFault 7 = .ok (.iconst 0, 1) := by decide +kernel
theorem d_X14_isFault_8 : decode b_X14_isFault 8 = .ok (.istore 4, 2) := by decide +kernel
theorem d_X14_isFault_10 : decode b_X14_isFault 10 = .ok (.aload_n 0, 1) := by decide +kernel
theorem d_X14_isFault_11 : decode b_X14_isFault 11 = .ok (.getfield 86, 3) := by decide +kernel
theorem d_X14_isFault_14 : decode b_X14_isFault 14 = .ok (.aload_n 0, 1) := by decide +kernel
theorem d_X14_isFault_15 : decode b_X14_isFault 15 = .ok (.getfield 141, 3) := by decide +kernel
theorem d_X14_isFault_18 : decode b_X14_isFault 18 = .ok (.iload_n 3, 1) := by decide +kernel
theorem d_X14_isFault_19 : decode b_X14_isFault 19 = .ok (.iaload, 1) := by decide +kernel
theorem d_X14_isFault_20 : decode b_X14_isFault 20 = .ok (.iconst 1, 1) := by decide +kernel
theorem d_X14_isFault_21 : decode b_X14_isFault 21 = .ok (.isub, 1) := by decide +kernel
theorem d_X14_isFault_22 : decode b_X14_isFault 22 = .ok (.iaload, 1) := by decide +kernel
theorem d_X14_isFault_23 : decode b_X14_isFault 23 = .ok (.istore 5, 2) := by decide +kernel
theorem d_X14_isFault_25 : decode b_X14_isFault 25 = .ok (.iload 5, 2) := by decide +kernel
theorem d_X14_isFault_27 : decode b_X14_isFault 27 = .ok (.aload_n 0, 1) := by decide +kernel
theorem d_X14_isFault_28 : decode b_X14_isFault 28 = .ok (.getfield 86, 3) := by decide +kernel
theorem d_X14_isFault_31 : decode b_X14_isFault 31 = .ok (.aload_n 0, 1) := by decide +kernel
theorem d_X14_isFault_32 : decode b_X14_isFault 32 = .ok (.getfield 141, 3) := by decide +kernel
theorem d_X14_isFault_35 : decode b_X14_isFault 35 = .ok (.iload_n 3, 1) := by decide +kernel
theorem d_X14_isFault_36 : decode b_X14_isFault 36 = .ok (.iaload, 1) := by decide +kernel
theorem d_X14_isFault_37 : decode b_X14_isFault 37 = .ok (.iaload, 1) := by decide +kernel
theorem d_X14_isFault_38 : decode b_X14_isFault 38 = .ok (.if_icmp .ge 50, 3) := by decide +kernel
theorem d_X14_isFault_41 : decode b_X14_isFault 41 = .ok (.aload_n 0, 1) := by decide +kernel
theorem d_X14_isFault_42 : decode b_X14_isFault 42 = .ok (.getfield 53, 3) := by decide +kernel
theorem d_X14_isFault_45 : decode b_X14_isFault 45 = .ok (.iload 5, 2) := by decide +kernel
theorem d_X14_isFault_47 : decode b_X14_isFault 47 = .ok (.baload, 1) := by decide +kernel
theorem d_X14_isFault_48 : decode b_X14_isFault 48 = .ok (.ifCond .eq 6, 3) := by decide +kernel
theorem d_X14_isFault_51 : decode b_X14_isFault 51 = .ok (.goto 31, 3) := by decide +kernel
theorem d_X14_isFault_54 : decode b_X14_isFault 54 = .ok (.aload_n 0, 1) := by decide +kernel
theorem d_X14_isFault_55 : decode b_X14_isFault 55 = .ok (.iload_n 1, 1) := by decide +kernel
theorem d_X14_isFault_56 : decode b_X14_isFault 56 = .ok (.iload_n 3, 1) := by decide +kernel
theorem d_X14_isFault_57 : decode b_X14_isFault 57 = .ok (.iload 5, 2) := by decide +kernel
theorem d_X14_isFault_59 : decode b_X14_isFault 59 = .ok (.iload_n 2, 1) := by decide +kernel
theorem d_X14_isFault_60 : decode b_X14_isFault 60 = .ok (.invokevirtual 719, 3) := by decide +kernel
theorem d_X14_isFault_63 : decode b_X14_isFault 63 = .ok (.ifCond .eq 16, 3) := by decide +kernel
theorem d_X14_isFault_66 : decode b_X14_isFault 66 = .ok (.aload_n 0, 1) := by decide +kernel
theorem d_X14_isFault_67 : decode b_X14_isFault 67 = .ok (.iload_n 3, 1) := by decide +kernel
theorem d_X14_isFault_68 : decode b_X14_isFault 68 = .ok (.putfield 153, 3) := by decide +kernel
theorem d_X14_isFault_71 : decode b_X14_isFault 71 = .ok (.aload_n 0, 1) := by decide +kernel
theorem d_X14_isFault_72 : decode b_X14_isFault 72 = .ok (.iload 4, 2) := by decide +kernel
theorem d_X14_isFault_74 : decode b_X14_isFault 74 = .ok (.putfield 156, 3) := by decide +kernel
theorem d_X14_isFault_77 : decode b_X14_isFault 77 = .ok (.iconst 1, 1) := by decide +kernel
theorem d_X14_isFault_78 : decode b_X14_isFault 78 = .ok (.ireturn, 1) := by decide +kernel
theorem d_X14_isFault_79 : decode b_X14_isFault 79 = .ok (.iinc 4 1, 3) := by decide +kernel
theorem d_X14_isFault_82 : decode b_X14_isFault 82 = .ok (.iinc 5 1, 3) := by decide +kernel
theorem d_X14_isFault_85 : decode b_X14_isFault 85 = .ok (.goto (-60), 3) := by decide +kernel
theorem d_X14_isFault_88 : decode b_X14_isFault 88 = .ok (.iinc 3 1, 3) := by decide +kernel
theorem d_X14_isFault_91 : decode b_X14_isFault 91 = .ok (.goto (-89), 3) := by decide +kernel
theorem d_X14_isFault_94 : decode b_X14_isFault 94 = .ok (.iconst 0, 1) := by decide +kernel
theorem d_X14_isFault_95 : decode b_X14_isFault 95 = .ok (.ireturn, 1) := by decide +kernel
theorem d_X14_holds_0 : decode b_X14_holds 0 = .ok (.aload_n 0, 1) := by decide +kernel
theorem d_X14_holds_1 : decode b_X14_holds 1 = .ok (.iload_n 3, 1) := by decide +kernel
theorem d_X14_holds_2 : decode b_X14_holds 2 = .ok (.invokevirtual 707, 3) := by decide +kernel
theorem d_X14_holds_5 : decode b_X14_holds 5 = .ok (.istore 5, 2) := by decide +kernel
theorem d_X14_holds_7 : decode b_X14_holds 7 = .ok (.iload_n 1, 1) := by decide +kernel
theorem d_X14_holds_8 : decode b_X14_holds 8 = .ok (.bipush 31, 2) := by decide +kernel
theorem d_X14_holds_10 : decode b_X14_holds 10 = .ok (.if_icmp .ne 32, 3) := by decide +kernel
theorem d_X14_holds_13 : decode b_X14_holds 13 = .ok (.aload_n 0, 1) := by decide +kernel
theorem d_X14_holds_14 : decode b_X14_holds 14 = .ok (.iload_n 3, 1) := by decide +kernel
theorem d_X14_holds_15 : decode b_X14_holds 15 = .ok (.iconst 1, 1) := by decide +kernel
theorem d_X14_holds_16 : decode b_X14_holds 16 = .ok (.invokevirtual 694, 3) := by decide +kernel
theorem d_X14_holds_19 : decode b_X14_holds 19 = .ok (.ifCond .eq 21, 3) := by decide +kernel
theorem d_X14_holds_22 : decode b_X14_holds 22 = .ok (.iload 5, 2) := by decide +kernel
theorem d_X14_holds_24 : decode b_X14_holds 24 = .ok (.ifCond .ge 12, 3) := by decide +kernel
theorem d_X14_holds_27 : decode b_X14_holds 27 = .ok (.aload_n 0, 1) := by decide +kernel
theorem d_X14_holds_28 : decode b_X14_holds 28 = .ok (.iload_n 3, 1) := by decide +kernel
theorem d_X14_holds_29 : decode b_X14_holds 29 = .ok (.iload_n 2, 1) := by decide +kernel
theorem d_X14_holds_30 : decode b_X14_holds 30 = .ok (.invokevirtual 710, 3) := by decide +kernel
theorem d_X14_holds_33 : decode b_X14_holds 33 = .ok (.ifCond .eq 7, 3) := by decide +kernel
theorem d_X14_holds_36 : decode b_X14_holds 36 = .ok (.iconst 1, 1) := by decide +kernel
theorem d_X14_holds_37 : decode b_X14_holds 37 = .ok (.goto 4, 3) := by decide +kernel
theorem d_X14_holds_40 : decode b_X14_holds 40 = .ok (.iconst 0, 1) := by decide +kernel
theorem d_X14_holds_41 : decode b_X14_holds 41 = .ok (.ireturn, 1) := by decide +kernel
theorem d_X14_holds_42 : decode b_X14_holds 42 = .ok (.aload_n 0, 1) := by decide +kernel
theorem d_X14_holds_43 : decode b_X14_holds 43 = .ok (.iload_n 3, 1) := by decide +kernel
theorem d_X14_holds_44 : decode b_X14_holds 44 = .ok (.iconst 0, 1) := by decide +kernel
theorem d_X14_holds_45 : decode b_X14_holds 45 = .ok (.invokevirtual 694, 3) := by decide +kernel
theorem d_X14_holds_48 : decode b_X14_holds 48 = .ok (.ifCond .ne 5, 3) := by decide +kernel
theorem d_X14_holds_51 : decode b_X14_holds 51 = .ok (.iconst 0, 1) := by decide +kernel
theorem d_X14_holds_52 : decode b_X14_holds 52 = .ok (.ireturn, 1) := by decide +kernel
theorem d_X14_holds_53 : decode b_X14_holds 53 = .ok (.iload_n 1, 1) := by decide +kernel
theorem d_X14_holds_54 : decode b_X14_holds 54 = .ok (.bipush 32, 2) := by decide +kernel
theorem d_X14_holds_56 : decode b_X14_holds 56 = .ok (.if_icmp .ne 33, 3) := by decide +kernel
theorem d_X14_holds_59 : decode b_X14_holds 59 = .ok (.aload_n 0, 1) := by decide +kernel
theorem d_X14_holds_60 : decode b_X14_holds 60 = .ok (.getfield 60, 3) := by decide +kernel
theorem d_X14_holds_63 : decode b_X14_holds 63 = .ok (.iload_n 3, 1) := by decide +kernel
theorem d_X14_holds_64 : decode b_X14_holds 64 = .ok (.baload, 1) := by decide +kernel
theorem d_X14_holds_65 : decode b_X14_holds 65 = .ok (.ifCond .eq 22, 3) := by decide +kernel
theorem d_X14_holds_68 : decode b_X14_holds 68 = .ok (.iload 5, 2) := by decide +kernel
theorem d_X14_holds_70 : decode b_X14_holds 70 = .ok (.ifCond .ge 17, 3) := by decide +kernel
theorem d_X14_holds_73 : decode b_X14_holds 73 = .ok (.aload_n 0, 1) := by decide +kernel
theorem d_X14_holds_74 : decode b_X14_holds 74 = .ok (.iload_n 3, 1) := by decide +kernel
theorem d_X14_holds_75 : decode b_X14_holds 75 = .ok (.iload 4, 2) := by decide +kernel
theorem d_X14_holds_77 : decode b_X14_holds 77 = .ok (.invokevirtual 710, 3) := by decide +kernel
theorem d_X14_holds_80 : decode b_X14_holds 80 = .ok (.ifCond .ne 7, 3) := by decide +kernel
theorem d_X14_holds_83 : decode b_X14_holds 83 = .ok (.iconst 1, 1) := by decide +kernel
theorem d_X14_holds_84 : decode b_X14_holds 84 = .ok (.goto 4, 3) := by decide +kernel
theorem d_X14_holds_87 : decode b_X14_holds 87 = .ok (.iconst 0, 1) := by decide +kernel
theorem d_X14_holds_88 : decode b_X14_holds 88 = .ok (.ireturn, 1) := by decide +kernel
theorem d_X14_holds_89 : decode b_X14_holds 89 = .ok (.iload 5, 2) := by decide +kernel
theorem d_X14_holds_91 : decode b_X14_holds 91 = .ok (.ifCond .lt 19, 3) := by decide +kernel
theorem d_X14_holds_94 : decode b_X14_holds 94 = .ok (.aload_n 0, 1) := by decide +kernel
theorem d_X14_holds_95 : decode b_X14_holds 95 = .ok (.iload_n 3, 1) := by decide +kernel
theorem d_X14_holds_96 : decode b_X14_holds 96 = .ok (.iload 5, 2) := by decide +kernel
theorem d_X14_holds_98 : decode b_X14_holds 98 = .ok (.invokevirtual 713, 3) := by decide +kernel
theorem d_X14_holds_101 : decode b_X14_holds 101 = .ok (.ifCond .ne 7, 3) := by decide +kernel
theorem d_X14_holds_104 : decode b_X14_holds 104 = .ok (.iconst 1, 1) := by decide +kernel
theorem d_X14_holds_105 : decode b_X14_holds 105 = .ok (.goto 4, 3) := by decide +kernel
theorem d_X14_holds_108 : decode b_X14_holds 108 = .ok (.iconst 0, 1) := by decide +kernel
theorem d_X14_holds_109 : decode b_X14_holds 109 = .ok (.ireturn, 1) := by decide +kernel
theorem d_X14_holds_110 : decode b_X14_holds 110 = .ok (.aload_n 0, 1) := by decide +kernel
theorem d_X14_holds_111 : decode b_X14_holds 111 = .ok (.iload_n 3, 1) := by decide +kernel
theorem d_X14_holds_112 : decode b_X14_holds 112 = .ok (.iload 4, 2) := by decide +kernel
theorem d_X14_holds_114 : decode b_X14_holds 114 = .ok (.invokevirtual 710, 3) := by decide +kernel
theorem d_X14_holds_117 : decode b_X14_holds 117 = .ok (.ifCond .eq 19, 3) := by decide +kernel
theorem d_X14_holds_120 : decode b_X14_holds 120 = .ok (.aload_n 0, 1) := by decide +kernel
theorem d_X14_holds_121 : decode b_X14_holds 121 = .ok (.iload_n 3, 1) := by decide +kernel
theorem d_X14_holds_122 : decode b_X14_holds 122 = .ok (.aload_n 0, 1) := by decide +kernel
theorem d_X14_holds_123 : decode b_X14_holds 123 = .ok (.getfield 704, 3) := by decide +kernel
theorem d_X14_holds_126 : decode b_X14_holds 126 = .ok (.invokevirtual 716, 3) := by decide +kernel
theorem d_X14_holds_129 : decode b_X14_holds 129 = .ok (.ifCond .ne 7, 3) := by decide +kernel
theorem d_X14_holds_132 : decode b_X14_holds 132 = .ok (.iconst 1, 1) := by decide +kernel
theorem d_X14_holds_133 : decode b_X14_holds 133 = .ok (.goto 4, 3) := by decide +kernel
theorem d_X14_holds_136 : decode b_X14_holds 136 = .ok (.iconst 0, 1) := by decide +kernel
theorem d_X14_holds_137 : decode b_X14_holds 137 = .ok (.ireturn, 1) := by decide +kernel
theorem d_X14_library_0_0 : decode b_X14_library_0 0 = .ok (.iconst 1, 1) := by decide +kernel
theorem d_X14_library_0_1 : decode b_X14_library_0 1 = .ok (.istore_n 2, 1) := by decide +kernel
theorem d_X14_library_0_2 : decode b_X14_library_0 2 = .ok (.iconst 0, 1) := by decide +kernel
theorem d_X14_library_0_3 : decode b_X14_library_0 3 = .ok (.istore_n 3, 1) := by decide +kernel
theorem d_X14_library_0_4 : decode b_X14_library_0 4 = .ok (.iload_n 3, 1) := by decide +kernel
theorem d_X14_library_0_5 : decode b_X14_library_0 5 = .ok (.iconst 4, 1) := by decide +kernel
theorem d_X14_library_0_6 : decode b_X14_library_0 6 = .ok (.if_icmp .ge 120, 3) := by decide +kernel
theorem d_X14_library_0_9 : decode b_X14_library_0 9 = .ok (.iload_n 2, 1) := by decide +kernel
theorem d_X14_library_0_10 : decode b_X14_library_0 10 = .ok (.istore 4, 2) := by decide +kernel
theorem d_X14_library_0_12 : decode b_X14_library_0 12 = .ok (.ldc_w 692, 3) := by decide +kernel
theorem d_X14_library_0_15 : decode b_X14_library_0 15 = .ok (.iload 4, 2) := by decide +kernel
theorem d_X14_library_0_17 : decode b_X14_library_0 17 = .ok (.invokevirtual 270, 3) := by decide +kernel
theorem d_X14_library_0_20 : decode b_X14_library_0 20 = .ok (.bipush 32, 2) := by decide +kernel
theorem d_X14_library_0_22 : decode b_X14_library_0 22 = .ok (.if_icmp .eq 9, 3) := by decide +kernel
theorem d_X14_library_0_25 : decode b_X14_library_0 25 = .ok (.iinc 4 1, 3) := by decide +kernel
theorem d_X14_library_0_28 : decode b_X14_library_0 28 = .ok (.goto (-16), 3) := by decide +kernel
theorem d_X14_library_0_31 : decode b_X14_library_0 31 = .ok (.iload 4, 2) := by decide +kernel
theorem d_X14_library_0_33 : decode b_X14_library_0 33 = .ok (.iload_n 2, 1) := by decide +kernel
theorem d_X14_library_0_34 : decode b_X14_library_0 34 = .ok (.isub, 1) := by decide +kernel
theorem d_X14_library_0_35 : decode b_X14_library_0 35 = .ok (.aload_n 0, 1) := by decide +kernel
theorem d_X14_library_0_36 : decode b_X14_library_0 36 = .ok (.getfield 76, 3) := by decide +kernel
theorem d_X14_library_0_39 : decode b_X14_library_0 39 = .ok (.iload_n 1, 1) := by decide +kernel
theorem d_X14_library_0_40 : decode b_X14_library_0 40 = .ok (.iaload, 1) := by decide +kernel
theorem d_X14_library_0_41 : decode b_X14_library_0 41 = .ok (.if_icmp .ne 7, 3) := by decide +kernel
theorem d_X14_library_0_44 : decode b_X14_library_0 44 = .ok (.iconst 1, 1) := by decide +kernel
theorem d_X14_library_0_45 : decode b_X14_library_0 45 = .ok (.goto 4, 3) := by decide +kernel
theorem d_X14_library_0_48 : decode b_X14_library_0 48 = .ok (.iconst 0, 1) := by decide +kernel
theorem d_X14_library_0_49 : decode b_X14_library_0 49 = .ok (.istore 5, 2) := by decide +kernel
theorem d_X14_library_0_51 : decode b_X14_library_0 51 = .ok (.iconst 0, 1) := by decide +kernel
theorem d_X14_library_0_52 : decode b_X14_library_0 52 = .ok (.istore 6, 2) := by decide +kernel
theorem d_X14_library_0_54 : decode b_X14_library_0 54 = .ok (.iload 5, 2) := by decide +kernel
theorem d_X14_library_0_56 : decode b_X14_library_0 56 = .ok (.ifCond .eq 52, 3) := by decide +kernel
theorem d_X14_library_0_59 : decode b_X14_library_0 59 = .ok (.iload 6, 2) := by decide +kernel
theorem d_X14_library_0_61 : decode b_X14_library_0 61 = .ok (.iload 4, 2) := by decide +kernel
theorem d_X14_library_0_63 : decode b_X14_library_0 63 = .ok (.iload_n 2, 1) := by decide +kernel
theorem d_X14_library_0_64 : decode b_X14_library_0 64 = .ok (.isub, 1) := by decide +kernel
theorem d_X14_library_0_65 : decode b_X14_library_0 65 = .ok (.if_icmp .ge 43, 3) := by decide +kernel
theorem d_X14_library_0_68 : decode b_X14_library_0 68 = .ok (.ldc_w 692, 3) := by decide +kernel
theorem d_X14_library_0_71 : decode b_X14_library_0 71 = .ok (.iload_n 2, 1) := by decide +kernel
theorem d_X14_library_0_72 : decode b_X14_library_0 72 = .ok (.iload 6, 2) := by decide +kernel
theorem d_X14_library_0_74 : decode b_X14_library_0 74 = .ok (.iadd, 1) := by decide +kernel
theorem d_X14_library_0_75 : decode b_X14_library_0 75 = .ok (.invokevirtual 270, 3) := by decide +kernel
theorem d_X14_library_0_78 : decode b_X14_library_0 78 = .ok (.aload_n 0, 1) := by decide +kernel
theorem d_X14_library_0_79 : decode b_X14_library_0 79 = .ok (.getfield 80, 3) := by decide +kernel
theorem d_X14_library_0_82 : decode b_X14_library_0 82 = .ok (.aload_n 0, 1) := by decide +kernel
theorem d_X14_library_0_83 : decode b_X14_library_0 83 = .ok (.getfield 73, 3) := by decide +kernel
theorem d_X14_library_0_86 : decode b_X14_library_0 86 = .ok (.iload_n 1, 1) := by decide +kernel
theorem d_X14_library_0_87 : decode b_X14_library_0 87 = .ok (.iaload, 1) := by decide +kernel
theorem d_X14_library_0_88 : decode b_X14_library_0 88 = .ok (.iload 6, 2) := by decide +kernel
theorem d_X14_library_0_90 : decode b_X14_library_0 90 = .ok (.iadd, 1) := by decide +kernel
theorem d_X14_library_0_91 : decode b_X14_library_0 91 = .ok (.baload, 1) := by decide +kernel
theorem d_X14_library_0_92 : decode b_X14_library_0 92 = .ok (.if_icmp .ne 7, 3) := by decide +kernel
theorem d_X14_library_0_95 : decode b_X14_library_0 95 = .ok (.iconst 1, 1) := by decide +kernel
theorem d_X14_library_0_96 : decode b_X14_library_0 96 = .ok (.goto 4, 3) := by decide +kernel
theorem d_X14_library_0_99 : decode b_X14_library_0 99 = .ok (.iconst 0, 1) := by decide +kernel
theorem d_X14_library_0_100 : decode b_X14_library_0 100 = .ok (.istore 5, 2) := by decide +kernel
theorem d_X14_library_0_102 : decode b_X14_library_0 102 = .ok (.iinc 6 1, 3) := by decide +kernel
theorem d_X14_library_0_105 : decode b_X14_library_0 105 = .ok (.goto (-51), 3) := by decide +kernel
theorem d_X14_library_0_108 : decode b_X14_library_0 108 = .ok (.iload 5, 2) := by decide +kernel
theorem d_X14_library_0_110 : decode b_X14_library_0 110 = .ok (.ifCond .eq 5, 3) := by decide +kernel
theorem d_X14_library_0_113 : decode b_X14_library_0 113 = .ok (.iload_n 3, 1) := by decide +kernel
theorem d_X14_library_0_114 : decode b_X14_library_0 114 = .ok (.ireturn, 1) := by decide +kernel
theorem d_X14_library_0_115 : decode b_X14_library_0 115 = .ok (.iload 4, 2) := by decide +kernel
theorem d_X14_library_0_117 : decode b_X14_library_0 117 = .ok (.iconst 1, 1) := by decide +kernel
theorem d_X14_library_0_118 : decode b_X14_library_0 118 = .ok (.iadd, 1) := by decide +kernel
theorem d_X14_library_0_119 : decode b_X14_library_0 119 = .ok (.istore_n 2, 1) := by decide +kernel
theorem d_X14_library_0_120 : decode b_X14_library_0 120 = .ok (.iinc 3 1, 3) := by decide +kernel
theorem d_X14_library_0_123 : decode b_X14_library_0 123 = .ok (.goto (-119), 3) := by decide +kernel
theorem d_X14_library_0_126 : decode b_X14_library_0 126 = .ok (.iconst (-1), 1) := by decide +kernel
theorem d_X14_library_0_127 : decode b_X14_library_0 127 = .ok (.ireturn, 1) := by decide +kernel
theorem d_X14_isSymbol_0 : decode b_X14_isSymbol 0 = .ok (.aload_n 0, 1) := by decide +kernel
theorem d_X14_isSymbol_1 : decode b_X14_isSymbol 1 = .ok (.getfield 53, 3) := by decide +kernel
theorem d_X14_isSymbol_4 : decode b_X14_isSymbol 4 = .ok (.iload_n 1, 1) := by decide +kernel
theorem d_X14_isSymbol_5 : decode b_X14_isSymbol 5 = .ok (.baload, 1) := by decide +kernel
theorem d_X14_isSymbol_6 : decode b_X14_isSymbol 6 = .ok (.ifCond .ne 17, 3) := by decide +kernel
theorem d_X14_isSymbol_9 : decode b_X14_isSymbol 9 = .ok (.aload_n 0, 1) := by decide +kernel
theorem d_X14_isSymbol_10 : decode b_X14_isSymbol 10 = .ok (.getfield 57, 3) := by decide +kernel
theorem d_X14_isSymbol_13 : decode b_X14_isSymbol 13 = .ok (.iload_n 1, 1) := by decide +kernel
theorem d_X14_isSymbol_14 : decode b_X14_isSymbol 14 = .ok (.baload, 1) := by decide +kernel
theorem d_X14_isSymbol_15 : decode b_X14_isSymbol 15 = .ok (.iload_n 2, 1) := by decide +kernel
theorem d_X14_isSymbol_16 : decode b_X14_isSymbol 16 = .ok (.if_icmp .ne 7, 3) := by decide +kernel
theorem d_X14_isSymbol_19 : decode b_X14_isSymbol 19 = .ok (.iconst 1, 1) := by decide +kernel
theorem d_X14_isSymbol_20 : decode b_X14_isSymbol 20 = .ok (.goto 4, 3) := by decide +kernel
theorem d_X14_isSymbol_23 : decode b_X14_isSymbol 23 = .ok (.iconst 0, 1) := by decide +kernel
theorem d_X14_isSymbol_24 : decode b_X14_isSymbol 24 = .ok (.ireturn, 1) := by decide +kernel
theorem d_X14_find_0 : decode b_X14_find 0 = .ok (.iconst 0, 1) := by decide +kernel
theorem d_X14_find_1 : decode b_X14_find 1 = .ok (.istore_n 3, 1) := by decide +kernel
theorem d_X14_find_2 : decode b_X14_find 2 = .ok (.iload_n 3, 1) := by decide +kernel
theorem d_X14_find_3 : decode b_X14_find 3 = .ok (.iload_n 2, 1) := by decide +kernel
theorem d_X14_find_4 : decode b_X14_find 4 = .ok (.if_icmp .ge 82, 3) := by decide +kernel
theorem d_X14_find_7 : decode b_X14_find 7 = .ok (.aload_n 0, 1) := by decide +kernel
theorem d_X14_find_8 : decode b_X14_find 8 = .ok (.getfield 86, 3) := by decide +kernel
theorem d_X14_find_11 : decode b_X14_find 11 = .ok (.aload_n 0, 1) := by decide +kernel
theorem d_X14_find_12 : decode b_X14_find 12 = .ok (.getfield 141, 3) := by decide +kernel
theorem d_X14_find_15 : decode b_X14_find 15 = .ok (.iload_n 3, 1) := by decide +kernel
theorem d_X14_find_16 : decode b_X14_find 16 = .ok (.iaload, 1) := by decide +kernel
theorem d_X14_find_17 : decode b_X14_find 17 = .ok (.iconst 1, 1) := by decide +kernel
theorem d_X14_find_18 : decode b_X14_find 18 = .ok (.isub, 1) := by decide +kernel
theorem d_X14_find_19 : decode b_X14_find 19 = .ok (.iaload, 1) := by decide +kernel
theorem d_X14_find_20 : decode b_X14_find 20 = .ok (.istore 4, 2) := by decide +kernel
theorem d_X14_find_22 : decode b_X14_find 22 = .ok (.iload 4, 2) := by decide +kernel
theorem d_X14_find_24 : decode b_X14_find 24 = .ok (.aload_n 0, 1) := by decide +kernel
theorem d_X14_find_25 : decode b_X14_find 25 = .ok (.getfield 86, 3) := by decide +kernel
theorem d_X14_find_28 : decode b_X14_find 28 = .ok (.aload_n 0, 1) := by decide +kernel
theorem d_X14_find_29 : decode b_X14_find 29 = .ok (.getfield 141, 3) := by decide +kernel
theorem d_X14_find_32 : decode b_X14_find 32 = .ok (.iload_n 3, 1) := by decide +kernel
theorem d_X14_find_33 : decode b_X14_find 33 = .ok (.iaload, 1) := by decide +kernel
theorem d_X14_find_34 : decode b_X14_find 34 = .ok (.iaload, 1) := by decide +kernel
theorem d_X14_find_35 : decode b_X14_find 35 = .ok (.if_icmp .ge 45, 3) := by decide +kernel
theorem d_X14_find_38 : decode b_X14_find 38 = .ok (.aload_n 0, 1) := by decide +kernel
theorem d_X14_find_39 : decode b_X14_find 39 = .ok (.iload 4, 2) := by decide +kernel
theorem d_X14_find_41 : decode b_X14_find 41 = .ok (.iconst 1, 1) := by decide +kernel
theorem d_X14_find_42 : decode b_X14_find 42 = .ok (.invokevirtual 694, 3) := by decide +kernel
theorem d_X14_find_45 : decode b_X14_find 45 = .ok (.ifCond .eq 29, 3) := by decide +kernel
theorem d_X14_find_48 : decode b_X14_find 48 = .ok (.aload_n 0, 1) := by decide +kernel
theorem d_X14_find_49 : decode b_X14_find 49 = .ok (.iload_n 1, 1) := by decide +kernel
theorem d_X14_find_50 : decode b_X14_find 50 = .ok (.iload 4, 2) := by decide +kernel
theorem d_X14_find_52 : decode b_X14_find 52 = .ok (.invokevirtual 698, 3) := by decide +kernel
theorem d_X14_find_55 : decode b_X14_find 55 = .ok (.ifCond .ne 6, 3) := by decide +kernel
theorem d_X14_find_58 : decode b_X14_find 58 = .ok (.goto 16, 3) := by decide +kernel
theorem d_X14_find_61 : decode b_X14_find 61 = .ok (.aload_n 0, 1) := by decide +kernel
theorem d_X14_find_62 : decode b_X14_find 62 = .ok (.iload_n 3, 1) := by decide +kernel
theorem d_X14_find_63 : decode b_X14_find 63 = .ok (.putfield 701, 3) := by decide +kernel
theorem d_X14_find_66 : decode b_X14_find 66 = .ok (.aload_n 0, 1) := by decide +kernel
theorem d_X14_find_67 : decode b_X14_find 67 = .ok (.iload 4, 2) := by decide +kernel
theorem d_X14_find_69 : decode b_X14_find 69 = .ok (.putfield 704, 3) := by decide +kernel
theorem d_X14_find_72 : decode b_X14_find 72 = .ok (.iconst 1, 1) := by decide +kernel
theorem d_X14_find_73 : decode b_X14_find 73 = .ok (.ireturn, 1) := by decide +kernel
theorem d_X14_find_74 : decode b_X14_find 74 = .ok (.iinc 4 1, 3) := by decide +kernel
theorem d_X14_find_77 : decode b_X14_find 77 = .ok (.goto (-55), 3) := by decide +kernel
theorem d_X14_find_80 : decode b_X14_find 80 = .ok (.iinc 3 1, 3) := by decide +kernel
theorem d_X14_find_83 : decode b_X14_find 83 = .ok (.goto (-81), 3) := by decide +kernel
theorem d_X14_find_86 : decode b_X14_find 86 = .ok (.iconst 0, 1) := by decide +kernel
theorem d_X14_find_87 : decode b_X14_find 87 = .ok (.ireturn, 1) := by decide +kernel
theorem d_X14_isAlike_0 : decode b_X14_isAlike 0 = .ok (.aload_n 0, 1) := by decide +kernel
theorem d_X14_isAlike_1 : decode b_X14_isAlike 1 = .ok (.getfield 76, 3) := by decide +kernel
theorem d_X14_isAlike_4 : decode b_X14_isAlike 4 = .ok (.iload_n 1, 1) := by decide +kernel
theorem d_X14_isAlike_5 : decode b_X14_isAlike 5 = .ok (.iaload, 1) := by decide +kernel
theorem d_X14_isAlike_6 : decode b_X14_isAlike 6 = .ok (.aload_n 0, 1) := by decide +kernel
theorem d_X14_isAlike_7 : decode b_X14_isAlike 7 = .ok (.getfield 76, 3) := by decide +kernel
theorem d_X14_isAlike_10 : decode b_X14_isAlike 10 = .ok (.iload_n 2, 1) := by decide +kernel
theorem d_X14_isAlike_11 : decode b_X14_isAlike 11 = .ok (.iaload, 1) := by decide +kernel
theorem d_X14_isAlike_12 : decode b_X14_isAlike 12 = .ok (.if_icmp .eq 5, 3) := by decide +kernel
theorem d_X14_isAlike_15 : decode b_X14_isAlike 15 = .ok (.iconst 0, 1) := by decide +kernel
theorem d_X14_isAlike_16 : decode b_X14_isAlike 16 = .ok (.ireturn, 1) := by decide +kernel
theorem d_X14_isAlike_17 : decode b_X14_isAlike 17 = .ok (.iconst 0, 1) := by decide +kernel
theorem d_X14_isAlike_18 : decode b_X14_isAlike 18 = .ok (.istore_n 3, 1) := by decide +kernel
theorem d_X14_isAlike_19 : decode b_X14_isAlike 19 = .ok (.iload_n 3, 1) := by decide +kernel
theorem d_X14_isAlike_20 : decode b_X14_isAlike 20 = .ok (.aload_n 0, 1) := by decide +kernel
theorem d_X14_isAlike_21 : decode b_X14_isAlike 21 = .ok (.getfield 76, 3) := by decide +kernel
theorem d_X14_isAlike_24 : decode b_X14_isAlike 24 = .ok (.iload_n 1, 1) := by decide +kernel
theorem d_X14_isAlike_25 : decode b_X14_isAlike 25 = .ok (.iaload, 1) := by decide +kernel
theorem d_X14_isAlike_26 : decode b_X14_isAlike 26 = .ok (.if_icmp .ge 40, 3) := by decide +kernel
theorem d_X14_isAlike_29 : decode b_X14_isAlike 29 = .ok (.aload_n 0, 1) := by decide +kernel
theorem d_X14_isAlike_30 : decode b_X14_isAlike 30 = .ok (.getfield 80, 3) := by decide +kernel
theorem d_X14_isAlike_33 : decode b_X14_isAlike 33 = .ok (.aload_n 0, 1) := by decide +kernel
theorem d_X14_isAlike_34 : decode b_X14_isAlike 34 = .ok (.getfield 73, 3) := by decide +kernel
theorem d_X14_isAlike_37 : decode b_X14_isAlike 37 = .ok (.iload_n 1, 1) := by decide +kernel
theorem d_X14_isAlike_38 : decode b_X14_isAlike 38 = .ok (.iaload, 1) := by decide +kernel
theorem d_X14_isAlike_39 : decode b_X14_isAlike 39 = .ok (.iload_n 3, 1) := by decide +kernel
theorem d_X14_isAlike_40 : decode b_X14_isAlike 40 = .ok (.iadd, 1) := by decide +kernel
theorem d_X14_isAlike_41 : decode b_X14_isAlike 41 = .ok (.baload, 1) := by decide +kernel
theorem d_X14_isAlike_42 : decode b_X14_isAlike 42 = .ok (.aload_n 0, 1) := by decide +kernel
theorem d_X14_isAlike_43 : decode b_X14_isAlike 43 = .ok (.getfield 80, 3) := by decide +kernel
theorem d_X14_isAlike_46 : decode b_X14_isAlike 46 = .ok (.aload_n 0, 1) := by decide +kernel
theorem d_X14_isAlike_47 : decode b_X14_isAlike 47 = .ok (.getfield 73, 3) := by decide +kernel
theorem d_X14_isAlike_50 : decode b_X14_isAlike 50 = .ok (.iload_n 2, 1) := by decide +kernel
theorem d_X14_isAlike_51 : decode b_X14_isAlike 51 = .ok (.iaload, 1) := by decide +kernel
theorem d_X14_isAlike_52 : decode b_X14_isAlike 52 = .ok (.iload_n 3, 1) := by decide +kernel
theorem d_X14_isAlike_53 : decode b_X14_isAlike 53 = .ok (.iadd, 1) := by decide +kernel
theorem d_X14_isAlike_54 : decode b_X14_isAlike 54 = .ok (.baload, 1) := by decide +kernel
theorem d_X14_isAlike_55 : decode b_X14_isAlike 55 = .ok (.if_icmp .eq 5, 3) := by decide +kernel
theorem d_X14_isAlike_58 : decode b_X14_isAlike 58 = .ok (.iconst 0, 1) := by decide +kernel
theorem d_X14_isAlike_59 : decode b_X14_isAlike 59 = .ok (.ireturn, 1) := by decide +kernel
theorem d_X14_isAlike_60 : decode b_X14_isAlike 60 = .ok (.iinc 3 1, 3) := by decide +kernel
theorem d_X14_isAlike_63 : decode b_X14_isAlike 63 = .ok (.goto (-44), 3) := by decide +kernel
theorem d_X14_isAlike_66 : decode b_X14_isAlike 66 = .ok (.iconst 1, 1) := by decide +kernel
theorem d_X14_isAlike_67 : decode b_X14_isAlike 67 = .ok (.ireturn, 1) := by decide +kernel
theorem d_X14_hasLibraryType_0 : decode b_X14_hasLibraryType 0 = .ok (.aload_n 0, 1) := by decide +kernel
theorem d_X14_hasLibraryType_1 : decode b_X14_hasLibraryType 1 = .ok (.getfield 44, 3) := by decide +kernel
theorem d_X14_hasLibraryType_4 : decode b_X14_hasLibraryType 4 = .ok (.iload_n 1, 1) := by decide +kernel
theorem d_X14_hasLibraryType_5 : decode b_X14_hasLibraryType 5 = .ok (.iaload, 1) := by decide +kernel
theorem d_X14_hasLibraryType_6 : decode b_X14_hasLibraryType 6 = .ok (.iconst 2, 1) := by decide +kernel
theorem d_X14_hasLibraryType_7 : decode b_X14_hasLibraryType 7 = .ok (.if_icmp .eq 5, 3) := by decide +kernel
theorem d_X14_hasLibraryType_10 : decode b_X14_hasLibraryType 10 = .ok (.iconst 0, 1) := by decide +kernel
theorem d_X14_hasLibraryType_11 : decode b_X14_hasLibraryType 11 = .ok (.ireturn, 1) := by decide +kernel
theorem d_X14_hasLibraryType_12 : decode b_X14_hasLibraryType 12 = .ok (.iload_n 2, 1) := by decide +kernel
theorem d_X14_hasLibraryType_13 : decode b_X14_hasLibraryType 13 = .ok (.ifCond .ne 29, 3) := by decide +kernel
theorem d_X14_hasLibraryType_16 : decode b_X14_hasLibraryType 16 = .ok (.aload_n 0, 1) := by decide +kernel
theorem d_X14_hasLibraryType_17 : decode b_X14_hasLibraryType 17 = .ok (.getfield 47, 3) := by decide +kernel
theorem d_X14_hasLibraryType_20 : decode b_X14_hasLibraryType 20 = .ok (.iload_n 1, 1) := by decide +kernel
theorem d_X14_hasLibraryType_21 : decode b_X14_hasLibraryType 21 = .ok (.iaload, 1) := by decide +kernel
theorem d_X14_hasLibraryType_22 : decode b_X14_hasLibraryType 22 = .ok (.ifCond .ne 16, 3) := by decide +kernel
theorem d_X14_hasLibraryType_25 : decode b_X14_hasLibraryType 25 = .ok (.aload_n 0, 1) := by decide +kernel
theorem d_X14_hasLibraryType_26 : decode b_X14_hasLibraryType 26 = .ok (.getfield 63, 3) := by decide +kernel
theorem d_X14_hasLibraryType_29 : decode b_X14_hasLibraryType 29 = .ok (.iload_n 1, 1) := by decide +kernel
theorem d_X14_hasLibraryType_30 : decode b_X14_hasLibraryType 30 = .ok (.iaload, 1) := by decide +kernel
theorem d_X14_hasLibraryType_31 : decode b_X14_hasLibraryType 31 = .ok (.ifCond .ne 7, 3) := by decide +kernel
theorem d_X14_hasLibraryType_34 : decode b_X14_hasLibraryType 34 = .ok (.iconst 1, 1) := by decide +kernel
theorem d_X14_hasLibraryType_35 : decode b_X14_hasLibraryType 35 = .ok (.goto 44, 3) := by decide +kernel
theorem d_X14_hasLibraryType_38 : decode b_X14_hasLibraryType 38 = .ok (.iconst 0, 1) := by decide +kernel
theorem d_X14_hasLibraryType_39 : decode b_X14_hasLibraryType 39 = .ok (.goto 40, 3) := by decide +kernel
theorem d_X14_hasLibraryType_42 : decode b_X14_hasLibraryType 42 = .ok (.aload_n 0, 1) := by decide +kernel
theorem d_X14_hasLibraryType_43 : decode b_X14_hasLibraryType 43 = .ok (.getfield 47, 3) := by decide +kernel
theorem d_X14_hasLibraryType_46 : decode b_X14_hasLibraryType 46 = .ok (.iload_n 1, 1) := by decide +kernel
theorem d_X14_hasLibraryType_47 : decode b_X14_hasLibraryType 47 = .ok (.iaload, 1) := by decide +kernel
theorem d_X14_hasLibraryType_48 : decode b_X14_hasLibraryType 48 = .ok (.iconst (-1), 1) := by decide +kernel
theorem d_X14_hasLibraryType_49 : decode b_X14_hasLibraryType 49 = .ok (.if_icmp .ne 29, 3) := by decide +kernel
theorem d_X14_hasLibraryType_52 : decode b_X14_hasLibraryType 52 = .ok (.aload_n 0, 1) := by decide +kernel
theorem d_X14_hasLibraryType_53 : decode b_X14_hasLibraryType 53 = .ok (.getfield 63, 3) := by decide +kernel
theorem d_X14_hasLibraryType_56 : decode b_X14_hasLibraryType 56 = .ok (.iload_n 1, 1) := by decide +kernel
theorem d_X14_hasLibraryType_57 : decode b_X14_hasLibraryType 57 = .ok (.iaload, 1) := by decide +kernel
theorem d_X14_hasLibraryType_58 : decode b_X14_hasLibraryType 58 = .ok (.iconst 1, 1) := by decide +kernel
theorem d_X14_hasLibraryType_59 : decode b_X14_hasLibraryType 59 = .ok (.if_icmp .ne 19, 3) := by decide +kernel
theorem d_X14_hasLibraryType_62 : decode b_X14_hasLibraryType 62 = .ok (.aload_n 0, 1) := by decide +kernel
theorem d_X14_hasLibraryType_63 : decode b_X14_hasLibraryType 63 = .ok (.getfield 67, 3) := by decide +kernel
theorem d_X14_hasLibraryType_66 : decode b_X14_hasLibraryType 66 = .ok (.bipush 8, 2) := by decide +kernel
theorem d_X14_hasLibraryType_68 : decode b_X14_hasLibraryType 68 = .ok (.iload_n 1, 1) := by decide +kernel
theorem d_X14_hasLibraryType_69 : decode b_X14_hasLibraryType 69 = .ok (.imul, 1) := by decide +kernel
theorem d_X14_hasLibraryType_70 : decode b_X14_hasLibraryType 70 = .ok (.iaload, 1) := by decide +kernel
theorem d_X14_hasLibraryType_71 : decode b_X14_hasLibraryType 71 = .ok (.ifCond .ne 7, 3) := by decide +kernel
theorem d_X14_hasLibraryType_74 : decode b_X14_hasLibraryType 74 = .ok (.iconst 1, 1) := by decide +kernel
theorem d_X14_hasLibraryType_75 : decode b_X14_hasLibraryType 75 = .ok (.goto 4, 3) := by decide +kernel
theorem d_X14_hasLibraryType_78 : decode b_X14_hasLibraryType 78 = .ok (.iconst 0, 1) := by decide +kernel
theorem d_X14_hasLibraryType_79 : decode b_X14_hasLibraryType 79 = .ok (.ireturn, 1) := by decide +kernel
theorem d_X14_hasType_0 : decode b_X14_hasType 0 = .ok (.aload_n 0, 1) := by decide +kernel
theorem d_X14_hasType_1 : decode b_X14_hasType 1 = .ok (.getfield 44, 3) := by decide +kernel
theorem d_X14_hasType_4 : decode b_X14_hasType 4 = .ok (.iload_n 1, 1) := by decide +kernel
theorem d_X14_hasType_5 : decode b_X14_hasType 5 = .ok (.iaload, 1) := by decide +kernel
theorem d_X14_hasType_6 : decode b_X14_hasType 6 = .ok (.aload_n 0, 1) := by decide +kernel
theorem d_X14_hasType_7 : decode b_X14_hasType 7 = .ok (.getfield 44, 3) := by decide +kernel
theorem d_X14_hasType_10 : decode b_X14_hasType 10 = .ok (.iload_n 2, 1) := by decide +kernel
theorem d_X14_hasType_11 : decode b_X14_hasType 11 = .ok (.iaload, 1) := by decide +kernel
theorem d_X14_hasType_12 : decode b_X14_hasType 12 = .ok (.if_icmp .ne 18, 3) := by decide +kernel
theorem d_X14_hasType_15 : decode b_X14_hasType 15 = .ok (.aload_n 0, 1) := by decide +kernel
theorem d_X14_hasType_16 : decode b_X14_hasType 16 = .ok (.getfield 47, 3) := by decide +kernel
theorem d_X14_hasType_19 : decode b_X14_hasType 19 = .ok (.iload_n 1, 1) := by decide +kernel
theorem d_X14_hasType_20 : decode b_X14_hasType 20 = .ok (.iaload, 1) := by decide +kernel
theorem d_X14_hasType_21 : decode b_X14_hasType 21 = .ok (.aload_n 0, 1) := by decide +kernel
theorem d_X14_hasType_22 : decode b_X14_hasType 22 = .ok (.getfield 47, 3) := by decide +kernel
theorem d_X14_hasType_25 : decode b_X14_hasType 25 = .ok (.iload_n 2, 1) := by decide +kernel
theorem d_X14_hasType_26 : decode b_X14_hasType 26 = .ok (.iaload, 1) := by decide +kernel
theorem d_X14_hasType_27 : decode b_X14_hasType 27 = .ok (.if_icmp .eq 5, 3) := by decide +kernel
theorem d_X14_hasType_30 : decode b_X14_hasType 30 = .ok (.iconst 0, 1) := by decide +kernel
theorem d_X14_hasType_31 : decode b_X14_hasType 31 = .ok (.ireturn, 1) := by decide +kernel
theorem d_X14_hasType_32 : decode b_X14_hasType 32 = .ok (.aload_n 0, 1) := by decide +kernel
theorem d_X14_hasType_33 : decode b_X14_hasType 33 = .ok (.getfield 44, 3) := by decide +kernel
theorem d_X14_hasType_36 : decode b_X14_hasType 36 = .ok (.iload_n 1, 1) := by decide +kernel
theorem d_X14_hasType_37 : decode b_X14_hasType 37 = .ok (.iaload, 1) := by decide +kernel
theorem d_X14_hasType_38 : decode b_X14_hasType 38 = .ok (.iconst 1, 1) := by decide +kernel
theorem d_X14_hasType_39 : decode b_X14_hasType 39 = .ok (.if_icmp .ne 64, 3) := by decide +kernel
theorem d_X14_hasType_42 : decode b_X14_hasType 42 = .ok (.aload_n 0, 1) := by decide +kernel
theorem d_X14_hasType_43 : decode b_X14_hasType 43 = .ok (.getfield 50, 3) := by decide +kernel
theorem d_X14_hasType_46 : decode b_X14_hasType 46 = .ok (.iload_n 1, 1) := by decide +kernel
theorem d_X14_hasType_47 : decode b_X14_hasType 47 = .ok (.iaload, 1) := by decide +kernel
theorem d_X14_hasType_48 : decode b_X14_hasType 48 = .ok (.ifCond .ge 7, 3) := by decide +kernel
theorem d_X14_hasType_51 : decode b_X14_hasType 51 = .ok (.iconst 1, 1) := by decide +kernel
theorem d_X14_hasType_52 : decode b_X14_hasType 52 = .ok (.goto 4, 3) := by decide +kernel
theorem d_X14_hasType_55 : decode b_X14_hasType 55 = .ok (.iconst 0, 1) := by decide +kernel
theorem d_X14_hasType_56 : decode b_X14_hasType 56 = .ok (.aload_n 0, 1) := by decide +kernel
theorem d_X14_hasType_57 : decode b_X14_hasType 57 = .ok (.getfield 50, 3) := by decide +kernel
theorem d_X14_hasType_60 : decode b_X14_hasType 60 = .ok (.iload_n 2, 1) := by decide +kernel
theorem d_X14_hasType_61 : decode b_X14_hasType 61 = .ok (.iaload, 1) := by decide +kernel
theorem d_X14_hasType_62 : decode b_X14_hasType 62 = .ok (.ifCond .ge 7, 3) := by decide +kernel
theorem d_X14_hasType_65 : decode b_X14_hasType 65 = .ok (.iconst 1, 1) := by decide +kernel
theorem d_X14_hasType_66 : decode b_X14_hasType 66 = .ok (.goto 4, 3) := by decide +kernel
theorem d_X14_hasType_69 : decode b_X14_hasType 69 = .ok (.iconst 0, 1) := by decide +kernel
theorem d_X14_hasType_70 : decode b_X14_hasType 70 = .ok (.if_icmp .ne 31, 3) := by decide +kernel
theorem d_X14_hasType_73 : decode b_X14_hasType 73 = .ok (.aload_n 0, 1) := by decide +kernel
theorem d_X14_hasType_74 : decode b_X14_hasType 74 = .ok (.getfield 50, 3) := by decide +kernel
theorem d_X14_hasType_77 : decode b_X14_hasType 77 = .ok (.iload_n 1, 1) := by decide +kernel
theorem d_X14_hasType_78 : decode b_X14_hasType 78 = .ok (.iaload, 1) := by decide +kernel
theorem d_X14_hasType_79 : decode b_X14_hasType 79 = .ok (.ifCond .le 18, 3) := by decide +kernel
theorem d_X14_hasType_82 : decode b_X14_hasType 82 = .ok (.aload_n 0, 1) := by decide +kernel
theorem d_X14_hasType_83 : decode b_X14_hasType 83 = .ok (.getfield 50, 3) := by decide +kernel
theorem d_X14_hasType_86 : decode b_X14_hasType 86 = .ok (.iload_n 1, 1) := by decide +kernel
theorem d_X14_hasType_87 : decode b_X14_hasType 87 = .ok (.iaload, 1) := by decide +kernel
theorem d_X14_hasType_88 : decode b_X14_hasType 88 = .ok (.aload_n 0, 1) := by decide +kernel
theorem d_X14_hasType_89 : decode b_X14_hasType 89 = .ok (.getfield 50, 3) := by decide +kernel
theorem d_X14_hasType_92 : decode b_X14_hasType 92 = .ok (.iload_n 2, 1) := by decide +kernel
theorem d_X14_hasType_93 : decode b_X14_hasType 93 = .ok (.iaload, 1) := by decide +kernel
theorem d_X14_hasType_94 : decode b_X14_hasType 94 = .ok (.if_icmp .ne 7, 3) := by decide +kernel
theorem d_X14_hasType_97 : decode b_X14_hasType 97 = .ok (.iconst 1, 1) := by decide +kernel
theorem d_X14_hasType_98 : decode b_X14_hasType 98 = .ok (.goto 4, 3) := by decide +kernel
theorem d_X14_hasType_101 : decode b_X14_hasType 101 = .ok (.iconst 0, 1) := by decide +kernel
theorem d_X14_hasType_102 : decode b_X14_hasType 102 = .ok (.ireturn, 1) := by decide +kernel
theorem d_X14_hasType_103 : decode b_X14_hasType 103 = .ok (.aload_n 0, 1) := by decide +kernel
theorem d_X14_hasType_104 : decode b_X14_hasType 104 = .ok (.getfield 63, 3) := by decide +kernel
theorem d_X14_hasType_107 : decode b_X14_hasType 107 = .ok (.iload_n 1, 1) := by decide +kernel
theorem d_X14_hasType_108 : decode b_X14_hasType 108 = .ok (.iaload, 1) := by decide +kernel
theorem d_X14_hasType_109 : decode b_X14_hasType 109 = .ok (.aload_n 0, 1) := by decide +kernel
theorem d_X14_hasType_110 : decode b_X14_hasType 110 = .ok (.getfield 63, 3) := by decide +kernel
theorem d_X14_hasType_113 : decode b_X14_hasType 113 = .ok (.iload_n 2, 1) := by decide +kernel
theorem d_X14_hasType_114 : decode b_X14_hasType 114 = .ok (.iaload, 1) := by decide +kernel
theorem d_X14_hasType_115 : decode b_X14_hasType 115 = .ok (.if_icmp .eq 5, 3) := by decide +kernel
theorem d_X14_hasType_118 : decode b_X14_hasType 118 = .ok (.iconst 0, 1) := by decide +kernel
theorem d_X14_hasType_119 : decode b_X14_hasType 119 = .ok (.ireturn, 1) := by decide +kernel
theorem d_X14_hasType_120 : decode b_X14_hasType 120 = .ok (.iconst 0, 1) := by decide +kernel
theorem d_X14_hasType_121 : decode b_X14_hasType 121 = .ok (.istore_n 3, 1) := by decide +kernel
theorem d_X14_hasType_122 : decode b_X14_hasType 122 = .ok (.iload_n 3, 1) := by decide +kernel
theorem d_X14_hasType_123 : decode b_X14_hasType 123 = .ok (.aload_n 0, 1) := by decide +kernel
theorem d_X14_hasType_124 : decode b_X14_hasType 124 = .ok (.getfield 63, 3) := by decide +kernel
theorem d_X14_hasType_127 : decode b_X14_hasType 127 = .ok (.iload_n 1, 1) := by decide +kernel
theorem d_X14_hasType_128 : decode b_X14_hasType 128 = .ok (.iaload, 1) := by decide +kernel
theorem d_X14_hasType_129 : decode b_X14_hasType 129 = .ok (.if_icmp .ge 36, 3) := by decide +kernel
theorem d_X14_hasType_132 : decode b_X14_hasType 132 = .ok (.aload_n 0, 1) := by decide +kernel
theorem d_X14_hasType_133 : decode b_X14_hasType 133 = .ok (.getfield 67, 3) := by decide +kernel
theorem d_X14_hasType_136 : decode b_X14_hasType 136 = .ok (.bipush 8, 2) := by decide +kernel
theorem d_X14_hasType_138 : decode b_X14_hasType 138 = .ok (.iload_n 1, 1) := by decide +kernel
theorem d_X14_hasType_139 : decode b_X14_hasType 139 = .ok (.imul, 1) := by decide +kernel
theorem d_X14_hasType_140 : decode b_X14_hasType 140 = .ok (.iload_n 3, 1) := by decide +kernel
theorem d_X14_hasType_141 : decode b_X14_hasType 141 = .ok (.iadd, 1) := by decide +kernel
theorem d_X14_hasType_142 : decode b_X14_hasType 142 = .ok (.iaload, 1) := by decide +kernel
theorem d_X14_hasType_143 : decode b_X14_hasType 143 = .ok (.aload_n 0, 1) := by decide +kernel
theorem d_X14_hasType_144 : decode b_X14_hasType 144 = .ok (.getfield 67, 3) := by decide +kernel
theorem d_X14_hasType_147 : decode b_X14_hasType 147 = .ok (.bipush 8, 2) := by decide +kernel
theorem d_X14_hasType_149 : decode b_X14_hasType 149 = .ok (.iload_n 2, 1) := by decide +kernel
theorem d_X14_hasType_150 : decode b_X14_hasType 150 = .ok (.imul, 1) := by decide +kernel
theorem d_X14_hasType_151 : decode b_X14_hasType 151 = .ok (.iload_n 3, 1) := by decide +kernel
theorem d_X14_hasType_152 : decode b_X14_hasType 152 = .ok (.iadd, 1) := by decide +kernel
theorem d_X14_hasType_153 : decode b_X14_hasType 153 = .ok (.iaload, 1) := by decide +kernel
theorem d_X14_hasType_154 : decode b_X14_hasType 154 = .ok (.if_icmp .eq 5, 3) := by decide +kernel
theorem d_X14_hasType_157 : decode b_X14_hasType 157 = .ok (.iconst 0, 1) := by decide +kernel
theorem d_X14_hasType_158 : decode b_X14_hasType 158 = .ok (.ireturn, 1) := by decide +kernel
theorem d_X14_hasType_159 : decode b_X14_hasType 159 = .ok (.iinc 3 1, 3) := by decide +kernel
theorem d_X14_hasType_162 : decode b_X14_hasType 162 = .ok (.goto (-40), 3) := by decide +kernel
theorem d_X14_hasType_165 : decode b_X14_hasType 165 = .ok (.iconst 1, 1) := by decide +kernel
theorem d_X14_hasType_166 : decode b_X14_hasType 166 = .ok (.ireturn, 1) := by decide +kernel
theorem d_X14_mainOf_0 : decode b_X14_mainOf 0 = .ok (.iconst 0, 1) := by decide +kernel
theorem d_X14_mainOf_1 : decode b_X14_mainOf 1 = .ok (.istore_n 2, 1) := by decide +kernel
theorem d_X14_mainOf_2 : decode b_X14_mainOf 2 = .ok (.iload_n 2, 1) := by decide +kernel
theorem d_X14_mainOf_3 : decode b_X14_mainOf 3 = .ok (.iload_n 1, 1) := by decide +kernel
theorem d_X14_mainOf_4 : decode b_X14_mainOf 4 = .ok (.if_icmp .ge 180, 3) := by decide +kernel
theorem d_X14_mainOf_7 : decode b_X14_mainOf 7 = .ok (.aload_n 0, 1) := by decide +kernel
theorem d_X14_mainOf_8 : decode b_X14_mainOf 8 = .ok (.getfield 86, 3) := by decide +kernel
theorem d_X14_mainOf_11 : decode b_X14_mainOf 11 = .ok (.aload_n 0, 1) := by decide +kernel
theorem d_X14_mainOf_12 : decode b_X14_mainOf 12 = .ok (.getfield 141, 3) := by decide +kernel
theorem d_X14_mainOf_15 : decode b_X14_mainOf 15 = .ok (.iload_n 2, 1) := by decide +kernel
theorem d_X14_mainOf_16 : decode b_X14_mainOf 16 = .ok (.iaload, 1) := by decide +kernel
theorem d_X14_mainOf_17 : decode b_X14_mainOf 17 = .ok (.iconst 1, 1) := by decide +kernel
theorem d_X14_mainOf_18 : decode b_X14_mainOf 18 = .ok (.isub, 1) := by decide +kernel
theorem d_X14_mainOf_19 : decode b_X14_mainOf 19 = .ok (.iaload, 1) := by decide +kernel
theorem d_X14_mainOf_20 : decode b_X14_mainOf 20 = .ok (.istore_n 3, 1) := by decide +kernel
theorem d_X14_mainOf_21 : decode b_X14_mainOf 21 = .ok (.iload_n 3, 1) := by decide +kernel
theorem d_X14_mainOf_22 : decode b_X14_mainOf 22 = .ok (.aload_n 0, 1) := by decide +kernel
theorem d_X14_mainOf_23 : decode b_X14_mainOf 23 = .ok (.getfield 86, 3) := by decide +kernel
theorem d_X14_mainOf_26 : decode b_X14_mainOf 26 = .ok (.aload_n 0, 1) := by decide +kernel
theorem d_X14_mainOf_27 : decode b_X14_mainOf 27 = .ok (.getfield 141, 3) := by decide +kernel
theorem d_X14_mainOf_30 : decode b_X14_mainOf 30 = .ok (.iload_n 2, 1) := by decide +kernel
theorem d_X14_mainOf_31 : decode b_X14_mainOf 31 = .ok (.iaload, 1) := by decide +kernel
theorem d_X14_mainOf_32 : decode b_X14_mainOf 32 = .ok (.iaload, 1) := by decide +kernel
theorem d_X14_mainOf_33 : decode b_X14_mainOf 33 = .ok (.if_icmp .ge 145, 3) := by decide +kernel
theorem d_X14_mainOf_36 : decode b_X14_mainOf 36 = .ok (.aload_n 0, 1) := by decide +kernel
theorem d_X14_mainOf_37 : decode b_X14_mainOf 37 = .ok (.getfield 76, 3) := by decide +kernel
theorem d_X14_mainOf_40 : decode b_X14_mainOf 40 = .ok (.iload_n 3, 1) := by decide +kernel
theorem d_X14_mainOf_41 : decode b_X14_mainOf 41 = .ok (.iaload, 1) := by decide +kernel
theorem d_X14_mainOf_42 : decode b_X14_mainOf 42 = .ok (.iconst 4, 1) := by decide +kernel
theorem d_X14_mainOf_43 : decode b_X14_mainOf 43 = .ok (.if_icmp .ne 77, 3) := by decide +kernel
theorem d_X14_mainOf_46 : decode b_X14_mainOf 46 = .ok (.aload_n 0, 1) := by decide +kernel
theorem d_X14_mainOf_47 : decode b_X14_mainOf 47 = .ok (.getfield 80, 3) := by decide +kernel
theorem d_X14_mainOf_50 : decode b_X14_mainOf 50 = .ok (.aload_n 0, 1) := by decide +kernel
theorem d_X14_mainOf_51 : decode b_X14_mainOf 51 = .ok (.getfield 73, 3) := by decide +kernel
theorem d_X14_mainOf_54 : decode b_X14_mainOf 54 = .ok (.iload_n 3, 1) := by decide +kernel
theorem d_X14_mainOf_55 : decode b_X14_mainOf 55 = .ok (.iaload, 1) := by decide +kernel
theorem d_X14_mainOf_56 : decode b_X14_mainOf 56 = .ok (.baload, 1) := by decide +kernel
theorem d_X14_mainOf_57 : decode b_X14_mainOf 57 = .ok (.bipush 109, 2) := by decide +kernel
theorem d_X14_mainOf_59 : decode b_X14_mainOf 59 = .ok (.if_icmp .ne 61, 3) := by decide +kernel
theorem d_X14_mainOf_62 : decode b_X14_mainOf 62 = .ok (.aload_n 0, 1) := by decide +kernel
theorem d_X14_mainOf_63 : decode b_X14_mainOf 63 = .ok (.getfield 80, 3) := by decide +kernel
theorem d_X14_mainOf_66 : decode b_X14_mainOf 66 = .ok (.aload_n 0, 1) := by decide +kernel
theorem d_X14_mainOf_67 : decode b_X14_mainOf 67 = .ok (.getfield 73, 3) := by decide +kernel
theorem d_X14_mainOf_70 : decode b_X14_mainOf 70 = .ok (.iload_n 3, 1) := by decide +kernel
theorem d_X14_mainOf_71 : decode b_X14_mainOf 71 = .ok (.iaload, 1) := by decide +kernel
theorem d_X14_mainOf_72 : decode b_X14_mainOf 72 = .ok (.iconst 1, 1) := by decide +kernel
theorem d_X14_mainOf_73 : decode b_X14_mainOf 73 = .ok (.iadd, 1) := by decide +kernel
theorem d_X14_mainOf_74 : decode b_X14_mainOf 74 = .ok (.baload, 1) := by decide +kernel
theorem d_X14_mainOf_75 : decode b_X14_mainOf 75 = .ok (.bipush 97, 2) := by decide +kernel
theorem d_X14_mainOf_77 : decode b_X14_mainOf 77 = .ok (.if_icmp .ne 43, 3) := by decide +kernel
theorem d_X14_mainOf_80 : decode b_X14_mainOf 80 = .ok (.aload_n 0, 1) := by decide +kernel
theorem d_X14_mainOf_81 : decode b_X14_mainOf 81 = .ok (.getfield 80, 3) := by decide +kernel
theorem d_X14_mainOf_84 : decode b_X14_mainOf 84 = .ok (.aload_n 0, 1) := by decide +kernel
theorem d_X14_mainOf_85 : decode b_X14_mainOf 85 = .ok (.getfield 73, 3) := by decide +kernel
theorem d_X14_mainOf_88 : decode b_X14_mainOf 88 = .ok (.iload_n 3, 1) := by decide +kernel
theorem d_X14_mainOf_89 : decode b_X14_mainOf 89 = .ok (.iaload, 1) := by decide +kernel
theorem d_X14_mainOf_90 : decode b_X14_mainOf 90 = .ok (.iconst 2, 1) := by decide +kernel
theorem d_X14_mainOf_91 : decode b_X14_mainOf 91 = .ok (.iadd, 1) := by decide +kernel
theorem d_X14_mainOf_92 : decode b_X14_mainOf 92 = .ok (.baload, 1) := by decide +kernel
theorem d_X14_mainOf_93 : decode b_X14_mainOf 93 = .ok (.bipush 105, 2) := by decide +kernel
theorem d_X14_mainOf_95 : decode b_X14_mainOf 95 = .ok (.if_icmp .ne 25, 3) := by decide +kernel
theorem d_X14_mainOf_98 : decode b_X14_mainOf 98 = .ok (.aload_n 0, 1) := by decide +kernel
theorem d_X14_mainOf_99 : decode b_X14_mainOf 99 = .ok (.getfield 80, 3) := by decide +kernel
theorem d_X14_mainOf_102 : decode b_X14_mainOf 102 = .ok (.aload_n 0, 1) := by decide +kernel
theorem d_X14_mainOf_103 : decode b_X14_mainOf 103 = .ok (.getfield 73, 3) := by decide +kernel
theorem d_X14_mainOf_106 : decode b_X14_mainOf 106 = .ok (.iload_n 3, 1) := by decide +kernel
theorem d_X14_mainOf_107 : decode b_X14_mainOf 107 = .ok (.iaload, 1) := by decide +kernel
theorem d_X14_mainOf_108 : decode b_X14_mainOf 108 = .ok (.iconst 3, 1) := by decide +kernel
theorem d_X14_mainOf_109 : decode b_X14_mainOf 109 = .ok (.iadd, 1) := by decide +kernel
theorem d_X14_mainOf_110 : decode b_X14_mainOf 110 = .ok (.baload, 1) := by decide +kernel
theorem d_X14_mainOf_111 : decode b_X14_mainOf 111 = .ok (.bipush 110, 2) := by decide +kernel
theorem d_X14_mainOf_113 : decode b_X14_mainOf 113 = .ok (.if_icmp .ne 7, 3) := by decide +kernel
theorem d_X14_mainOf_116 : decode b_X14_mainOf 116 = .ok (.iconst 1, 1) := by decide +kernel
theorem d_X14_mainOf_117 : decode b_X14_mainOf 117 = .ok (.goto 4, 3) := by decide +kernel
theorem d_X14_mainOf_120 : decode b_X14_mainOf 120 = .ok (.iconst 0, 1) := by decide +kernel
theorem d_X14_mainOf_121 : decode b_X14_mainOf 121 = .ok (.istore 4, 2) := by decide +kernel
theorem d_X14_mainOf_123 : decode b_X14_mainOf 123 = .ok (.iload 4, 2) := by decide +kernel
theorem d_X14_mainOf_125 : decode b_X14_mainOf 125 = .ok (.ifCond .eq 47, 3) := by decide +kernel
theorem d_X14_mainOf_128 : decode b_X14_mainOf 128 = .ok (.aload_n 0, 1) := by decide +kernel
theorem d_X14_mainOf_129 : decode b_X14_mainOf 129 = .ok (.iload_n 3, 1) := by decide +kernel
theorem d_X14_mainOf_130 : decode b_X14_mainOf 130 = .ok (.iconst 1, 1) := by decide +kernel
theorem d_X14_mainOf_131 : decode b_X14_mainOf 131 = .ok (.invokevirtual 694, 3) := by decide +kernel
theorem d_X14_mainOf_134 : decode b_X14_mainOf 134 = .ok (.ifCond .eq 38, 3) := by decide +kernel
theorem d_X14_mainOf_137 : decode b_X14_mainOf 137 = .ok (.aload_n 0, 1) := by decide +kernel
theorem d_X14_mainOf_138 : decode b_X14_mainOf 138 = .ok (.getfield 44, 3) := by decide +kernel
theorem d_X14_mainOf_141 : decode b_X14_mainOf 141 = .ok (.iload_n 3, 1) := by decide +kernel
theorem d_X14_mainOf_142 : decode b_X14_mainOf 142 = .ok (.iaload, 1) := by decide +kernel
theorem d_X14_mainOf_143 : decode b_X14_mainOf 143 = .ok (.iconst 2, 1) := by decide +kernel
theorem d_X14_mainOf_144 : decode b_X14_mainOf 144 = .ok (.if_icmp .ne 28, 3) := by decide +kernel
theorem d_X14_mainOf_147 : decode b_X14_mainOf 147 = .ok (.aload_n 0, 1) := by decide +kernel
theorem d_X14_mainOf_148 : decode b_X14_mainOf 148 = .ok (.getfield 47, 3) := by decide +kernel
theorem d_X14_mainOf_151 : decode b_X14_mainOf 151 = .ok (.iload_n 3, 1) := by decide +kernel
theorem d_X14_mainOf_152 : decode b_X14_mainOf 152 = .ok (.iaload, 1) := by decide +kernel
theorem d_X14_mainOf_153 : decode b_X14_mainOf 153 = .ok (.ifCond .ne 19, 3) := by decide +kernel
theorem d_X14_mainOf_156 : decode b_X14_mainOf 156 = .ok (.aload_n 0, 1) := by decide +kernel
theorem d_X14_mainOf_157 : decode b_X14_mainOf 157 = .ok (.getfield 63, 3) := by decide +kernel
theorem d_X14_mainOf_160 : decode b_X14_mainOf 160 = .ok (.iload_n 3, 1) := by decide +kernel
theorem d_X14_mainOf_161 : decode b_X14_mainOf 161 = .ok (.iaload, 1) := by decide +kernel
theorem d_X14_mainOf_162 : decode b_X14_mainOf 162 = .ok (.ifCond .ne 10, 3) := by decide +kernel
theorem d_X14_mainOf_165 : decode b_X14_mainOf 165 = .ok (.aload_n 0, 1) := by decide +kernel
theorem d_X14_mainOf_166 : decode b_X14_mainOf 166 = .ok (.getfield 70, 3) := by decide +kernel
theorem d_X14_mainOf_169 : decode b_X14_mainOf 169 = .ok (.iload_n 3, 1) := by decide +kernel
theorem d_X14_mainOf_170 : decode b_X14_mainOf 170 = .ok (.iaload, 1) := by decide +kernel
theorem d_X14_mainOf_171 : decode b_X14_mainOf 171 = .ok (.ireturn, 1) := by decide +kernel
theorem d_X14_mainOf_172 : decode b_X14_mainOf 172 = .ok (.iinc 3 1, 3) := by decide +kernel
theorem d_X14_mainOf_175 : decode b_X14_mainOf 175 = .ok (.goto (-154), 3) := by decide +kernel
theorem d_X14_mainOf_178 : decode b_X14_mainOf 178 = .ok (.iinc 2 1, 3) := by decide +kernel
theorem d_X14_mainOf_181 : decode b_X14_mainOf 181 = .ok (.goto (-179), 3) := by decide +kernel
theorem d_X14_mainOf_184 : decode b_X14_mainOf 184 = .ok (.iconst (-1), 1) := by decide +kernel
theorem d_X14_mainOf_185 : decode b_X14_mainOf 185 = .ok (.ireturn, 1) := by decide +kernel
theorem d_X14_layAll_0 : decode b_X14_layAll 0 = .ok (.bipush 16, 2) := by decide +kernel
theorem d_X14_layAll_2 : decode b_X14_layAll 2 = .ok (.istore_n 2, 1) := by decide +kernel
theorem d_X14_layAll_3 : decode b_X14_layAll 3 = .ok (.iconst 0, 1) := by decide +kernel
theorem d_X14_layAll_4 : decode b_X14_layAll 4 = .ok (.istore_n 3, 1) := by decide +kernel
theorem d_X14_layAll_5 : decode b_X14_layAll 5 = .ok (.iload_n 3, 1) := by decide +kernel
theorem d_X14_layAll_6 : decode b_X14_layAll 6 = .ok (.iload_n 1, 1) := by decide +kernel
theorem d_X14_layAll_7 : decode b_X14_layAll 7 = .ok (.if_icmp .ge 46, 3) := by decide +kernel
theorem d_X14_layAll_10 : decode b_X14_layAll 10 = .ok (.aload_n 0, 1) := by decide +kernel
theorem d_X14_layAll_11 : decode b_X14_layAll 11 = .ok (.getfield 147, 3) := by decide +kernel
theorem d_X14_layAll_14 : decode b_X14_layAll 14 = .ok (.iload_n 3, 1) := by decide +kernel
theorem d_X14_layAll_15 : decode b_X14_layAll 15 = .ok (.iload_n 2, 1) := by decide +kernel
theorem d_X14_layAll_16 : decode b_X14_layAll 16 = .ok (.iastore, 1) := by decide +kernel
theorem d_X14_layAll_17 : decode b_X14_layAll 17 = .ok (.aload_n 0, 1) := by decide +kernel
theorem d_X14_layAll_18 : decode b_X14_layAll 18 = .ok (.getfield 162, 3) := by decide +kernel
theorem d_X14_layAll_21 : decode b_X14_layAll 21 = .ok (.aload_n 0, 1) := by decide +kernel
theorem d_X14_layAll_22 : decode b_X14_layAll 22 = .ok (.getfield 141, 3) := by decide +kernel
theorem d_X14_layAll_25 : decode b_X14_layAll 25 = .ok (.iload_n 3, 1) := by decide +kernel
theorem d_X14_layAll_26 : decode b_X14_layAll 26 = .ok (.iaload, 1) := by decide +kernel
theorem d_X14_layAll_27 : decode b_X14_layAll 27 = .ok (.iconst 1, 1) := by decide +kernel
theorem d_X14_layAll_28 : decode b_X14_layAll 28 = .ok (.isub, 1) := by decide +kernel
theorem d_X14_layAll_29 : decode b_X14_layAll 29 = .ok (.iload_n 2, 1) := by decide +kernel
theorem d_X14_layAll_30 : decode b_X14_layAll 30 = .ok (.iastore, 1) := by decide +kernel
theorem d_X14_layAll_31 : decode b_X14_layAll 31 = .ok (.iload_n 2, 1) := by decide +kernel
theorem d_X14_layAll_32 : decode b_X14_layAll 32 = .ok (.aload_n 0, 1) := by decide +kernel
theorem d_X14_layAll_33 : decode b_X14_layAll 33 = .ok (.getfield 89, 3) := by decide +kernel
theorem d_X14_layAll_36 : decode b_X14_layAll 36 = .ok (.aload_n 0, 1) := by decide +kernel
theorem d_X14_layAll_37 : decode b_X14_layAll 37 = .ok (.getfield 141, 3) := by decide +kernel
theorem d_X14_layAll_40 : decode b_X14_layAll 40 = .ok (.iload_n 3, 1) := by decide +kernel
theorem d_X14_layAll_41 : decode b_X14_layAll 41 = .ok (.iaload, 1) := by decide +kernel
theorem d_X14_layAll_42 : decode b_X14_layAll 42 = .ok (.iconst 1, 1) := by decide +kernel
theorem d_X14_layAll_43 : decode b_X14_layAll 43 = .ok (.isub, 1) := by decide +kernel
theorem d_X14_layAll_44 : decode b_X14_layAll 44 = .ok (.iaload, 1) := by decide +kernel
theorem d_X14_layAll_45 : decode b_X14_layAll 45 = .ok (.iadd, 1) := by decide +kernel
theorem d_X14_layAll_46 : decode b_X14_layAll 46 = .ok (.istore_n 2, 1) := by decide +kernel
theorem d_X14_layAll_47 : decode b_X14_layAll 47 = .ok (.iinc 3 1, 3) := by decide +kernel
theorem d_X14_layAll_50 : decode b_X14_layAll 50 = .ok (.goto (-45), 3) := by decide +kernel
theorem d_X14_layAll_53 : decode b_X14_layAll 53 = .ok (.iconst 0, 1) := by decide +kernel
theorem d_X14_layAll_54 : decode b_X14_layAll 54 = .ok (.istore_n 3, 1) := by decide +kernel
theorem d_X14_layAll_55 : decode b_X14_layAll 55 = .ok (.iload_n 3, 1) := by decide +kernel
theorem d_X14_layAll_56 : decode b_X14_layAll 56 = .ok (.aload_n 0, 1) := by decide +kernel
theorem d_X14_layAll_57 : decode b_X14_layAll 57 = .ok (.getfield 165, 3) := by decide +kernel
theorem d_X14_layAll_60 : decode b_X14_layAll 60 = .ok (.arraylength, 1) := by decide +kernel
theorem d_X14_layAll_61 : decode b_X14_layAll 61 = .ok (.if_icmp .ge 16, 3) := by decide +kernel
theorem d_X14_layAll_64 : decode b_X14_layAll 64 = .ok (.aload_n 0, 1) := by decide +kernel
theorem d_X14_layAll_65 : decode b_X14_layAll 65 = .ok (.getfield 165, 3) := by decide +kernel
theorem d_X14_layAll_68 : decode b_X14_layAll 68 = .ok (.iload_n 3, 1) := by decide +kernel
theorem d_X14_layAll_69 : decode b_X14_layAll 69 = .ok (.iconst 0, 1) := by decide +kernel
theorem d_X14_layAll_70 : decode b_X14_layAll 70 = .ok (.iastore, 1) := by decide +kernel
theorem d_X14_layAll_71 : decode b_X14_layAll 71 = .ok (.iinc 3 1, 3) := by decide +kernel
theorem d_X14_layAll_74 : decode b_X14_layAll 74 = .ok (.goto (-19), 3) := by decide +kernel
theorem d_X14_layAll_77 : decode b_X14_layAll 77 = .ok (.iconst 0, 1) := by decide +kernel
theorem d_X14_layAll_78 : decode b_X14_layAll 78 = .ok (.istore_n 3, 1) := by decide +kernel
theorem d_X14_layAll_79 : decode b_X14_layAll 79 = .ok (.iload_n 3, 1) := by decide +kernel
theorem d_X14_layAll_80 : decode b_X14_layAll 80 = .ok (.iload_n 1, 1) := by decide +kernel
theorem d_X14_layAll_81 : decode b_X14_layAll 81 = .ok (.if_icmp .ge 193, 3) := by decide +kernel
theorem d_X14_layAll_84 : decode b_X14_layAll 84 = .ok (.aload_n 0, 1) := by decide +kernel
theorem d_X14_layAll_85 : decode b_X14_layAll 85 = .ok (.getfield 141, 3) := by decide +kernel
theorem d_X14_layAll_88 : decode b_X14_layAll 88 = .ok (.iload_n 3, 1) := by decide +kernel
theorem d_X14_layAll_89 : decode b_X14_layAll 89 = .ok (.iaload, 1) := by decide +kernel
theorem d_X14_layAll_90 : decode b_X14_layAll 90 = .ok (.iconst 1, 1) := by decide +kernel
theorem d_X14_layAll_91 : decode b_X14_layAll 91 = .ok (.isub, 1) := by decide +kernel
theorem d_X14_layAll_92 : decode b_X14_layAll 92 = .ok (.istore 4, 2) := by decide +kernel
theorem d_X14_layAll_94 : decode b_X14_layAll 94 = .ok (.aload_n 0, 1) := by decide +kernel
theorem d_X14_layAll_95 : decode b_X14_layAll 95 = .ok (.getfield 86, 3) := by decide +kernel
theorem d_X14_layAll_98 : decode b_X14_layAll 98 = .ok (.iload 4, 2) := by decide +kernel
theorem d_X14_layAll_100 : decode b_X14_layAll 100 = .ok (.iaload, 1) := by decide +kernel
theorem d_X14_layAll_101 : decode b_X14_layAll 101 = .ok (.istore 5, 2) := by decide +kernel
theorem d_X14_layAll_103 : decode b_X14_layAll 103 = .ok (.iload 5, 2) := by decide +kernel
theorem d_X14_layAll_105 : decode b_X14_layAll 105 = .ok (.aload_n 0, 1) := by decide +kernel
theorem d_X14_layAll_106 : decode b_X14_layAll 106 = .ok (.getfield 86, 3) := by decide +kernel
theorem d_X14_layAll_109 : decode b_X14_layAll 109 = .ok (.iload 4, 2) := by decide +kernel
theorem d_X14_layAll_111 : decode b_X14_layAll 111 = .ok (.iconst 1, 1) := by decide +kernel
theorem d_X14_layAll_112 : decode b_X14_layAll 112 = .ok (.iadd, 1) := by decide +kernel
theorem d_X14_layAll_113 : decode b_X14_layAll 113 = .ok (.iaload, 1) := by decide +kernel
theorem d_X14_layAll_114 : decode b_X14_layAll 114 = .ok (.if_icmp .ge 24, 3) := by decide +kernel
theorem d_X14_layAll_117 : decode b_X14_layAll 117 = .ok (.aload_n 0, 1) := by decide +kernel
theorem d_X14_layAll_118 : decode b_X14_layAll 118 = .ok (.getfield 159, 3) := by decide +kernel
theorem d_X14_layAll_121 : decode b_X14_layAll 121 = .ok (.iload 5, 2) := by decide +kernel
theorem d_X14_layAll_123 : decode b_X14_layAll 123 = .ok (.aload_n 0, 1) := by decide +kernel
theorem d_X14_layAll_124 : decode b_X14_layAll 124 = .ok (.iload 5, 2) := by decide +kernel
theorem d_X14_layAll_126 : decode b_X14_layAll 126 = .ok (.iload_n 3, 1) := by decide +kernel
theorem d_X14_layAll_127 : decode b_X14_layAll 127 = .ok (.iload_n 1, 1) := by decide +kernel
theorem d_X14_layAll_128 : decode b_X14_layAll 128 = .ok (.invokevirtual 735, 3) := by decide +kernel
theorem d_X14_layAll_131 : decode b_X14_layAll 131 = .ok (.iastore, 1) := by decide +kernel
theorem d_X14_layAll_132 : decode b_X14_layAll 132 = .ok (.iinc 5 1, 3) := by decide +kernel
theorem d_X14_layAll_135 : decode b_X14_layAll 135 = .ok (.goto (-32), 3) := by decide +kernel
theorem d_X14_layAll_138 : decode b_X14_layAll 138 = .ok (.aload_n 0, 1) := by decide +kernel
theorem d_X14_layAll_139 : decode b_X14_layAll 139 = .ok (.getfield 92, 3) := by decide +kernel
theorem d_X14_layAll_142 : decode b_X14_layAll 142 = .ok (.iload 4, 2) := by decide +kernel
theorem d_X14_layAll_144 : decode b_X14_layAll 144 = .ok (.iaload, 1) := by decide +kernel
theorem d_X14_layAll_145 : decode b_X14_layAll 145 = .ok (.istore 5, 2) := by decide +kernel
theorem d_X14_layAll_147 : decode b_X14_layAll 147 = .ok (.iload 5, 2) := by decide +kernel
theorem d_X14_layAll_149 : decode b_X14_layAll 149 = .ok (.aload_n 0, 1) := by decide +kernel
theorem d_X14_layAll_150 : decode b_X14_layAll 150 = .ok (.getfield 92, 3) := by decide +kernel
theorem d_X14_layAll_153 : decode b_X14_layAll 153 = .ok (.iload 4, 2) := by decide +kernel
theorem d_X14_layAll_155 : decode b_X14_layAll 155 = .ok (.iconst 1, 1) := by decide +kernel
theorem d_X14_layAll_156 : decode b_X14_layAll 156 = .ok (.iadd, 1) := by decide +kernel
theorem d_X14_layAll_157 : decode b_X14_layAll 157 = .ok (.iaload, 1) := by decide +kernel
theorem d_X14_layAll_158 : decode b_X14_layAll 158 = .ok (.if_icmp .ge 98, 3) := by decide +kernel
theorem d_X14_layAll_161 : decode b_X14_layAll 161 = .ok (.aload_n 0, 1) := by decide +kernel
theorem d_X14_layAll_162 : decode b_X14_layAll 162 = .ok (.getfield 96, 3) := by decide +kernel
theorem d_X14_layAll_165 : decode b_X14_layAll 165 = .ok (.iload 5, 2) := by decide +kernel
theorem d_X14_layAll_167 : decode b_X14_layAll 167 = .ok (.iconst 2, 1) := by decide +kernel
theorem d_X14_layAll_168 : decode b_X14_layAll 168 = .ok (.iadd, 1) := by decide +kernel
theorem d_X14_layAll_169 : decode b_X14_layAll 169 = .ok (.iaload, 1) := by decide +kernel
theorem d_X14_layAll_170 : decode b_X14_layAll 170 = .ok (.istore 6, 2) := by decide +kernel
theorem d_X14_layAll_172 : decode b_X14_layAll 172 = .ok (.iload 6, 2) := by decide +kernel
theorem d_X14_layAll_174 : decode b_X14_layAll 174 = .ok (.ifCond .le 23, 3) := by decide +kernel
theorem d_X14_layAll_177 : decode b_X14_layAll 177 = .ok (.aload_n 0, 1) := by decide +kernel
theorem d_X14_layAll_178 : decode b_X14_layAll 178 = .ok (.getfield 159, 3) := by decide +kernel
theorem d_X14_layAll_181 : decode b_X14_layAll 181 = .ok (.aload_n 0, 1) := by decide +kernel
theorem d_X14_layAll_182 : decode b_X14_layAll 182 = .ok (.getfield 86, 3) := by decide +kernel
theorem d_X14_layAll_185 : decode b_X14_layAll 185 = .ok (.iload 4, 2) := by decide +kernel
theorem d_X14_layAll_187 : decode b_X14_layAll 187 = .ok (.iaload, 1) := by decide +kernel
theorem d_X14_layAll_188 : decode b_X14_layAll 188 = .ok (.iload 6, 2) := by decide +kernel
theorem d_X14_layAll_190 : decode b_X14_layAll 190 = .ok (.iadd, 1) := by decide +kernel
theorem d_X14_layAll_191 : decode b_X14_layAll 191 = .ok (.iconst 1, 1) := by decide +kernel
theorem d_X14_layAll_192 : decode b_X14_layAll 192 = .ok (.isub, 1) := by decide +kernel
theorem d_X14_layAll_193 : decode b_X14_layAll 193 = .ok (.iaload, 1) := by decide +kernel
theorem d_X14_layAll_194 : decode b_X14_layAll 194 = .ok (.goto 23, 3) := by decide +kernel
theorem d_X14_layAll_197 : decode b_X14_layAll 197 = .ok (.iload 6, 2) := by decide +kernel
theorem d_X14_layAll_199 : decode b_X14_layAll 199 = .ok (.ifCond .ge 17, 3) := by decide +kernel
theorem d_X14_layAll_202 : decode b_X14_layAll 202 = .ok (.aload_n 0, 1) := by decide +kernel
theorem d_X14_layAll_203 : decode b_X14_layAll 203 = .ok (.getfield 147, 3) := by decide +kernel
theorem d_X14_layAll_206 : decode b_X14_layAll 206 = .ok (.iload_n 3, 1) := by decide +kernel
theorem d_X14_layAll_207 : decode b_X14_layAll 207 = .ok (.iaload, 1) := by decide +kernel
theorem d_X14_layAll_208 : decode b_X14_layAll 208 = .ok (.iconst 1, 1) := by decide +kernel
theorem d_X14_layAll_209 : decode b_X14_layAll 209 = .ok (.isub, 1) := by decide +kernel
theorem d_X14_layAll_210 : decode b_X14_layAll 210 = .ok (.iload 6, 2) := by decide +kernel
theorem d_X14_layAll_212 : decode b_X14_layAll 212 = .ok (.isub, 1) := by decide +kernel
theorem d_X14_layAll_213 : decode b_X14_layAll 213 = .ok (.goto 4, 3) := by decide +kernel
theorem d_X14_layAll_216 : decode b_X14_layAll 216 = .ok (.iconst 0, 1) := by decide +kernel
theorem d_X14_layAll_217 : decode b_X14_layAll 217 = .ok (.istore 7, 2) := by decide +kernel
theorem d_X14_layAll_219 : decode b_X14_layAll 219 = .ok (.aload_n 0, 1) := by decide +kernel
theorem d_X14_layAll_220 : decode b_X14_layAll 220 = .ok (.getfield 165, 3) := by decide +kernel
theorem d_X14_layAll_223 : decode b_X14_layAll 223 = .ok (.aload_n 0, 1) := by decide +kernel
theorem d_X14_layAll_224 : decode b_X14_layAll 224 = .ok (.getfield 147, 3) := by decide +kernel
theorem d_X14_layAll_227 : decode b_X14_layAll 227 = .ok (.iload_n 3, 1) := by decide +kernel
theorem d_X14_layAll_228 : decode b_X14_layAll 228 = .ok (.iaload, 1) := by decide +kernel
theorem d_X14_layAll_229 : decode b_X14_layAll 229 = .ok (.aload_n 0, 1) := by decide +kernel
theorem d_X14_layAll_230 : decode b_X14_layAll 230 = .ok (.getfield 96, 3) := by decide +kernel
theorem d_X14_layAll_233 : decode b_X14_layAll 233 = .ok (.iload 5, 2) := by decide +kernel
theorem d_X14_layAll_235 : decode b_X14_layAll 235 = .ok (.iaload, 1) := by decide +kernel
theorem d_X14_layAll_236 : decode b_X14_layAll 236 = .ok (.iadd, 1) := by decide +kernel
theorem d_X14_layAll_237 : decode b_X14_layAll 237 = .ok (.aload_n 0, 1) := by decide +kernel
theorem d_X14_layAll_238 : decode b_X14_layAll 238 = .ok (.getfield 96, 3) := by decide +kernel
theorem d_X14_layAll_241 : decode b_X14_layAll 241 = .ok (.iload 5, 2) := by decide +kernel
theorem d_X14_layAll_243 : decode b_X14_layAll 243 = .ok (.iconst 1, 1) := by decide +kernel
theorem d_X14_layAll_244 : decode b_X14_layAll 244 = .ok (.iadd, 1) := by decide +kernel
theorem d_X14_layAll_245 : decode b_X14_layAll 245 = .ok (.iaload, 1) := by decide +kernel
theorem d_X14_layAll_246 : decode b_X14_layAll 246 = .ok (.iload 7, 2) := by decide +kernel
theorem d_X14_layAll_248 : decode b_X14_layAll 248 = .ok (.iadd, 1) := by decide +kernel
theorem d_X14_layAll_249 : decode b_X14_layAll 249 = .ok (.iastore, 1) := by decide +kernel
theorem d_X14_layAll_250 : decode b_X14_layAll 250 = .ok (.iinc 5 3, 3) := by decide +kernel
theorem d_X14_layAll_253 : decode b_X14_layAll 253 = .ok (.goto (-106), 3) := by decide +kernel
theorem d_X14_layAll_256 : decode b_X14_layAll 256 = .ok (.aload_n 0, 1) := by decide +kernel
theorem d_X14_layAll_257 : decode b_X14_layAll 257 = .ok (.getfield 144, 3) := by decide +kernel
theorem d_X14_layAll_260 : decode b_X14_layAll 260 = .ok (.iload_n 3, 1) := by decide +kernel
theorem d_X14_layAll_261 : decode b_X14_layAll 261 = .ok (.aload_n 0, 1) := by decide +kernel
theorem d_X14_layAll_262 : decode b_X14_layAll 262 = .ok (.getfield 141, 3) := by decide +kernel
theorem d_X14_layAll_265 : decode b_X14_layAll 265 = .ok (.iload_n 3, 1) := by decide +kernel
theorem d_X14_layAll_266 : decode b_X14_layAll 266 = .ok (.iaload, 1) := by decide +kernel
theorem d_X14_layAll_267 : decode b_X14_layAll 267 = .ok (.iastore, 1) := by decide +kernel
theorem d_X14_layAll_268 : decode b_X14_layAll 268 = .ok (.iinc 3 1, 3) := by decide +kernel
theorem d_X14_layAll_271 : decode b_X14_layAll 271 = .ok (.goto (-192), 3) := by decide +kernel
theorem d_X14_layAll_274 : decode b_X14_layAll 274 = .ok (.aload_n 0, 1) := by decide +kernel
theorem d_X14_layAll_275 : decode b_X14_layAll 275 = .ok (.iload_n 1, 1) := by decide +kernel
theorem d_X14_layAll_276 : decode b_X14_layAll 276 = .ok (.putfield 150, 3) := by decide +kernel
theorem d_X14_layAll_279 : decode b_X14_layAll 279 = .ok (.return_, 1) := by decide +kernel
theorem d_X14_aimOf_0 : decode b_X14_aimOf 0 = .ok (.aload_n 0, 1) := by decide +kernel
theorem d_X14_aimOf_1 : decode b_X14_aimOf 1 = .ok (.getfield 57, 3) := by decide +kernel
theorem d_X14_aimOf_4 : decode b_X14_aimOf 4 = .ok (.iload_n 1, 1) := by decide +kernel
theorem d_X14_aimOf_5 : decode b_X14_aimOf 5 = .ok (.baload, 1) := by decide +kernel
theorem d_X14_aimOf_6 : decode b_X14_aimOf 6 = .ok (.ifCond .eq 36, 3) := by decide +kernel
theorem d_X14_aimOf_9 : decode b_X14_aimOf 9 = .ok (.aload_n 0, 1) := by decide +kernel
theorem d_X14_aimOf_10 : decode b_X14_aimOf 10 = .ok (.getfield 44, 3) := by decide +kernel
theorem d_X14_aimOf_13 : decode b_X14_aimOf 13 = .ok (.iload_n 1, 1) := by decide +kernel
theorem d_X14_aimOf_14 : decode b_X14_aimOf 14 = .ok (.iaload, 1) := by decide +kernel
theorem d_X14_aimOf_15 : decode b_X14_aimOf 15 = .ok (.iconst 1, 1) := by decide +kernel
theorem d_X14_aimOf_16 : decode b_X14_aimOf 16 = .ok (.if_icmp .ne 19, 3) := by decide +kernel
theorem d_X14_aimOf_19 : decode b_X14_aimOf 19 = .ok (.aload_n 0, 1) := by decide +kernel
theorem d_X14_aimOf_20 : decode b_X14_aimOf 20 = .ok (.getfield 147, 3) := by decide +kernel
theorem d_X14_aimOf_23 : decode b_X14_aimOf 23 = .ok (.iload_n 2, 1) := by decide +kernel
theorem d_X14_aimOf_24 : decode b_X14_aimOf 24 = .ok (.iaload, 1) := by decide +kernel
theorem d_X14_aimOf_25 : decode b_X14_aimOf 25 = .ok (.aload_n 0, 1) := by decide +kernel
theorem d_X14_aimOf_26 : decode b_X14_aimOf 26 = .ok (.getfield 70, 3) := by decide +kernel
theorem d_X14_aimOf_29 : decode b_X14_aimOf 29 = .ok (.iload_n 1, 1) := by decide +kernel
theorem d_X14_aimOf_30 : decode b_X14_aimOf 30 = .ok (.iaload, 1) := by decide +kernel
theorem d_X14_aimOf_31 : decode b_X14_aimOf 31 = .ok (.iadd, 1) := by decide +kernel
theorem d_X14_aimOf_32 : decode b_X14_aimOf 32 = .ok (.goto 9, 3) := by decide +kernel
theorem d_X14_aimOf_35 : decode b_X14_aimOf 35 = .ok (.aload_n 0, 1) := by decide +kernel
theorem d_X14_aimOf_36 : decode b_X14_aimOf 36 = .ok (.getfield 70, 3) := by decide +kernel
theorem d_X14_aimOf_39 : decode b_X14_aimOf 39 = .ok (.iload_n 1, 1) := by decide +kernel
theorem d_X14_aimOf_40 : decode b_X14_aimOf 40 = .ok (.iaload, 1) := by decide +kernel
theorem d_X14_aimOf_41 : decode b_X14_aimOf 41 = .ok (.ireturn, 1) := by decide +kernel
theorem d_X14_aimOf_42 : decode b_X14_aimOf 42 = .ok (.aload_n 0, 1) := by decide +kernel
theorem d_X14_aimOf_43 : decode b_X14_aimOf 43 = .ok (.getfield 53, 3) := by decide +kernel
theorem d_X14_aimOf_46 : decode b_X14_aimOf 46 = .ok (.iload_n 1, 1) := by decide +kernel
theorem d_X14_aimOf_47 : decode b_X14_aimOf 47 = .ok (.baload, 1) := by decide +kernel
theorem d_X14_aimOf_48 : decode b_X14_aimOf 48 = .ok (.ifCond .eq 7, 3) := by decide +kernel
theorem d_X14_aimOf_51 : decode b_X14_aimOf 51 = .ok (.iconst (-1), 1) := by decide +kernel
theorem d_X14_aimOf_52 : decode b_X14_aimOf 52 = .ok (.goto 8, 3) := by decide +kernel
theorem d_X14_aimOf_55 : decode b_X14_aimOf 55 = .ok (.aload_n 0, 1) := by decide +kernel
theorem d_X14_aimOf_56 : decode b_X14_aimOf 56 = .ok (.iload_n 1, 1) := by decide +kernel
theorem d_X14_aimOf_57 : decode b_X14_aimOf 57 = .ok (.invokevirtual 707, 3) := by decide +kernel
theorem d_X14_aimOf_60 : decode b_X14_aimOf 60 = .ok (.istore 4, 2) := by decide +kernel
theorem d_X14_aimOf_62 : decode b_X14_aimOf 62 = .ok (.iload 4, 2) := by decide +kernel
theorem d_X14_aimOf_64 : decode b_X14_aimOf 64 = .ok (.ifCond .lt 8, 3) := by decide +kernel
theorem d_X14_aimOf_67 : decode b_X14_aimOf 67 = .ok (.iconst (-1), 1) := by decide +kernel
theorem d_X14_aimOf_68 : decode b_X14_aimOf 68 = .ok (.iload 4, 2) := by decide +kernel
theorem d_X14_aimOf_70 : decode b_X14_aimOf 70 = .ok (.isub, 1) := by decide +kernel
theorem d_X14_aimOf_71 : decode b_X14_aimOf 71 = .ok (.ireturn, 1) := by decide +kernel
theorem d_X14_aimOf_72 : decode b_X14_aimOf 72 = .ok (.aload_n 0, 1) := by decide +kernel
theorem d_X14_aimOf_73 : decode b_X14_aimOf 73 = .ok (.getfield 53, 3) := by decide +kernel
theorem d_X14_aimOf_76 : decode b_X14_aimOf 76 = .ok (.iload_n 1, 1) := by decide +kernel
theorem d_X14_aimOf_77 : decode b_X14_aimOf 77 = .ok (.baload, 1) := by decide +kernel
theorem d_X14_aimOf_78 : decode b_X14_aimOf 78 = .ok (.ifCond .ne 12, 3) := by decide +kernel
theorem d_X14_aimOf_81 : decode b_X14_aimOf 81 = .ok (.aload_n 0, 1) := by decide +kernel
theorem d_X14_aimOf_82 : decode b_X14_aimOf 82 = .ok (.iload_n 1, 1) := by decide +kernel
theorem d_X14_aimOf_83 : decode b_X14_aimOf 83 = .ok (.iload_n 3, 1) := by decide +kernel
theorem d_X14_aimOf_84 : decode b_X14_aimOf 84 = .ok (.invokevirtual 710, 3) := by decide +kernel
theorem d_X14_aimOf_87 : decode b_X14_aimOf 87 = .ok (.ifCond .ne 5, 3) := by decide +kernel
theorem d_X14_aimOf_90 : decode b_X14_aimOf 90 = .ok (.iconst 0, 1) := by decide +kernel
theorem d_X14_aimOf_91 : decode b_X14_aimOf 91 = .ok (.ireturn, 1) := by decide +kernel
theorem d_X14_aimOf_92 : decode b_X14_aimOf 92 = .ok (.aload_n 0, 1) := by decide +kernel
theorem d_X14_aimOf_93 : decode b_X14_aimOf 93 = .ok (.getfield 44, 3) := by decide +kernel
theorem d_X14_aimOf_96 : decode b_X14_aimOf 96 = .ok (.iload_n 1, 1) := by decide +kernel
theorem d_X14_aimOf_97 : decode b_X14_aimOf 97 = .ok (.iaload, 1) := by decide +kernel
theorem d_X14_aimOf_98 : decode b_X14_aimOf 98 = .ok (.iconst 1, 1) := by decide +kernel
theorem d_X14_aimOf_99 : decode b_X14_aimOf 99 = .ok (.if_icmp .ne 25, 3) := by decide +kernel
theorem d_X14_aimOf_102 : decode b_X14_aimOf 102 = .ok (.aload_n 0, 1) := by decide +kernel
theorem d_X14_aimOf_103 : decode b_X14_aimOf 103 = .ok (.getfield 147, 3) := by decide +kernel
theorem d_X14_aimOf_106 : decode b_X14_aimOf 106 = .ok (.aload_n 0, 1) := by decide +kernel
theorem d_X14_aimOf_107 : decode b_X14_aimOf 107 = .ok (.getfield 701, 3) := by decide +kernel
theorem d_X14_aimOf_110 : decode b_X14_aimOf 110 = .ok (.iaload, 1) := by decide +kernel
theorem d_X14_aimOf_111 : decode b_X14_aimOf 111 = .ok (.aload_n 0, 1) := by decide +kernel
theorem d_X14_aimOf_112 : decode b_X14_aimOf 112 = .ok (.getfield 70, 3) := by decide +kernel
theorem d_X14_aimOf_115 : decode b_X14_aimOf 115 = .ok (.aload_n 0, 1) := by decide +kernel
theorem d_X14_aimOf_116 : decode b_X14_aimOf 116 = .ok (.getfield 704, 3) := by decide +kernel
theorem d_X14_aimOf_119 : decode b_X14_aimOf 119 = .ok (.iaload, 1) := by decide +kernel
theorem d_X14_aimOf_120 : decode b_X14_aimOf 120 = .ok (.iadd, 1) := by decide +kernel
theorem d_X14_aimOf_121 : decode b_X14_aimOf 121 = .ok (.goto 12, 3) := by decide +kernel
theorem d_X14_aimOf_124 : decode b_X14_aimOf 124 = .ok (.aload_n 0, 1) := by decide +kernel
theorem d_X14_aimOf_125 : decode b_X14_aimOf 125 = .ok (.getfield 70, 3) := by decide +kernel
theorem d_X14_aimOf_128 : decode b_X14_aimOf 128 = .ok (.aload_n 0, 1) := by decide +kernel
theorem d_X14_aimOf_129 : decode b_X14_aimOf 129 = .ok (.getfield 704, 3) := by decide +kernel
theorem d_X14_aimOf_132 : decode b_X14_aimOf 132 = .ok (.iaload, 1) := by decide +kernel
theorem d_X14_aimOf_133 : decode b_X14_aimOf 133 = .ok (.ireturn, 1) := by decide +kernel
theorem d_X14_fault_0 : decode b_X14_fault 0 = .ok (.iload_n 1, 1) := by decide +kernel
theorem d_X14_fault_1 : decode b_X14_fault 1 = .ok (.ifCond .ne 10, 3) := by decide +kernel
theorem d_X14_fault_4 : decode b_X14_fault 4 = .ok (.aload_n 0, 1) := by decide +kernel
theorem d_X14_fault_5 : decode b_X14_fault 5 = .ok (.getfield 153, 3) := by decide +kernel
theorem d_X14_fault_8 : decode b_X14_fault 8 = .ok (.goto 16, 3) := by decide +kernel
theorem d_X14_fault_11 : decode b_X14_fault 11 = .ok (.iload_n 1, 1) := by decide +kernel
theorem d_X14_fault_12 : decode b_X14_fault 12 = .ok (.iconst 1, 1) := by decide +kernel
theorem d_X14_fault_13 : decode b_X14_fault 13 = .ok (.if_icmp .ne 10, 3) := by decide +kernel
theorem d_X14_fault_16 : decode b_X14_fault 16 = .ok (.aload_n 0, 1) := by decide +kernel
theorem d_X14_fault_17 : decode b_X14_fault 17 = .ok (.getfield 156, 3) := by decide +kernel
theorem d_X14_fault_20 : decode b_X14_fault 20 = .ok (.goto 4, 3) := by decide +kernel
theorem d_X14_fault_23 : decode b_X14_fault 23 = .ok (.iconst (-1), 1) := by decide +kernel
theorem d_X14_fault_24 : decode b_X14_fault 24 = .ok (.ireturn, 1) := by decide +kernel
theorem d_X14_cell_0 : decode b_X14_cell 0 = .ok (.aload_n 0, 1) := by decide +kernel
theorem d_X14_cell_1 : decode b_X14_cell 1 = .ok (.getfield 197, 3) := by decide +kernel
theorem d_X14_cell_4 : decode b_X14_cell 4 = .ok (.istore_n 1, 1) := by decide +kernel
theorem d_X14_cell_5 : decode b_X14_cell 5 = .ok (.aload_n 0, 1) := by decide +kernel
theorem d_X14_cell_6 : decode b_X14_cell 6 = .ok (.iconst 0, 1) := by decide +kernel
theorem d_X14_cell_7 : decode b_X14_cell 7 = .ok (.putfield 197, 3) := by decide +kernel
theorem d_X14_cell_10 : decode b_X14_cell 10 = .ok (.aload_n 0, 1) := by decide +kernel
theorem d_X14_cell_11 : decode b_X14_cell 11 = .ok (.getfield 150, 3) := by decide +kernel
theorem d_X14_cell_14 : decode b_X14_cell 14 = .ok (.ifCond .ge 5, 3) := by decide +kernel
theorem d_X14_cell_17 : decode b_X14_cell 17 = .ok (.iconst (-1), 1) := by decide +kernel
theorem d_X14_cell_18 : decode b_X14_cell 18 = .ok (.ireturn, 1) := by decide +kernel
theorem d_X14_cell_19 : decode b_X14_cell 19 = .ok (.iconst 0, 1) := by decide +kernel
theorem d_X14_cell_20 : decode b_X14_cell 20 = .ok (.istore_n 2, 1) := by decide +kernel
theorem d_X14_cell_21 : decode b_X14_cell 21 = .ok (.iload_n 2, 1) := by decide +kernel
theorem d_X14_cell_22 : decode b_X14_cell 22 = .ok (.aload_n 0, 1) := by decide +kernel
theorem d_X14_cell_23 : decode b_X14_cell 23 = .ok (.getfield 150, 3) := by decide +kernel
theorem d_X14_cell_26 : decode b_X14_cell 26 = .ok (.if_icmp .ge 90, 3) := by decide +kernel
theorem d_X14_cell_29 : decode b_X14_cell 29 = .ok (.aload_n 0, 1) := by decide +kernel
theorem d_X14_cell_30 : decode b_X14_cell 30 = .ok (.getfield 86, 3) := by decide +kernel
theorem d_X14_cell_33 : decode b_X14_cell 33 = .ok (.aload_n 0, 1) := by decide +kernel
theorem d_X14_cell_34 : decode b_X14_cell 34 = .ok (.getfield 144, 3) := by decide +kernel
theorem d_X14_cell_37 : decode b_X14_cell 37 = .ok (.iload_n 2, 1) := by decide +kernel
theorem d_X14_cell_38 : decode b_X14_cell 38 = .ok (.iaload, 1) := by decide +kernel
theorem d_X14_cell_39 : decode b_X14_cell 39 = .ok (.iconst 1, 1) := by decide +kernel
theorem d_X14_cell_40 : decode b_X14_cell 40 = .ok (.isub, 1) := by decide +kernel
theorem d_X14_cell_41 : decode b_X14_cell 41 = .ok (.iaload, 1) := by decide +kernel
theorem d_X14_cell_42 : decode b_X14_cell 42 = .ok (.istore_n 3, 1) := by decide +kernel
theorem d_X14_cell_43 : decode b_X14_cell 43 = .ok (.iload_n 3, 1) := by decide +kernel
theorem d_X14_cell_44 : decode b_X14_cell 44 = .ok (.aload_n 0, 1) := by decide +kernel
theorem d_X14_cell_45 : decode b_X14_cell 45 = .ok (.getfield 86, 3) := by decide +kernel
theorem d_X14_cell_48 : decode b_X14_cell 48 = .ok (.aload_n 0, 1) := by decide +kernel
theorem d_X14_cell_49 : decode b_X14_cell 49 = .ok (.getfield 144, 3) := by decide +kernel
theorem d_X14_cell_52 : decode b_X14_cell 52 = .ok (.iload_n 2, 1) := by decide +kernel
theorem d_X14_cell_53 : decode b_X14_cell 53 = .ok (.iaload, 1) := by decide +kernel
theorem d_X14_cell_54 : decode b_X14_cell 54 = .ok (.iaload, 1) := by decide +kernel
theorem d_X14_cell_55 : decode b_X14_cell 55 = .ok (.if_icmp .ge 55, 3) := by decide +kernel
theorem d_X14_cell_58 : decode b_X14_cell 58 = .ok (.aload_n 0, 1) := by decide +kernel
theorem d_X14_cell_59 : decode b_X14_cell 59 = .ok (.iload_n 3, 1) := by decide +kernel
theorem d_X14_cell_60 : decode b_X14_cell 60 = .ok (.iconst 1, 1) := by decide +kernel
theorem d_X14_cell_61 : decode b_X14_cell 61 = .ok (.invokevirtual 694, 3) := by decide +kernel
theorem d_X14_cell_64 : decode b_X14_cell 64 = .ok (.ifCond .eq 40, 3) := by decide +kernel
theorem d_X14_cell_67 : decode b_X14_cell 67 = .ok (.aload_n 0, 1) := by decide +kernel
theorem d_X14_cell_68 : decode b_X14_cell 68 = .ok (.iload_n 3, 1) := by decide +kernel
theorem d_X14_cell_69 : decode b_X14_cell 69 = .ok (.iload_n 1, 1) := by decide +kernel
theorem d_X14_cell_70 : decode b_X14_cell 70 = .ok (.invokevirtual 738, 3) := by decide +kernel
theorem d_X14_cell_73 : decode b_X14_cell 73 = .ok (.ifCond .eq 31, 3) := by decide +kernel
theorem d_X14_cell_76 : decode b_X14_cell 76 = .ok (.aload_n 0, 1) := by decide +kernel
theorem d_X14_cell_77 : decode b_X14_cell 77 = .ok (.getfield 44, 3) := by decide +kernel
theorem d_X14_cell_80 : decode b_X14_cell 80 = .ok (.iload_n 3, 1) := by decide +kernel
theorem d_X14_cell_81 : decode b_X14_cell 81 = .ok (.iaload, 1) := by decide +kernel
theorem d_X14_cell_82 : decode b_X14_cell 82 = .ok (.iconst 1, 1) := by decide +kernel
theorem d_X14_cell_83 : decode b_X14_cell 83 = .ok (.if_icmp .ne 19, 3) := by decide +kernel
theorem d_X14_cell_86 : decode b_X14_cell 86 = .ok (.aload_n 0, 1) := by decide +kernel
theorem d_X14_cell_87 : decode b_X14_cell 87 = .ok (.getfield 147, 3) := by decide +kernel
theorem d_X14_cell_90 : decode b_X14_cell 90 = .ok (.iload_n 2, 1) := by decide +kernel
theorem d_X14_cell_91 : decode b_X14_cell 91 = .ok (.iaload, 1) := by decide +kernel
theorem d_X14_cell_92 : decode b_X14_cell 92 = .ok (.aload_n 0, 1) := by decide +kernel
theorem d_X14_cell_93 : decode b_X14_cell 93 = .ok (.getfield 70, 3) := by decide +kernel
theorem d_X14_cell_96 : decode b_X14_cell 96 = .ok (.iload_n 3, 1) := by decide +kernel
theorem d_X14_cell_97 : decode b_X14_cell 97 = .ok (.iaload, 1) := by decide +kernel
theorem d_X14_cell_98 : decode b_X14_cell 98 = .ok (.iadd, 1) := by decide +kernel
theorem d_X14_cell_99 : decode b_X14_cell 99 = .ok (.goto 4, 3) := by decide +kernel
theorem d_X14_cell_102 : decode b_X14_cell 102 = .ok (.iconst 0, 1) := by decide +kernel
theorem d_X14_cell_103 : decode b_X14_cell 103 = .ok (.ireturn, 1) := by decide +kernel
theorem d_X14_cell_104 : decode b_X14_cell 104 = .ok (.iinc 3 1, 3) := by decide +kernel
theorem d_X14_cell_107 : decode b_X14_cell 107 = .ok (.goto (-64), 3) := by decide +kernel
theorem d_X14_cell_110 : decode b_X14_cell 110 = .ok (.iinc 2 1, 3) := by decide +kernel
theorem d_X14_cell_113 : decode b_X14_cell 113 = .ok (.goto (-92), 3) := by decide +kernel
theorem d_X14_cell_116 : decode b_X14_cell 116 = .ok (.iconst 1, 1) := by decide +kernel
theorem d_X14_cell_117 : decode b_X14_cell 117 = .ok (.istore_n 2, 1) := by decide +kernel
theorem d_X14_cell_118 : decode b_X14_cell 118 = .ok (.iconst 0, 1) := by decide +kernel
theorem d_X14_cell_119 : decode b_X14_cell 119 = .ok (.istore_n 3, 1) := by decide +kernel
theorem d_X14_cell_120 : decode b_X14_cell 120 = .ok (.iload_n 3, 1) := by decide +kernel
theorem d_X14_cell_121 : decode b_X14_cell 121 = .ok (.iconst 4, 1) := by decide +kernel
theorem d_X14_cell_122 : decode b_X14_cell 122 = .ok (.if_icmp .ge 105, 3) := by decide +kernel
theorem d_X14_cell_125 : decode b_X14_cell 125 = .ok (.iload_n 2, 1) := by decide +kernel
theorem d_X14_cell_126 : decode b_X14_cell 126 = .ok (.istore 4, 2) := by decide +kernel
theorem d_X14_cell_128 : decode b_X14_cell 128 = .ok (.ldc_w 692, 3) := by decide +kernel
theorem d_X14_cell_131 : decode b_X14_cell 131 = .ok (.iload 4, 2) := by decide +kernel
theorem d_X14_cell_133 : decode b_X14_cell 133 = .ok (.invokevirtual 270, 3) := by decide +kernel
theorem d_X14_cell_136 : decode b_X14_cell 136 = .ok (.bipush 32, 2) := by decide +kernel
theorem d_X14_cell_138 : decode b_X14_cell 138 = .ok (.if_icmp .eq 9, 3) := by decide +kernel
theorem d_X14_cell_141 : decode b_X14_cell 141 = .ok (.iinc 4 1, 3) := by decide +kernel
theorem d_X14_cell_144 : decode b_X14_cell 144 = .ok (.goto (-16), 3) := by decide +kernel
theorem d_X14_cell_147 : decode b_X14_cell 147 = .ok (.iload 4, 2) := by decide +kernel
theorem d_X14_cell_149 : decode b_X14_cell 149 = .ok (.iload_n 2, 1) := by decide +kernel
theorem d_X14_cell_150 : decode b_X14_cell 150 = .ok (.isub, 1) := by decide +kernel
theorem d_X14_cell_151 : decode b_X14_cell 151 = .ok (.iload_n 1, 1) := by decide +kernel
theorem d_X14_cell_152 : decode b_X14_cell 152 = .ok (.if_icmp .ne 7, 3) := by decide +kernel
theorem d_X14_cell_155 : decode b_X14_cell 155 = .ok (.iconst 1, 1) := by decide +kernel
theorem d_X14_cell_156 : decode b_X14_cell 156 = .ok (.goto 4, 3) := by decide +kernel
theorem d_X14_cell_159 : decode b_X14_cell 159 = .ok (.iconst 0, 1) := by decide +kernel
theorem d_X14_cell_160 : decode b_X14_cell 160 = .ok (.istore 5, 2) := by decide +kernel
theorem d_X14_cell_162 : decode b_X14_cell 162 = .ok (.iconst 0, 1) := by decide +kernel
theorem d_X14_cell_163 : decode b_X14_cell 163 = .ok (.istore 6, 2) := by decide +kernel
theorem d_X14_cell_165 : decode b_X14_cell 165 = .ok (.iload 5, 2) := by decide +kernel
theorem d_X14_cell_167 : decode b_X14_cell 167 = .ok (.ifCond .eq 42, 3) := by decide +kernel
theorem d_X14_cell_170 : decode b_X14_cell 170 = .ok (.iload 6, 2) := by decide +kernel
theorem d_X14_cell_172 : decode b_X14_cell 172 = .ok (.iload_n 1, 1) := by decide +kernel
theorem d_X14_cell_173 : decode b_X14_cell 173 = .ok (.if_icmp .ge 36, 3) := by decide +kernel
theorem d_X14_cell_176 : decode b_X14_cell 176 = .ok (.ldc_w 692, 3) := by decide +kernel
theorem d_X14_cell_179 : decode b_X14_cell 179 = .ok (.iload_n 2, 1) := by decide +kernel
theorem d_X14_cell_180 : decode b_X14_cell 180 = .ok (.iload 6, 2) := by decide +kernel
theorem d_X14_cell_182 : decode b_X14_cell 182 = .ok (.iadd, 1) := by decide +kernel
theorem d_X14_cell_183 : decode b_X14_cell 183 = .ok (.invokevirtual 270, 3) := by decide +kernel
theorem d_X14_cell_186 : decode b_X14_cell 186 = .ok (.aload_n 0, 1) := by decide +kernel
theorem d_X14_cell_187 : decode b_X14_cell 187 = .ok (.getfield 9, 3) := by decide +kernel
theorem d_X14_cell_190 : decode b_X14_cell 190 = .ok (.iload 6, 2) := by decide +kernel
theorem d_X14_cell_192 : decode b_X14_cell 192 = .ok (.baload, 1) := by decide +kernel
theorem d_X14_cell_193 : decode b_X14_cell 193 = .ok (.if_icmp .ne 7, 3) := by decide +kernel
theorem d_X14_cell_196 : decode b_X14_cell 196 = .ok (.iconst 1, 1) := by decide +kernel
theorem d_X14_cell_197 : decode b_X14_cell 197 = .ok (.goto 4, 3) := by decide +kernel
theorem d_X14_cell_200 : decode b_X14_cell 200 = .ok (.iconst 0, 1) := by decide +kernel
theorem d_X14_cell_201 : decode b_X14_cell 201 = .ok (.istore 5, 2) := by decide +kernel
theorem d_X14_cell_203 : decode b_X14_cell 203 = .ok (.iinc 6 1, 3) := by decide +kernel
theorem d_X14_cell_206 : decode b_X14_cell 206 = .ok (.goto (-41), 3) := by decide +kernel
theorem d_X14_cell_209 : decode b_X14_cell 209 = .ok (.iload 5, 2) := by decide +kernel
theorem d_X14_cell_211 : decode b_X14_cell 211 = .ok (.ifCond .eq 5, 3) := by decide +kernel
theorem d_X14_cell_214 : decode b_X14_cell 214 = .ok (.iconst 0, 1) := by decide +kernel
theorem d_X14_cell_215 : decode b_X14_cell 215 = .ok (.ireturn, 1) := by decide +kernel
theorem d_X14_cell_216 : decode b_X14_cell 216 = .ok (.iload 4, 2) := by decide +kernel
theorem d_X14_cell_218 : decode b_X14_cell 218 = .ok (.iconst 1, 1) := by decide +kernel
theorem d_X14_cell_219 : decode b_X14_cell 219 = .ok (.iadd, 1) := by decide +kernel
theorem d_X14_cell_220 : decode b_X14_cell 220 = .ok (.istore_n 2, 1) := by decide +kernel
theorem d_X14_cell_221 : decode b_X14_cell 221 = .ok (.iinc 3 1, 3) := by decide +kernel
theorem d_X14_cell_224 : decode b_X14_cell 224 = .ok (.goto (-104), 3) := by decide +kernel
theorem d_X14_cell_227 : decode b_X14_cell 227 = .ok (.iconst (-1), 1) := by decide +kernel
theorem d_X14_cell_228 : decode b_X14_cell 228 = .ok (.ireturn, 1) := by decide +kernel
theorem d_X14_isTray_0 : decode b_X14_isTray 0 = .ok (.aload_n 0, 1) := by decide +kernel
theorem d_X14_isTray_1 : decode b_X14_isTray 1 = .ok (.getfield 76, 3) := by decide +kernel
theorem d_X14_isTray_4 : decode b_X14_isTray 4 = .ok (.iload_n 1, 1) := by decide +kernel
theorem d_X14_isTray_5 : decode b_X14_isTray 5 = .ok (.iaload, 1) := by decide +kernel
theorem d_X14_isTray_6 : decode b_X14_isTray 6 = .ok (.iload_n 2, 1) := by decide +kernel
theorem d_X14_isTray_7 : decode b_X14_isTray 7 = .ok (.if_icmp .eq 5, 3) := by decide +kernel
theorem d_X14_isTray_10 : decode b_X14_isTray 10 = .ok (.iconst 0, 1) := by decide +kernel
theorem d_X14_isTray_11 : decode b_X14_isTray 11 = .ok (.ireturn, 1) := by decide +kernel
theorem d_X14_isTray_12 : decode b_X14_isTray 12 = .ok (.iconst 0, 1) := by decide +kernel
theorem d_X14_isTray_13 : decode b_X14_isTray 13 = .ok (.istore_n 3, 1) := by decide +kernel
theorem d_X14_isTray_14 : decode b_X14_isTray 14 = .ok (.iload_n 3, 1) := by decide +kernel
theorem d_X14_isTray_15 : decode b_X14_isTray 15 = .ok (.iload_n 2, 1) := by decide +kernel
theorem d_X14_isTray_16 : decode b_X14_isTray 16 = .ok (.if_icmp .ge 33, 3) := by decide +kernel
theorem d_X14_isTray_19 : decode b_X14_isTray 19 = .ok (.aload_n 0, 1) := by decide +kernel
theorem d_X14_isTray_20 : decode b_X14_isTray 20 = .ok (.getfield 80, 3) := by decide +kernel
theorem d_X14_isTray_23 : decode b_X14_isTray 23 = .ok (.aload_n 0, 1) := by decide +kernel
theorem d_X14_isTray_24 : decode b_X14_isTray 24 = .ok (.getfield 73, 3) := by decide +kernel
theorem d_X14_isTray_27 : decode b_X14_isTray 27 = .ok (.iload_n 1, 1) := by decide +kernel
theorem d_X14_isTray_28 : decode b_X14_isTray 28 = .ok (.iaload, 1) := by decide +kernel
theorem d_X14_isTray_29 : decode b_X14_isTray 29 = .ok (.iload_n 3, 1) := by decide +kernel
theorem d_X14_isTray_30 : decode b_X14_isTray 30 = .ok (.iadd, 1) := by decide +kernel
theorem d_X14_isTray_31 : decode b_X14_isTray 31 = .ok (.baload, 1) := by decide +kernel
theorem d_X14_isTray_32 : decode b_X14_isTray 32 = .ok (.aload_n 0, 1) := by decide +kernel
theorem d_X14_isTray_33 : decode b_X14_isTray 33 = .ok (.getfield 9, 3) := by decide +kernel
theorem d_X14_isTray_36 : decode b_X14_isTray 36 = .ok (.iload_n 3, 1) := by decide +kernel
theorem d_X14_isTray_37 : decode b_X14_isTray 37 = .ok (.baload, 1) := by decide +kernel
theorem d_X14_isTray_38 : decode b_X14_isTray 38 = .ok (.if_icmp .eq 5, 3) := by decide +kernel
theorem d_X14_isTray_41 : decode b_X14_isTray 41 = .ok (.iconst 0, 1) := by decide +kernel
theorem d_X14_isTray_42 : decode b_X14_isTray 42 = .ok (.ireturn, 1) := by decide +kernel
theorem d_X14_isTray_43 : decode b_X14_isTray 43 = .ok (.iinc 3 1, 3) := by decide +kernel
theorem d_X14_isTray_46 : decode b_X14_isTray 46 = .ok (.goto (-32), 3) := by decide +kernel
theorem d_X14_isTray_49 : decode b_X14_isTray 49 = .ok (.iconst 1, 1) := by decide +kernel
theorem d_X14_isTray_50 : decode b_X14_isTray 50 = .ok (.ireturn, 1) := by decide +kernel
theorem d_X14_input_0 : decode b_X14_input 0 = .ok (.aload_n 0, 1) := by decide +kernel
theorem d_X14_input_1 : decode b_X14_input 1 = .ok (.getfield 741, 3) := by decide +kernel
theorem d_X14_input_4 : decode b_X14_input 4 = .ok (.aload_n 0, 1) := by decide +kernel
theorem d_X14_input_5 : decode b_X14_input 5 = .ok (.getfield 188, 3) := by decide +kernel
theorem d_X14_input_8 : decode b_X14_input 8 = .ok (.arraylength, 1) := by decide +kernel
theorem d_X14_input_9 : decode b_X14_input 9 = .ok (.if_icmp .ne 5, 3) := by decide +kernel
theorem d_X14_input_12 : decode b_X14_input 12 = .ok (.iconst (-1), 1) := by decide +kernel
theorem d_X14_input_13 : decode b_X14_input 13 = .ok (.ireturn, 1) := by decide +kernel
theorem d_X14_input_14 : decode b_X14_input 14 = .ok (.aload_n 0, 1) := by decide +kernel
theorem d_X14_input_15 : decode b_X14_input 15 = .ok (.getfield 188, 3) := by decide +kernel
theorem d_X14_input_18 : decode b_X14_input 18 = .ok (.aload_n 0, 1) := by decide +kernel
theorem d_X14_input_19 : decode b_X14_input 19 = .ok (.getfield 741, 3) := by decide +kernel
theorem d_X14_input_22 : decode b_X14_input 22 = .ok (.iload_n 1, 1) := by decide +kernel
theorem d_X14_input_23 : decode b_X14_input 23 = .ok (.i2b, 1) := by decide +kernel
theorem d_X14_input_24 : decode b_X14_input 24 = .ok (.bastore, 1) := by decide +kernel
theorem d_X14_input_25 : decode b_X14_input 25 = .ok (.aload_n 0, 1) := by decide +kernel
theorem d_X14_input_26 : decode b_X14_input 26 = .ok (.dup, 1) := by decide +kernel
theorem d_X14_input_27 : decode b_X14_input 27 = .ok (.getfield 741, 3) := by decide +kernel
theorem d_X14_input_30 : decode b_X14_input 30 = .ok (.iconst 1, 1) := by decide +kernel
theorem d_X14_input_31 : decode b_X14_input 31 = .ok (.iadd, 1) := by decide +kernel
theorem d_X14_input_32 : decode b_X14_input 32 = .ok (.putfield 741, 3) := by decide +kernel
theorem d_X14_input_35 : decode b_X14_input 35 = .ok (.aload_n 0, 1) := by decide +kernel
theorem d_X14_input_36 : decode b_X14_input 36 = .ok (.getfield 741, 3) := by decide +kernel
theorem d_X14_input_39 : decode b_X14_input 39 = .ok (.ireturn, 1) := by decide +kernel
theorem d_X14_run_0 : decode b_X14_run 0 = .ok (.aload_n 0, 1) := by decide +kernel
theorem d_X14_run_1 : decode b_X14_run 1 = .ok (.getfield 150, 3) := by decide +kernel
theorem d_X14_run_4 : decode b_X14_run 4 = .ok (.ifCond .ge 5, 3) := by decide +kernel
theorem d_X14_run_7 : decode b_X14_run 7 = .ok (.iconst (-1), 1) := by decide +kernel
theorem d_X14_run_8 : decode b_X14_run 8 = .ok (.ireturn, 1) := by decide +kernel
theorem d_X14_run_9 : decode b_X14_run 9 = .ok (.iload_n 1, 1) := by decide +kernel
theorem d_X14_run_10 : decode b_X14_run 10 = .ok (.ifCond .lt 10, 3) := by decide +kernel
theorem d_X14_run_13 : decode b_X14_run 13 = .ok (.iload_n 1, 1) := by decide +kernel
theorem d_X14_run_14 : decode b_X14_run 14 = .ok (.sipush 20000, 3) := by decide +kernel
theorem d_X14_run_17 : decode b_X14_run 17 = .ok (.if_icmp .le 6, 3) := by decide +kernel
theorem d_X14_run_20 : decode b_X14_run 20 = .ok (.bipush (-2), 2) := by decide +kernel
theorem d_X14_run_22 : decode b_X14_run 22 = .ok (.ireturn, 1) := by decide +kernel
theorem d_X14_run_23 : decode b_X14_run 23 = .ok (.iconst 0, 1) := by decide +kernel
theorem d_X14_run_24 : decode b_X14_run 24 = .ok (.istore_n 2, 1) := by decide +kernel
theorem d_X14_run_25 : decode b_X14_run 25 = .ok (.iload_n 2, 1) := by decide +kernel
theorem d_X14_run_26 : decode b_X14_run 26 = .ok (.ldc 168, 2) := by decide +kernel
theorem d_X14_run_28 : decode b_X14_run 28 = .ok (.if_icmp .ge 34, 3) := by decide +kernel
theorem d_X14_run_31 : decode b_X14_run 31 = .ok (.aload_n 0, 1) := by decide +kernel
theorem d_X14_run_32 : decode b_X14_run 32 = .ok (.getfield 169, 3) := by decide +kernel
theorem d_X14_run_35 : decode b_X14_run 35 = .ok (.iload_n 2, 1) := by decide +kernel
theorem d_X14_run_36 : decode b_X14_run 36 = .ok (.iload_n 2, 1) := by decide +kernel
theorem d_X14_run_37 : decode b_X14_run 37 = .ok (.aload_n 0, 1) := by decide +kernel
theorem d_X14_run_38 : decode b_X14_run 38 = .ok (.getfield 165, 3) := by decide +kernel
theorem d_X14_run_41 : decode b_X14_run 41 = .ok (.arraylength, 1) := by decide +kernel
theorem d_X14_run_42 : decode b_X14_run 42 = .ok (.if_icmp .ge 12, 3) := by decide +kernel
theorem d_X14_run_45 : decode b_X14_run 45 = .ok (.aload_n 0, 1) := by decide +kernel
theorem d_X14_run_46 : decode b_X14_run 46 = .ok (.getfield 165, 3) := by decide +kernel
theorem d_X14_run_49 : decode b_X14_run 49 = .ok (.iload_n 2, 1) := by decide +kernel
theorem d_X14_run_50 : decode b_X14_run 50 = .ok (.iaload, 1) := by decide +kernel
theorem d_X14_run_51 : decode b_X14_run 51 = .ok (.goto 4, 3) := by decide +kernel
theorem d_X14_run_54 : decode b_X14_run 54 = .ok (.iconst 0, 1) := by decide +kernel
theorem d_X14_run_55 : decode b_X14_run 55 = .ok (.iastore, 1) := by decide +kernel
theorem d_X14_run_56 : decode b_X14_run 56 = .ok (.iinc 2 1, 3) := by decide +kernel
theorem d_X14_run_59 : decode b_X14_run 59 = .ok (.goto (-34), 3) := by decide +kernel
theorem d_X14_run_62 : decode b_X14_run 62 = .ok (.aload_n 0, 1) := by decide +kernel
theorem d_X14_run_63 : decode b_X14_run 63 = .ok (.iconst 1, 1) := by decide +kernel
theorem d_X14_run_64 : decode b_X14_run 64 = .ok (.putfield 744, 3) := by decide +kernel
theorem d_X14_run_67 : decode b_X14_run 67 = .ok (.aload_n 0, 1) := by decide +kernel
theorem d_X14_run_68 : decode b_X14_run 68 = .ok (.iload_n 1, 1) := by decide +kernel
theorem d_X14_run_69 : decode b_X14_run 69 = .ok (.putfield 747, 3) := by decide +kernel
theorem d_X14_run_72 : decode b_X14_run 72 = .ok (.aload_n 0, 1) := by decide +kernel
theorem d_X14_run_73 : decode b_X14_run 73 = .ok (.iconst 0, 1) := by decide +kernel
theorem d_X14_run_74 : decode b_X14_run 74 = .ok (.putfield 750, 3) := by decide +kernel
theorem d_X14_run_77 : decode b_X14_run 77 = .ok (.aload_n 0, 1) := by decide +kernel
theorem d_X14_run_78 : decode b_X14_run 78 = .ok (.iconst 0, 1) := by decide +kernel
theorem d_X14_run_79 : decode b_X14_run 79 = .ok (.putfield 753, 3) := by decide +kernel
theorem d_X14_run_82 : decode b_X14_run 82 = .ok (.aload_n 0, 1) := by decide +kernel
theorem d_X14_run_83 : decode b_X14_run 83 = .ok (.iconst 0, 1) := by decide +kernel
theorem d_X14_run_84 : decode b_X14_run 84 = .ok (.putfield 756, 3) := by decide +kernel
theorem d_X14_run_87 : decode b_X14_run 87 = .ok (.aload_n 0, 1) := by decide +kernel
theorem d_X14_run_88 : decode b_X14_run 88 = .ok (.iconst 0, 1) := by decide +kernel
theorem d_X14_run_89 : decode b_X14_run 89 = .ok (.putfield 759, 3) := by decide +kernel
theorem d_X14_run_92 : decode b_X14_run 92 = .ok (.aload_n 0, 1) := by decide +kernel
theorem d_X14_run_93 : decode b_X14_run 93 = .ok (.iconst 0, 1) := by decide +kernel
theorem d_X14_run_94 : decode b_X14_run 94 = .ok (.putfield 762, 3) := by decide +kernel
theorem d_X14_run_97 : decode b_X14_run 97 = .ok (.aload_n 0, 1) := by decide +kernel
theorem d_X14_run_98 : decode b_X14_run 98 = .ok (.iconst 0, 1) := by decide +kernel
theorem d_X14_run_99 : decode b_X14_run 99 = .ok (.putfield 765, 3) := by decide +kernel
theorem d_X14_run_102 : decode b_X14_run 102 = .ok (.aload_n 0, 1) := by decide +kernel
theorem d_X14_run_103 : decode b_X14_run 103 = .ok (.iconst 0, 1) := by decide +kernel
theorem d_X14_run_104 : decode b_X14_run 104 = .ok (.putfield 768, 3) := by decide +kernel
theorem d_X14_run_107 : decode b_X14_run 107 = .ok (.aload_n 0, 1) := by decide +kernel
theorem d_X14_run_108 : decode b_X14_run 108 = .ok (.iconst 0, 1) := by decide +kernel
theorem d_X14_run_109 : decode b_X14_run 109 = .ok (.putfield 771, 3) := by decide +kernel
theorem d_X14_run_112 : decode b_X14_run 112 = .ok (.aload_n 0, 1) := by decide +kernel
theorem d_X14_run_113 : decode b_X14_run 113 = .ok (.iconst (-1), 1) := by decide +kernel
theorem d_X14_run_114 : decode b_X14_run 114 = .ok (.putfield 774, 3) := by decide +kernel
theorem d_X14_run_117 : decode b_X14_run 117 = .ok (.aload_n 0, 1) := by decide +kernel
theorem d_X14_run_118 : decode b_X14_run 118 = .ok (.aload_n 0, 1) := by decide +kernel
theorem d_X14_run_119 : decode b_X14_run 119 = .ok (.getfield 729, 3) := by decide +kernel
theorem d_X14_run_122 : decode b_X14_run 122 = .ok (.iconst 0, 1) := by decide +kernel
theorem d_X14_run_123 : decode b_X14_run 123 = .ok (.iconst 0, 1) := by decide +kernel
theorem d_X14_run_124 : decode b_X14_run 124 = .ok (.iconst 0, 1) := by decide +kernel
theorem d_X14_run_125 : decode b_X14_run 125 = .ok (.invokevirtual 777, 3) := by decide +kernel
theorem d_X14_run_128 : decode b_X14_run 128 = .ok (.aload_n 0, 1) := by decide +kernel
theorem d_X14_run_129 : decode b_X14_run 129 = .ok (.getfield 774, 3) := by decide +kernel
theorem d_X14_run_132 : decode b_X14_run 132 = .ok (.ifCond .ge 15, 3) := by decide +kernel
theorem d_X14_run_135 : decode b_X14_run 135 = .ok (.aload_n 0, 1) := by decide +kernel
theorem d_X14_run_136 : decode b_X14_run 136 = .ok (.getfield 99, 3) := by decide +kernel
theorem d_X14_run_139 : decode b_X14_run 139 = .ok (.aload_n 0, 1) := by decide +kernel
theorem d_X14_run_140 : decode b_X14_run 140 = .ok (.getfield 729, 3) := by decide +kernel
theorem d_X14_run_143 : decode b_X14_run 143 = .ok (.iaload, 1) := by decide +kernel
theorem d_X14_run_144 : decode b_X14_run 144 = .ok (.goto 4, 3) := by decide +kernel
theorem d_X14_run_147 : decode b_X14_run 147 = .ok (.iconst 0, 1) := by decide +kernel
theorem d_X14_run_148 : decode b_X14_run 148 = .ok (.istore_n 2, 1) := by decide +kernel
theorem d_X14_run_149 : decode b_X14_run 149 = .ok (.aload_n 0, 1) := by decide +kernel
theorem d_X14_run_150 : decode b_X14_run 150 = .ok (.getfield 774, 3) := by decide +kernel
theorem d_X14_run_153 : decode b_X14_run 153 = .ok (.ifCond .ge 12, 3) := by decide +kernel
theorem d_X14_run_156 : decode b_X14_run 156 = .ok (.aload_n 0, 1) := by decide +kernel
theorem d_X14_run_157 : decode b_X14_run 157 = .ok (.iload_n 2, 1) := by decide +kernel
theorem d_X14_run_158 : decode b_X14_run 158 = .ok (.invokevirtual 781, 3) := by decide +kernel
theorem d_X14_run_161 : decode b_X14_run 161 = .ok (.istore_n 2, 1) := by decide +kernel
theorem d_X14_run_162 : decode b_X14_run 162 = .ok (.goto (-13), 3) := by decide +kernel
theorem d_X14_run_165 : decode b_X14_run 165 = .ok (.aload_n 0, 1) := by decide +kernel
theorem d_X14_run_166 : decode b_X14_run 166 = .ok (.iconst 0, 1) := by decide +kernel
theorem d_X14_run_167 : decode b_X14_run 167 = .ok (.putfield 741, 3) := by decide +kernel
theorem d_X14_run_170 : decode b_X14_run 170 = .ok (.aload_n 0, 1) := by decide +kernel
theorem d_X14_run_171 : decode b_X14_run 171 = .ok (.getfield 774, 3) := by decide +kernel
theorem d_X14_run_174 : decode b_X14_run 174 = .ok (.ireturn, 1) := by decide +kernel
theorem d_X14_enter_0 : decode b_X14_enter 0 = .ok (.aload_n 0, 1) := by decide +kernel
theorem d_X14_enter_1 : decode b_X14_enter 1 = .ok (.getfield 756, 3) := by decide +kernel
theorem d_X14_enter_4 : decode b_X14_enter 4 = .ok (.aload_n 0, 1) := by decide +kernel
theorem d_X14_enter_5 : decode b_X14_enter 5 = .ok (.getfield 747, 3) := by decide +kernel
theorem d_X14_enter_8 : decode b_X14_enter 8 = .ok (.if_icmp .ne 12, 3) := by decide +kernel
theorem d_X14_enter_11 : decode b_X14_enter 11 = .ok (.aload_n 0, 1) := by decide +kernel
theorem d_X14_enter_12 : decode b_X14_enter 12 = .ok (.iconst 4, 1) := by decide +kernel
theorem d_X14_enter_13 : decode b_X14_enter 13 = .ok (.iload_n 3, 1) := by decide +kernel
theorem d_X14_enter_14 : decode b_X14_enter 14 = .ok (.iload 4, 2) := by decide +kernel
theorem d_X14_enter_16 : decode b_X14_enter 16 = .ok (.invokevirtual 784, 3) := by decide +kernel
theorem d_X14_enter_19 : decode b_X14_enter 19 = .ok (.return_, 1) := by decide +kernel
theorem d_X14_enter_20 : decode b_X14_enter 20 = .ok (.aload_n 0, 1) := by decide +kernel
theorem d_X14_enter_21 : decode b_X14_enter 21 = .ok (.dup, 1) := by decide +kernel
theorem d_X14_enter_22 : decode b_X14_enter 22 = .ok (.getfield 756, 3) := by decide +kernel
theorem d_X14_enter_25 : decode b_X14_enter 25 = .ok (.iconst 1, 1) := by decide +kernel
theorem d_X14_enter_26 : decode b_X14_enter 26 = .ok (.iadd, 1) := by decide +kernel
theorem d_X14_enter_27 : decode b_X14_enter 27 = .ok (.putfield 756, 3) := by decide +kernel
theorem d_X14_enter_30 : decode b_X14_enter 30 = .ok (.aload_n 0, 1) := by decide +kernel
theorem d_X14_enter_31 : decode b_X14_enter 31 = .ok (.getfield 771, 3) := by decide +kernel
theorem d_X14_enter_34 : decode b_X14_enter 34 = .ok (.ifCond .ne 8, 3) := by decide +kernel
theorem d_X14_enter_37 : decode b_X14_enter 37 = .ok (.ldc 168, 2) := by decide +kernel
theorem d_X14_enter_39 : decode b_X14_enter 39 = .ok (.goto 14, 3) := by decide +kernel
theorem d_X14_enter_42 : decode b_X14_enter 42 = .ok (.aload_n 0, 1) := by decide +kernel
theorem d_X14_enter_43 : decode b_X14_enter 43 = .ok (.getfield 179, 3) := by decide +kernel
theorem d_X14_enter_46 : decode b_X14_enter 46 = .ok (.aload_n 0, 1) := by decide +kernel
theorem d_X14_enter_47 : decode b_X14_enter 47 = .ok (.getfield 771, 3) := by decide +kernel
theorem d_X14_enter_50 : decode b_X14_enter 50 = .ok (.iconst 1, 1) := by decide +kernel
theorem d_X14_enter_51 : decode b_X14_enter 51 = .ok (.isub, 1) := by decide +kernel
theorem d_X14_enter_52 : decode b_X14_enter 52 = .ok (.iaload, 1) := by decide +kernel
theorem d_X14_enter_53 : decode b_X14_enter 53 = .ok (.bipush 32, 2) := by decide +kernel
theorem d_X14_enter_55 : decode b_X14_enter 55 = .ok (.isub, 1) := by decide +kernel
theorem d_X14_enter_56 : decode b_X14_enter 56 = .ok (.aload_n 0, 1) := by decide +kernel
theorem d_X14_enter_57 : decode b_X14_enter 57 = .ok (.getfield 111, 3) := by decide +kernel
theorem d_X14_enter_60 : decode b_X14_enter 60 = .ok (.iload_n 1, 1) := by decide +kernel
theorem d_X14_enter_61 : decode b_X14_enter 61 = .ok (.iaload, 1) := by decide +kernel
theorem d_X14_enter_62 : decode b_X14_enter 62 = .ok (.isub, 1) := by decide +kernel
theorem d_X14_enter_63 : decode b_X14_enter 63 = .ok (.istore 5, 2) := by decide +kernel
theorem d_X14_enter_65 : decode b_X14_enter 65 = .ok (.iload 5, 2) := by decide +kernel
theorem d_X14_enter_67 : decode b_X14_enter 67 = .ok (.sipush 24576, 3) := by decide +kernel
theorem d_X14_enter_70 : decode b_X14_enter 70 = .ok (.if_icmp .ge 12, 3) := by decide +kernel
theorem d_X14_enter_73 : decode b_X14_enter 73 = .ok (.aload_n 0, 1) := by decide +kernel
theorem d_X14_enter_74 : decode b_X14_enter 74 = .ok (.iconst 3, 1) := by decide +kernel
theorem d_X14_enter_75 : decode b_X14_enter 75 = .ok (.iload_n 3, 1) := by decide +kernel
theorem d_X14_enter_76 : decode b_X14_enter 76 = .ok (.iload 4, 2) := by decide +kernel
theorem d_X14_enter_78 : decode b_X14_enter 78 = .ok (.invokevirtual 784, 3) := by decide +kernel
theorem d_X14_enter_81 : decode b_X14_enter 81 = .ok (.return_, 1) := by decide +kernel
theorem d_X14_enter_82 : decode b_X14_enter 82 = .ok (.aload_n 0, 1) := by decide +kernel
theorem d_X14_enter_83 : decode b_X14_enter 83 = .ok (.getfield 179, 3) := by decide +kernel
theorem d_X14_enter_86 : decode b_X14_enter 86 = .ok (.aload_n 0, 1) := by decide +kernel
theorem d_X14_enter_87 : decode b_X14_enter 87 = .ok (.getfield 771, 3) := by decide +kernel
theorem d_X14_enter_90 : decode b_X14_enter 90 = .ok (.iload 5, 2) := by decide +kernel
theorem d_X14_enter_92 : decode b_X14_enter 92 = .ok (.iastore, 1) := by decide +kernel
theorem d_X14_enter_93 : decode b_X14_enter 93 = .ok (.aload_n 0, 1) := by decide +kernel
theorem d_X14_enter_94 : decode b_X14_enter 94 = .ok (.getfield 182, 3) := by decide +kernel
theorem d_X14_enter_97 : decode b_X14_enter 97 = .ok (.aload_n 0, 1) := by decide +kernel
theorem d_X14_enter_98 : decode b_X14_enter 98 = .ok (.getfield 771, 3) := by decide +kernel
theorem d_X14_enter_101 : decode b_X14_enter 101 = .ok (.iload_n 1, 1) := by decide +kernel
theorem d_X14_enter_102 : decode b_X14_enter 102 = .ok (.iastore, 1) := by decide +kernel
theorem d_X14_enter_103 : decode b_X14_enter 103 = .ok (.aload_n 0, 1) := by decide +kernel
theorem d_X14_enter_104 : decode b_X14_enter 104 = .ok (.getfield 185, 3) := by decide +kernel
theorem d_X14_enter_107 : decode b_X14_enter 107 = .ok (.aload_n 0, 1) := by decide +kernel
theorem d_X14_enter_108 : decode b_X14_enter 108 = .ok (.getfield 771, 3) := by decide +kernel
theorem d_X14_enter_111 : decode b_X14_enter 111 = .ok (.iload_n 2, 1) := by decide +kernel
theorem d_X14_enter_112 : decode b_X14_enter 112 = .ok (.iastore, 1) := by decide +kernel
theorem d_X14_enter_113 : decode b_X14_enter 113 = .ok (.aload_n 0, 1) := by decide +kernel
theorem d_X14_enter_114 : decode b_X14_enter 114 = .ok (.dup, 1) := by decide +kernel
theorem d_X14_enter_115 : decode b_X14_enter 115 = .ok (.getfield 771, 3) := by decide +kernel
theorem d_X14_enter_118 : decode b_X14_enter 118 = .ok (.iconst 1, 1) := by decide +kernel
theorem d_X14_enter_119 : decode b_X14_enter 119 = .ok (.iadd, 1) := by decide +kernel
theorem d_X14_enter_120 : decode b_X14_enter 120 = .ok (.putfield 771, 3) := by decide +kernel
theorem d_X14_enter_123 : decode b_X14_enter 123 = .ok (.aload_n 0, 1) := by decide +kernel
theorem d_X14_enter_124 : decode b_X14_enter 124 = .ok (.iload_n 1, 1) := by decide +kernel
theorem d_X14_enter_125 : decode b_X14_enter 125 = .ok (.invokevirtual 787, 3) := by decide +kernel
theorem d_X14_enter_128 : decode b_X14_enter 128 = .ok (.istore 6, 2) := by decide +kernel
theorem d_X14_enter_130 : decode b_X14_enter 130 = .ok (.iconst 0, 1) := by decide +kernel
theorem d_X14_enter_131 : decode b_X14_enter 131 = .ok (.istore 7, 2) := by decide +kernel
theorem d_X14_enter_133 : decode b_X14_enter 133 = .ok (.iload 7, 2) := by decide +kernel
theorem d_X14_enter_135 : decode b_X14_enter 135 = .ok (.aload_n 0, 1) := by decide +kernel
theorem d_X14_enter_136 : decode b_X14_enter 136 = .ok (.getfield 105, 3) := by decide +kernel
theorem d_X14_enter_139 : decode b_X14_enter 139 = .ok (.iload_n 1, 1) := by decide +kernel
theorem d_X14_enter_140 : decode b_X14_enter 140 = .ok (.iaload, 1) := by decide +kernel
theorem d_X14_enter_141 : decode b_X14_enter 141 = .ok (.if_icmp .ge 27, 3) := by decide +kernel
theorem d_X14_enter_144 : decode b_X14_enter 144 = .ok (.aload_n 0, 1) := by decide +kernel
theorem d_X14_enter_145 : decode b_X14_enter 145 = .ok (.getfield 176, 3) := by decide +kernel
theorem d_X14_enter_148 : decode b_X14_enter 148 = .ok (.aload_n 0, 1) := by decide +kernel
theorem d_X14_enter_149 : decode b_X14_enter 149 = .ok (.getfield 771, 3) := by decide +kernel
theorem d_X14_enter_152 : decode b_X14_enter 152 = .ok (.iconst 1, 1) := by decide +kernel
theorem d_X14_enter_153 : decode b_X14_enter 153 = .ok (.isub, 1) := by decide +kernel
theorem d_X14_enter_154 : decode b_X14_enter 154 = .ok (.bipush 100, 2) := by decide +kernel
theorem d_X14_enter_156 : decode b_X14_enter 156 = .ok (.imul, 1) := by decide +kernel
theorem d_X14_enter_157 : decode b_X14_enter 157 = .ok (.iload 7, 2) := by decide +kernel
theorem d_X14_enter_159 : decode b_X14_enter 159 = .ok (.iadd, 1) := by decide +kernel
theorem d_X14_enter_160 : decode b_X14_enter 160 = .ok (.iconst 0, 1) := by decide +kernel
theorem d_X14_enter_161 : decode b_X14_enter 161 = .ok (.iastore, 1) := by decide +kernel
theorem d_X14_enter_162 : decode b_X14_enter 162 = .ok (.iinc 7 1, 3) := by decide +kernel
theorem d_X14_enter_165 : decode b_X14_enter 165 = .ok (.goto (-32), 3) := by decide +kernel
theorem d_X14_enter_168 : decode b_X14_enter 168 = .ok (.aload_n 0, 1) := by decide +kernel
theorem d_X14_enter_169 : decode b_X14_enter 169 = .ok (.dup, 1) := by decide +kernel
theorem d_X14_enter_170 : decode b_X14_enter 170 = .ok (.getfield 768, 3) := by decide +kernel
theorem d_X14_enter_173 : decode b_X14_enter 173 = .ok (.iload 6, 2) := by decide +kernel
theorem d_X14_enter_175 : decode b_X14_enter 175 = .ok (.isub, 1) := by decide +kernel
theorem d_X14_enter_176 : decode b_X14_enter 176 = .ok (.putfield 768, 3) := by decide +kernel
theorem d_X14_enter_179 : decode b_X14_enter 179 = .ok (.iconst 0, 1) := by decide +kernel
theorem d_X14_enter_180 : decode b_X14_enter 180 = .ok (.istore 7, 2) := by decide +kernel
theorem d_X14_enter_182 : decode b_X14_enter 182 = .ok (.iload 7, 2) := by decide +kernel
theorem d_X14_enter_184 : decode b_X14_enter 184 = .ok (.iload 6, 2) := by decide +kernel
theorem d_X14_enter_186 : decode b_X14_enter 186 = .ok (.if_icmp .ge 27, 3) := by decide +kernel
theorem d_X14_enter_189 : decode b_X14_enter 189 = .ok (.aload_n 0, 1) := by decide +kernel
theorem d_X14_enter_190 : decode b_X14_enter 190 = .ok (.iload 7, 2) := by decide +kernel
theorem d_X14_enter_192 : decode b_X14_enter 192 = .ok (.aload_n 0, 1) := by decide +kernel
theorem d_X14_enter_193 : decode b_X14_enter 193 = .ok (.getfield 173, 3) := by decide +kernel
theorem d_X14_enter_196 : decode b_X14_enter 196 = .ok (.aload_n 0, 1) := by decide +kernel
theorem d_X14_enter_197 : decode b_X14_enter 197 = .ok (.getfield 768, 3) := by decide +kernel
theorem d_X14_enter_200 : decode b_X14_enter 200 = .ok (.iload 7, 2) := by decide +kernel
theorem d_X14_enter_202 : decode b_X14_enter 202 = .ok (.iadd, 1) := by decide +kernel
theorem d_X14_enter_203 : decode b_X14_enter 203 = .ok (.iaload, 1) := by decide +kernel
theorem d_X14_enter_204 : decode b_X14_enter 204 = .ok (.invokevirtual 790, 3) := by decide +kernel
theorem d_X14_enter_207 : decode b_X14_enter 207 = .ok (.iinc 7 1, 3) := by decide +kernel
theorem d_X14_enter_210 : decode b_X14_enter 210 = .ok (.goto (-28), 3) := by decide +kernel
theorem d_X14_enter_213 : decode b_X14_enter 213 = .ok (.return_, 1) := by decide +kernel
theorem d_X14_ends_0 : decode b_X14_ends 0 = .ok (.aload_n 0, 1) := by decide +kernel
theorem d_X14_ends_1 : decode b_X14_ends 1 = .ok (.iload_n 1, 1) := by decide +kernel
theorem d_X14_ends_2 : decode b_X14_ends 2 = .ok (.putfield 774, 3) := by decide +kernel
theorem d_X14_ends_5 : decode b_X14_ends 5 = .ok (.aload_n 0, 1) := by decide +kernel
theorem d_X14_ends_6 : decode b_X14_ends 6 = .ok (.iload_n 2, 1) := by decide +kernel
theorem d_X14_ends_7 : decode b_X14_ends 7 = .ok (.putfield 762, 3) := by decide +kernel
theorem d_X14_ends_10 : decode b_X14_ends 10 = .ok (.aload_n 0, 1) := by decide +kernel
theorem d_X14_ends_11 : decode b_X14_ends 11 = .ok (.iload_n 3, 1) := by decide +kernel
theorem d_X14_ends_12 : decode b_X14_ends 12 = .ok (.putfield 765, 3) := by decide +kernel
theorem d_X14_ends_15 : decode b_X14_ends 15 = .ok (.return_, 1) := by decide +kernel
theorem d_X14_parametersOf_0 : decode b_X14_parametersOf 0 = .ok (.aload_n 0, 1) := by decide +kernel
theorem d_X14_parametersOf_1 : decode b_X14_parametersOf 1 = .ok (.getfield 194, 3) := by decide +kernel
theorem d_X14_parametersOf_4 : decode b_X14_parametersOf 4 = .ok (.iload_n 1, 1) := by decide +kernel
theorem d_X14_parametersOf_5 : decode b_X14_parametersOf 5 = .ok (.iaload, 1) := by decide +kernel
theorem d_X14_parametersOf_6 : decode b_X14_parametersOf 6 = .ok (.ireturn, 1) := by decide +kernel
theorem d_X14_setLocal_0 : decode b_X14_setLocal 0 = .ok (.aload_n 0, 1) := by decide +kernel
theorem d_X14_setLocal_1 : decode b_X14_setLocal 1 = .ok (.getfield 41, 3) := by decide +kernel
theorem d_X14_setLocal_4 : decode b_X14_setLocal 4 = .ok (.aload_n 0, 1) := by decide +kernel
theorem d_X14_setLocal_5 : decode b_X14_setLocal 5 = .ok (.iload_n 1, 1) := by decide +kernel
theorem d_X14_setLocal_6 : decode b_X14_setLocal 6 = .ok (.invokevirtual 793, 3) := by decide +kernel
theorem d_X14_setLocal_9 : decode b_X14_setLocal 9 = .ok (.iaload, 1) := by decide +kernel
theorem d_X14_setLocal_10 : decode b_X14_setLocal 10 = .ok (.istore_n 3, 1) := by decide +kernel
theorem d_X14_setLocal_11 : decode b_X14_setLocal 11 = .ok (.iload_n 3, 1) := by decide +kernel
theorem d_X14_setLocal_12 : decode b_X14_setLocal 12 = .ok (.ifCond .lt 25, 3) := by decide +kernel
theorem d_X14_setLocal_15 : decode b_X14_setLocal 15 = .ok (.aload_n 0, 1) := by decide +kernel
theorem d_X14_setLocal_16 : decode b_X14_setLocal 16 = .ok (.getfield 169, 3) := by decide +kernel
theorem d_X14_setLocal_19 : decode b_X14_setLocal 19 = .ok (.aload_n 0, 1) := by decide +kernel
theorem d_X14_setLocal_20 : decode b_X14_setLocal 20 = .ok (.getfield 179, 3) := by decide +kernel
theorem d_X14_setLocal_23 : decode b_X14_setLocal 23 = .ok (.aload_n 0, 1) := by decide +kernel
theorem d_X14_setLocal_24 : decode b_X14_setLocal 24 = .ok (.getfield 771, 3) := by decide +kernel
theorem d_X14_setLocal_27 : decode b_X14_setLocal 27 = .ok (.iconst 1, 1) := by decide +kernel
theorem d_X14_setLocal_28 : decode b_X14_setLocal 28 = .ok (.isub, 1) := by decide +kernel
theorem d_X14_setLocal_29 : decode b_X14_setLocal 29 = .ok (.iaload, 1) := by decide +kernel
theorem d_X14_setLocal_30 : decode b_X14_setLocal 30 = .ok (.iload_n 3, 1) := by decide +kernel
theorem d_X14_setLocal_31 : decode b_X14_setLocal 31 = .ok (.iadd, 1) := by decide +kernel
theorem d_X14_setLocal_32 : decode b_X14_setLocal 32 = .ok (.iload_n 2, 1) := by decide +kernel
theorem d_X14_setLocal_33 : decode b_X14_setLocal 33 = .ok (.iastore, 1) := by decide +kernel
theorem d_X14_setLocal_34 : decode b_X14_setLocal 34 = .ok (.goto 20, 3) := by decide +kernel
theorem d_X14_setLocal_37 : decode b_X14_setLocal 37 = .ok (.aload_n 0, 1) := by decide +kernel
theorem d_X14_setLocal_38 : decode b_X14_setLocal 38 = .ok (.getfield 176, 3) := by decide +kernel
theorem d_X14_setLocal_41 : decode b_X14_setLocal 41 = .ok (.aload_n 0, 1) := by decide +kernel
theorem d_X14_setLocal_42 : decode b_X14_setLocal 42 = .ok (.getfield 771, 3) := by decide +kernel
theorem d_X14_setLocal_45 : decode b_X14_setLocal 45 = .ok (.iconst 1, 1) := by decide +kernel
theorem d_X14_setLocal_46 : decode b_X14_setLocal 46 = .ok (.isub, 1) := by decide +kernel
theorem d_X14_setLocal_47 : decode b_X14_setLocal 47 = .ok (.bipush 100, 2) := by decide +kernel
theorem d_X14_setLocal_49 : decode b_X14_setLocal 49 = .ok (.imul, 1) := by decide +kernel
theorem d_X14_setLocal_50 : decode b_X14_setLocal 50 = .ok (.iload_n 1, 1) := by decide +kernel
theorem d_X14_setLocal_51 : decode b_X14_setLocal 51 = .ok (.iadd, 1) := by decide +kernel
theorem d_X14_setLocal_52 : decode b_X14_setLocal 52 = .ok (.iload_n 2, 1) := by decide +kernel
theorem d_X14_setLocal_53 : decode b_X14_setLocal 53 = .ok (.iastore, 1) := by decide +kernel
theorem d_X14_setLocal_54 : decode b_X14_setLocal 54 = .ok (.return_, 1) := by decide +kernel
theorem d_X14_rowOf_0 : decode b_X14_rowOf 0 = .ok (.aload_n 0, 1) := by decide +kernel
theorem d_X14_rowOf_1 : decode b_X14_rowOf 1 = .ok (.getfield 108, 3) := by decide +kernel
theorem d_X14_rowOf_4 : decode b_X14_rowOf 4 = .ok (.aload_n 0, 1) := by decide +kernel
theorem d_X14_rowOf_5 : decode b_X14_rowOf 5 = .ok (.getfield 182, 3) := by decide +kernel
theorem d_X14_rowOf_8 : decode b_X14_rowOf 8 = .ok (.aload_n 0, 1) := by decide +kernel
theorem d_X14_rowOf_9 : decode b_X14_rowOf 9 = .ok (.getfield 771, 3) := by decide +kernel
theorem d_X14_rowOf_12 : decode b_X14_rowOf 12 = .ok (.iconst 1, 1) := by decide +kernel
theorem d_X14_rowOf_13 : decode b_X14_rowOf 13 = .ok (.isub, 1) := by decide +kernel
theorem d_X14_rowOf_14 : decode b_X14_rowOf 14 = .ok (.iaload, 1) := by decide +kernel
theorem d_X14_rowOf_15 : decode b_X14_rowOf 15 = .ok (.iaload, 1) := by decide +kernel
theorem d_X14_rowOf_16 : decode b_X14_rowOf 16 = .ok (.iconst 2, 1) := by decide +kernel
theorem d_X14_rowOf_17 : decode b_X14_rowOf 17 = .ok (.iload_n 1, 1) := by decide +kernel
theorem d_X14_rowOf_18 : decode b_X14_rowOf 18 = .ok (.imul, 1) := by decide +kernel
theorem d_X14_rowOf_19 : decode b_X14_rowOf 19 = .ok (.iadd, 1) := by decide +kernel
theorem d_X14_rowOf_20 : decode b_X14_rowOf 20 = .ok (.ireturn, 1) := by decide +kernel
theorem d_X14_step_0 : decode b_X14_step 0 = .ok (.aload_n 0, 1) := by decide +kernel
theorem d_X14_step_1 : decode b_X14_step 1 = .ok (.getfield 41, 3) := by decide +kernel
theorem d_X14_step_4 : decode b_X14_step 4 = .ok (.iload_n 1, 1) := by decide +kernel
theorem d_X14_step_5 : decode b_X14_step 5 = .ok (.iconst 1, 1) := by decide +kernel
theorem d_X14_step_6 : decode b_X14_step 6 = .ok (.iadd, 1) := by decide +kernel
theorem d_X14_step_7 : decode b_X14_step 7 = .ok (.iaload, 1) := by decide +kernel
theorem d_X14_step_8 : decode b_X14_step 8 = .ok (.istore_n 2, 1) := by decide +kernel
theorem d_X14_step_9 : decode b_X14_step 9 = .ok (.aload_n 0, 1) := by decide +kernel
theorem d_X14_step_10 : decode b_X14_step 10 = .ok (.getfield 41, 3) := by decide +kernel
theorem d_X14_step_13 : decode b_X14_step 13 = .ok (.iload_n 1, 1) := by decide +kernel
theorem d_X14_step_14 : decode b_X14_step 14 = .ok (.iaload, 1) := by decide +kernel
theorem d_X14_step_15 : decode b_X14_step 15 = .ok (.tableswitch 427 0 24 #[113, 122, 158, 189, 202, 427, 427, 232, 252, 261, 280, 427, 294, 307, 321, 361, 363, 378, 393, 427, 427, 427, 427, 427, 341], 113) := by decide +kernel
theorem d_X14_step_128 : decode b_X14_step 128 = .ok (.aload_n 0, 1) := by decide +kernel
theorem d_X14_step_129 : decode b_X14_step 129 = .ok (.iload_n 2, 1) := by decide +kernel
theorem d_X14_step_130 : decode b_X14_step 130 = .ok (.invokevirtual 796, 3) := by decide +kernel
theorem d_X14_step_133 : decode b_X14_step 133 = .ok (.iload_n 1, 1) := by decide +kernel
theorem d_X14_step_134 : decode b_X14_step 134 = .ok (.iconst 2, 1) := by decide +kernel
theorem d_X14_step_135 : decode b_X14_step 135 = .ok (.iadd, 1) := by decide +kernel
theorem d_X14_step_136 : decode b_X14_step 136 = .ok (.ireturn, 1) := by decide +kernel
theorem d_X14_step_137 : decode b_X14_step 137 = .ok (.aload_n 0, 1) := by decide +kernel
theorem d_X14_step_138 : decode b_X14_step 138 = .ok (.aload_n 0, 1) := by decide +kernel
theorem d_X14_step_139 : decode b_X14_step 139 = .ok (.getfield 159, 3) := by decide +kernel
theorem d_X14_step_142 : decode b_X14_step 142 = .ok (.aload_n 0, 1) := by decide +kernel
theorem d_X14_step_143 : decode b_X14_step 143 = .ok (.getfield 86, 3) := by decide +kernel
theorem d_X14_step_146 : decode b_X14_step 146 = .ok (.aload_n 0, 1) := by decide +kernel
theorem d_X14_step_147 : decode b_X14_step 147 = .ok (.getfield 102, 3) := by decide +kernel
theorem d_X14_step_150 : decode b_X14_step 150 = .ok (.aload_n 0, 1) := by decide +kernel
theorem d_X14_step_151 : decode b_X14_step 151 = .ok (.getfield 182, 3) := by decide +kernel
theorem d_X14_step_154 : decode b_X14_step 154 = .ok (.aload_n 0, 1) := by decide +kernel
theorem d_X14_step_155 : decode b_X14_step 155 = .ok (.getfield 771, 3) := by decide +kernel
theorem d_X14_step_158 : decode b_X14_step 158 = .ok (.iconst 1, 1) := by decide +kernel
theorem d_X14_step_159 : decode b_X14_step 159 = .ok (.isub, 1) := by decide +kernel
theorem d_X14_step_160 : decode b_X14_step 160 = .ok (.iaload, 1) := by decide +kernel
theorem d_X14_step_161 : decode b_X14_step 161 = .ok (.iaload, 1) := by decide +kernel
theorem d_X14_step_162 : decode b_X14_step 162 = .ok (.iaload, 1) := by decide +kernel
theorem d_X14_step_163 : decode b_X14_step 163 = .ok (.iload_n 2, 1) := by decide +kernel
theorem d_X14_step_164 : decode b_X14_step 164 = .ok (.iadd, 1) := by decide +kernel
theorem d_X14_step_165 : decode b_X14_step 165 = .ok (.iaload, 1) := by decide +kernel
theorem d_X14_step_166 : decode b_X14_step 166 = .ok (.invokevirtual 796, 3) := by decide +kernel
theorem d_X14_step_169 : decode b_X14_step 169 = .ok (.iload_n 1, 1) := by decide +kernel
theorem d_X14_step_170 : decode b_X14_step 170 = .ok (.iconst 2, 1) := by decide +kernel
theorem d_X14_step_171 : decode b_X14_step 171 = .ok (.iadd, 1) := by decide +kernel
theorem d_X14_step_172 : decode b_X14_step 172 = .ok (.ireturn, 1) := by decide +kernel
theorem d_X14_step_173 : decode b_X14_step 173 = .ok (.aload_n 0, 1) := by decide +kernel
theorem d_X14_step_174 : decode b_X14_step 174 = .ok (.aload_n 0, 1) := by decide +kernel
theorem d_X14_step_175 : decode b_X14_step 175 = .ok (.getfield 162, 3) := by decide +kernel
theorem d_X14_step_178 : decode b_X14_step 178 = .ok (.aload_n 0, 1) := by decide +kernel
theorem d_X14_step_179 : decode b_X14_step 179 = .ok (.getfield 102, 3) := by decide +kernel
theorem d_X14_step_182 : decode b_X14_step 182 = .ok (.aload_n 0, 1) := by decide +kernel
theorem d_X14_step_183 : decode b_X14_step 183 = .ok (.getfield 182, 3) := by decide +kernel
theorem d_X14_step_186 : decode b_X14_step 186 = .ok (.aload_n 0, 1) := by decide +kernel
theorem d_X14_step_187 : decode b_X14_step 187 = .ok (.getfield 771, 3) := by decide +kernel
theorem d_X14_step_190 : decode b_X14_step 190 = .ok (.iconst 1, 1) := by decide +kernel
theorem d_X14_step_191 : decode b_X14_step 191 = .ok (.isub, 1) := by decide +kernel
theorem d_X14_step_192 : decode b_X14_step 192 = .ok (.iaload, 1) := by decide +kernel
theorem d_X14_step_193 : decode b_X14_step 193 = .ok (.iaload, 1) := by decide +kernel
theorem d_X14_step_194 : decode b_X14_step 194 = .ok (.iaload, 1) := by decide +kernel
theorem d_X14_step_195 : decode b_X14_step 195 = .ok (.iload_n 2, 1) := by decide +kernel
theorem d_X14_step_196 : decode b_X14_step 196 = .ok (.iadd, 1) := by decide +kernel
theorem d_X14_step_197 : decode b_X14_step 197 = .ok (.invokevirtual 796, 3) := by decide +kernel
theorem d_X14_step_200 : decode b_X14_step 200 = .ok (.iload_n 1, 1) := by decide +kernel
theorem d_X14_step_201 : decode b_X14_step 201 = .ok (.iconst 2, 1) := by decide +kernel
theorem d_X14_step_202 : decode b_X14_step 202 = .ok (.iadd, 1) := by decide +kernel
theorem d_X14_step_203 : decode b_X14_step 203 = .ok (.ireturn, 1) := by decide +kernel
theorem d_X14_step_204 : decode b_X14_step 204 = .ok (.aload_n 0, 1) := by decide +kernel
theorem d_X14_step_205 : decode b_X14_step 205 = .ok (.aload_n 0, 1) := by decide +kernel
theorem d_X14_step_206 : decode b_X14_step 206 = .ok (.iload_n 2, 1) := by decide +kernel
theorem d_X14_step_207 : decode b_X14_step 207 = .ok (.invokevirtual 799, 3) := by decide +kernel
theorem d_X14_step_210 : decode b_X14_step 210 = .ok (.invokevirtual 796, 3) := by decide +kernel
theorem d_X14_step_213 : decode b_X14_step 213 = .ok (.iload_n 1, 1) := by decide +kernel
theorem d_X14_step_214 : decode b_X14_step 214 = .ok (.iconst 2, 1) := by decide +kernel
theorem d_X14_step_215 : decode b_X14_step 215 = .ok (.iadd, 1) := by decide +kernel
theorem d_X14_step_216 : decode b_X14_step 216 = .ok (.ireturn, 1) := by decide +kernel
theorem d_X14_step_217 : decode b_X14_step 217 = .ok (.aload_n 0, 1) := by decide +kernel
theorem d_X14_step_218 : decode b_X14_step 218 = .ok (.aload_n 0, 1) := by decide +kernel
theorem d_X14_step_219 : decode b_X14_step 219 = .ok (.getfield 179, 3) := by decide +kernel
theorem d_X14_step_222 : decode b_X14_step 222 = .ok (.aload_n 0, 1) := by decide +kernel
theorem d_X14_step_223 : decode b_X14_step 223 = .ok (.getfield 771, 3) := by decide +kernel
theorem d_X14_step_226 : decode b_X14_step 226 = .ok (.iconst 1, 1) := by decide +kernel
theorem d_X14_step_227 : decode b_X14_step 227 = .ok (.isub, 1) := by decide +kernel
theorem d_X14_step_228 : decode b_X14_step 228 = .ok (.iaload, 1) := by decide +kernel
theorem d_X14_step_229 : decode b_X14_step 229 = .ok (.aload_n 0, 1) := by decide +kernel
theorem d_X14_step_230 : decode b_X14_step 230 = .ok (.getfield 41, 3) := by decide +kernel
theorem d_X14_step_233 : decode b_X14_step 233 = .ok (.aload_n 0, 1) := by decide +kernel
theorem d_X14_step_234 : decode b_X14_step 234 = .ok (.iload_n 2, 1) := by decide +kernel
theorem d_X14_step_235 : decode b_X14_step 235 = .ok (.invokevirtual 793, 3) := by decide +kernel
theorem d_X14_step_238 : decode b_X14_step 238 = .ok (.iaload, 1) := by decide +kernel
theorem d_X14_step_239 : decode b_X14_step 239 = .ok (.iadd, 1) := by decide +kernel
theorem d_X14_step_240 : decode b_X14_step 240 = .ok (.invokevirtual 796, 3) := by decide +kernel
theorem d_X14_step_243 : decode b_X14_step 243 = .ok (.iload_n 1, 1) := by decide +kernel
theorem d_X14_step_244 : decode b_X14_step 244 = .ok (.iconst 2, 1) := by decide +kernel
theorem d_X14_step_245 : decode b_X14_step 245 = .ok (.iadd, 1) := by decide +kernel
theorem d_X14_step_246 : decode b_X14_step 246 = .ok (.ireturn, 1) := by decide +kernel
theorem d_X14_step_247 : decode b_X14_step 247 = .ok (.aload_n 0, 1) := by decide +kernel
theorem d_X14_step_248 : decode b_X14_step 248 = .ok (.iload_n 2, 1) := by decide +kernel
theorem d_X14_step_249 : decode b_X14_step 249 = .ok (.aload_n 0, 1) := by decide +kernel
theorem d_X14_step_250 : decode b_X14_step 250 = .ok (.getfield 173, 3) := by decide +kernel
theorem d_X14_step_253 : decode b_X14_step 253 = .ok (.aload_n 0, 1) := by decide +kernel
theorem d_X14_step_254 : decode b_X14_step 254 = .ok (.getfield 768, 3) := by decide +kernel
theorem d_X14_step_257 : decode b_X14_step 257 = .ok (.iconst 1, 1) := by decide +kernel
theorem d_X14_step_258 : decode b_X14_step 258 = .ok (.isub, 1) := by decide +kernel
theorem d_X14_step_259 : decode b_X14_step 259 = .ok (.iaload, 1) := by decide +kernel
theorem d_X14_step_260 : decode b_X14_step 260 = .ok (.invokevirtual 790, 3) := by decide +kernel
theorem d_X14_step_263 : decode b_X14_step 263 = .ok (.iload_n 1, 1) := by decide +kernel
theorem d_X14_step_264 : decode b_X14_step 264 = .ok (.iconst 2, 1) := by decide +kernel
theorem d_X14_step_265 : decode b_X14_step 265 = .ok (.iadd, 1) := by decide +kernel
theorem d_X14_step_266 : decode b_X14_step 266 = .ok (.ireturn, 1) := by decide +kernel
theorem d_X14_step_267 : decode b_X14_step 267 = .ok (.aload_n 0, 1) := by decide +kernel
theorem d_X14_step_268 : decode b_X14_step 268 = .ok (.iload_n 2, 1) := by decide +kernel
theorem d_X14_step_269 : decode b_X14_step 269 = .ok (.invokevirtual 802, 3) := by decide +kernel
theorem d_X14_step_272 : decode b_X14_step 272 = .ok (.iload_n 1, 1) := by decide +kernel
theorem d_X14_step_273 : decode b_X14_step 273 = .ok (.iconst 2, 1) := by decide +kernel
theorem d_X14_step_274 : decode b_X14_step 274 = .ok (.iadd, 1) := by decide +kernel
theorem d_X14_step_275 : decode b_X14_step 275 = .ok (.ireturn, 1) := by decide +kernel
theorem d_X14_step_276 : decode b_X14_step 276 = .ok (.aload_n 0, 1) := by decide +kernel
theorem d_X14_step_277 : decode b_X14_step 277 = .ok (.aload_n 0, 1) := by decide +kernel
theorem d_X14_step_278 : decode b_X14_step 278 = .ok (.getfield 173, 3) := by decide +kernel
theorem d_X14_step_281 : decode b_X14_step 281 = .ok (.aload_n 0, 1) := by decide +kernel
theorem d_X14_step_282 : decode b_X14_step 282 = .ok (.getfield 768, 3) := by decide +kernel
theorem d_X14_step_285 : decode b_X14_step 285 = .ok (.iconst 1, 1) := by decide +kernel
theorem d_X14_step_286 : decode b_X14_step 286 = .ok (.isub, 1) := by decide +kernel
theorem d_X14_step_287 : decode b_X14_step 287 = .ok (.iaload, 1) := by decide +kernel
theorem d_X14_step_288 : decode b_X14_step 288 = .ok (.invokevirtual 796, 3) := by decide +kernel
theorem d_X14_step_291 : decode b_X14_step 291 = .ok (.iload_n 1, 1) := by decide +kernel
theorem d_X14_step_292 : decode b_X14_step 292 = .ok (.iconst 1, 1) := by decide +kernel
theorem d_X14_step_293 : decode b_X14_step 293 = .ok (.iadd, 1) := by decide +kernel
theorem d_X14_step_294 : decode b_X14_step 294 = .ok (.ireturn, 1) := by decide +kernel
theorem d_X14_step_295 : decode b_X14_step 295 = .ok (.aload_n 0, 1) := by decide +kernel
theorem d_X14_step_296 : decode b_X14_step 296 = .ok (.dup, 1) := by decide +kernel
theorem d_X14_step_297 : decode b_X14_step 297 = .ok (.getfield 768, 3) := by decide +kernel
theorem d_X14_step_300 : decode b_X14_step 300 = .ok (.iconst 1, 1) := by decide +kernel
theorem d_X14_step_301 : decode b_X14_step 301 = .ok (.isub, 1) := by decide +kernel
theorem d_X14_step_302 : decode b_X14_step 302 = .ok (.putfield 768, 3) := by decide +kernel
theorem d_X14_step_305 : decode b_X14_step 305 = .ok (.iload_n 1, 1) := by decide +kernel
theorem d_X14_step_306 : decode b_X14_step 306 = .ok (.iconst 1, 1) := by decide +kernel
theorem d_X14_step_307 : decode b_X14_step 307 = .ok (.iadd, 1) := by decide +kernel
theorem d_X14_step_308 : decode b_X14_step 308 = .ok (.ireturn, 1) := by decide +kernel
theorem d_X14_step_309 : decode b_X14_step 309 = .ok (.aload_n 0, 1) := by decide +kernel
theorem d_X14_step_310 : decode b_X14_step 310 = .ok (.aload_n 0, 1) := by decide +kernel
theorem d_X14_step_311 : decode b_X14_step 311 = .ok (.invokevirtual 805, 3) := by decide +kernel
theorem d_X14_step_314 : decode b_X14_step 314 = .ok (.ineg, 1) := by decide +kernel
theorem d_X14_step_315 : decode b_X14_step 315 = .ok (.invokevirtual 796, 3) := by decide +kernel
theorem d_X14_step_318 : decode b_X14_step 318 = .ok (.iload_n 1, 1) := by decide +kernel
theorem d_X14_step_319 : decode b_X14_step 319 = .ok (.iconst 1, 1) := by decide +kernel
theorem d_X14_step_320 : decode b_X14_step 320 = .ok (.iadd, 1) := by decide +kernel
theorem d_X14_step_321 : decode b_X14_step 321 = .ok (.ireturn, 1) := by decide +kernel
theorem d_X14_step_322 : decode b_X14_step 322 = .ok (.aload_n 0, 1) := by decide +kernel
theorem d_X14_step_323 : decode b_X14_step 323 = .ok (.aload_n 0, 1) := by decide +kernel
theorem d_X14_step_324 : decode b_X14_step 324 = .ok (.invokevirtual 805, 3) := by decide +kernel
theorem d_X14_step_327 : decode b_X14_step 327 = .ok (.iconst (-1), 1) := by decide +kernel
theorem d_X14_step_328 : decode b_X14_step 328 = .ok (.ixor, 1) := by decide +kernel
theorem d_X14_step_329 : decode b_X14_step 329 = .ok (.invokevirtual 796, 3) := by decide +kernel
theorem d_X14_step_332 : decode b_X14_step 332 = .ok (.iload_n 1, 1) := by decide +kernel
theorem d_X14_step_333 : decode b_X14_step 333 = .ok (.iconst 1, 1) := by decide +kernel
theorem d_X14_step_334 : decode b_X14_step 334 = .ok (.iadd, 1) := by decide +kernel
theorem d_X14_step_335 : decode b_X14_step 335 = .ok (.ireturn, 1) := by decide +kernel
theorem d_X14_step_336 : decode b_X14_step 336 = .ok (.aload_n 0, 1) := by decide +kernel
theorem d_X14_step_337 : decode b_X14_step 337 = .ok (.aload_n 0, 1) := by decide +kernel
theorem d_X14_step_338 : decode b_X14_step 338 = .ok (.invokevirtual 805, 3) := by decide +kernel
theorem d_X14_step_341 : decode b_X14_step 341 = .ok (.ifCond .ne 7, 3) := by decide +kernel
theorem d_X14_step_344 : decode b_X14_step 344 = .ok (.iconst 1, 1) := by decide +kernel
theorem d_X14_step_345 : decode b_X14_step 345 = .ok (.goto 4, 3) := by decide +kernel
theorem d_X14_step_348 : decode b_X14_step 348 = .ok (.iconst 0, 1) := by decide +kernel
theorem d_X14_step_349 : decode b_X14_step 349 = .ok (.invokevirtual 796, 3) := by decide +kernel
theorem d_X14_step_352 : decode b_X14_step 352 = .ok (.iload_n 1, 1) := by decide +kernel
theorem d_X14_step_353 : decode b_X14_step 353 = .ok (.iconst 1, 1) := by decide +kernel
theorem d_X14_step_354 : decode b_X14_step 354 = .ok (.iadd, 1) := by decide +kernel
theorem d_X14_step_355 : decode b_X14_step 355 = .ok (.ireturn, 1) := by decide +kernel
theorem d_X14_step_356 : decode b_X14_step 356 = .ok (.aload_n 0, 1) := by decide +kernel
theorem d_X14_step_357 : decode b_X14_step 357 = .ok (.aload_n 0, 1) := by decide +kernel
theorem d_X14_step_358 : decode b_X14_step 358 = .ok (.invokevirtual 805, 3) := by decide +kernel
theorem d_X14_step_361 : decode b_X14_step 361 = .ok (.ifCond .ne 7, 3) := by decide +kernel
theorem d_X14_step_364 : decode b_X14_step 364 = .ok (.iconst 0, 1) := by decide +kernel
theorem d_X14_step_365 : decode b_X14_step 365 = .ok (.goto 4, 3) := by decide +kernel
theorem d_X14_step_368 : decode b_X14_step 368 = .ok (.iconst 1, 1) := by decide +kernel
theorem d_X14_step_369 : decode b_X14_step 369 = .ok (.invokevirtual 796, 3) := by decide +kernel
theorem d_X14_step_372 : decode b_X14_step 372 = .ok (.iload_n 1, 1) := by decide +kernel
theorem d_X14_step_373 : decode b_X14_step 373 = .ok (.iconst 1, 1) := by decide +kernel
theorem d_X14_step_374 : decode b_X14_step 374 = .ok (.iadd, 1) := by decide +kernel
theorem d_X14_step_375 : decode b_X14_step 375 = .ok (.ireturn, 1) := by decide +kernel
theorem d_X14_step_376 : decode b_X14_step 376 = .ok (.iload_n 2, 1) := by decide +kernel
theorem d_X14_step_377 : decode b_X14_step 377 = .ok (.ireturn, 1) := by decide +kernel
theorem d_X14_step_378 : decode b_X14_step 378 = .ok (.aload_n 0, 1) := by decide +kernel
theorem d_X14_step_379 : decode b_X14_step 379 = .ok (.invokevirtual 805, 3) := by decide +kernel
theorem d_X14_step_382 : decode b_X14_step 382 = .ok (.ifCond .ne 7, 3) := by decide +kernel
theorem d_X14_step_385 : decode b_X14_step 385 = .ok (.iload_n 2, 1) := by decide +kernel
theorem d_X14_step_386 : decode b_X14_step 386 = .ok (.goto 6, 3) := by decide +kernel
theorem d_X14_step_389 : decode b_X14_step 389 = .ok (.iload_n 1, 1) := by decide +kernel
theorem d_X14_step_390 : decode b_X14_step 390 = .ok (.iconst 2, 1) := by decide +kernel
theorem d_X14_step_391 : decode b_X14_step 391 = .ok (.iadd, 1) := by decide +kernel
theorem d_X14_step_392 : decode b_X14_step 392 = .ok (.ireturn, 1) := by decide +kernel
theorem d_X14_step_393 : decode b_X14_step 393 = .ok (.aload_n 0, 1) := by decide +kernel
theorem d_X14_step_394 : decode b_X14_step 394 = .ok (.invokevirtual 805, 3) := by decide +kernel
theorem d_X14_step_397 : decode b_X14_step 397 = .ok (.ifCond .eq 7, 3) := by decide +kernel
theorem d_X14_step_400 : decode b_X14_step 400 = .ok (.iload_n 2, 1) := by decide +kernel
theorem d_X14_step_401 : decode b_X14_step 401 = .ok (.goto 6, 3) := by decide +kernel
theorem d_X14_step_404 : decode b_X14_step 404 = .ok (.iload_n 1, 1) := by decide +kernel
theorem d_X14_step_405 : decode b_X14_step 405 = .ok (.iconst 2, 1) := by decide +kernel
theorem d_X14_step_406 : decode b_X14_step 406 = .ok (.iadd, 1) := by decide +kernel
theorem d_X14_step_407 : decode b_X14_step 407 = .ok (.ireturn, 1) := by decide +kernel
theorem d_X14_step_408 : decode b_X14_step 408 = .ok (.aload_n 0, 1) := by decide +kernel
theorem d_X14_step_409 : decode b_X14_step 409 = .ok (.getfield 756, 3) := by decide +kernel
theorem d_X14_step_412 : decode b_X14_step 412 = .ok (.aload_n 0, 1) := by decide +kernel
theorem d_X14_step_413 : decode b_X14_step 413 = .ok (.getfield 747, 3) := by decide +kernel
theorem d_X14_step_416 : decode b_X14_step 416 = .ok (.if_icmp .ne 12, 3) := by decide +kernel
theorem d_X14_step_419 : decode b_X14_step 419 = .ok (.aload_n 0, 1) := by decide +kernel
theorem d_X14_step_420 : decode b_X14_step 420 = .ok (.iconst 4, 1) := by decide +kernel
theorem d_X14_step_421 : decode b_X14_step 421 = .ok (.iload_n 2, 1) := by decide +kernel
theorem d_X14_step_422 : decode b_X14_step 422 = .ok (.invokevirtual 808, 3) := by decide +kernel
theorem d_X14_step_425 : decode b_X14_step 425 = .ok (.goto 13, 3) := by decide +kernel
theorem d_X14_step_428 : decode b_X14_step 428 = .ok (.aload_n 0, 1) := by decide +kernel
theorem d_X14_step_429 : decode b_X14_step 429 = .ok (.dup, 1) := by decide +kernel
theorem d_X14_step_430 : decode b_X14_step 430 = .ok (.getfield 756, 3) := by decide +kernel
theorem d_X14_step_433 : decode b_X14_step 433 = .ok (.iconst 1, 1) := by decide +kernel
theorem d_X14_step_434 : decode b_X14_step 434 = .ok (.iadd, 1) := by decide +kernel
theorem d_X14_step_435 : decode b_X14_step 435 = .ok (.putfield 756, 3) := by decide +kernel
theorem d_X14_step_438 : decode b_X14_step 438 = .ok (.iload_n 1, 1) := by decide +kernel
theorem d_X14_step_439 : decode b_X14_step 439 = .ok (.iconst 2, 1) := by decide +kernel
theorem d_X14_step_440 : decode b_X14_step 440 = .ok (.iadd, 1) := by decide +kernel
theorem d_X14_step_441 : decode b_X14_step 441 = .ok (.ireturn, 1) := by decide +kernel
theorem d_X14_step_442 : decode b_X14_step 442 = .ok (.aload_n 0, 1) := by decide +kernel
theorem d_X14_step_443 : decode b_X14_step 443 = .ok (.iload_n 1, 1) := by decide +kernel
theorem d_X14_step_444 : decode b_X14_step 444 = .ok (.iload_n 2, 1) := by decide +kernel
theorem d_X14_step_445 : decode b_X14_step 445 = .ok (.invokevirtual 811, 3) := by decide +kernel
theorem d_X14_step_448 : decode b_X14_step 448 = .ok (.ireturn, 1) := by decide +kernel
theorem d_X14_push_0 : decode b_X14_push 0 = .ok (.aload_n 0, 1) := by decide +kernel
theorem d_X14_push_1 : decode b_X14_push 1 = .ok (.getfield 173, 3) := by decide +kernel
theorem d_X14_push_4 : decode b_X14_push 4 = .ok (.aload_n 0, 1) := by decide +kernel
theorem d_X14_push_5 : decode b_X14_push 5 = .ok (.getfield 768, 3) := by decide +kernel
theorem d_X14_push_8 : decode b_X14_push 8 = .ok (.iload_n 1, 1) := by decide +kernel
theorem d_X14_push_9 : decode b_X14_push 9 = .ok (.iastore, 1) := by decide +kernel
theorem d_X14_push_10 : decode b_X14_push 10 = .ok (.aload_n 0, 1) := by decide +kernel
theorem d_X14_push_11 : decode b_X14_push 11 = .ok (.dup, 1) := by decide +kernel
theorem d_X14_push_12 : decode b_X14_push 12 = .ok (.getfield 768, 3) := by decide +kernel
theorem d_X14_push_15 : decode b_X14_push 15 = .ok (.iconst 1, 1) := by decide +kernel
theorem d_X14_push_16 : decode b_X14_push 16 = .ok (.iadd, 1) := by decide +kernel
theorem d_X14_push_17 : decode b_X14_push 17 = .ok (.putfield 768, 3) := by decide +kernel
theorem d_X14_push_20 : decode b_X14_push 20 = .ok (.return_, 1) := by decide +kernel
theorem d_X14_getLocal_0 : decode b_X14_getLocal 0 = .ok (.aload_n 0, 1) := by decide +kernel
theorem d_X14_getLocal_1 : decode b_X14_getLocal 1 = .ok (.getfield 41, 3) := by decide +kernel
theorem d_X14_getLocal_4 : decode b_X14_getLocal 4 = .ok (.aload_n 0, 1) := by decide +kernel
theorem d_X14_getLocal_5 : decode b_X14_getLocal 5 = .ok (.iload_n 1, 1) := by decide +kernel
theorem d_X14_getLocal_6 : decode b_X14_getLocal 6 = .ok (.invokevirtual 793, 3) := by decide +kernel
theorem d_X14_getLocal_9 : decode b_X14_getLocal 9 = .ok (.iaload, 1) := by decide +kernel
theorem d_X14_getLocal_10 : decode b_X14_getLocal 10 = .ok (.istore_n 2, 1) := by decide +kernel
theorem d_X14_getLocal_11 : decode b_X14_getLocal 11 = .ok (.iload_n 2, 1) := by decide +kernel
theorem d_X14_getLocal_12 : decode b_X14_getLocal 12 = .ok (.ifCond .lt 24, 3) := by decide +kernel
theorem d_X14_getLocal_15 : decode b_X14_getLocal 15 = .ok (.aload_n 0, 1) := by decide +kernel
theorem d_X14_getLocal_16 : decode b_X14_getLocal 16 = .ok (.getfield 169, 3) := by decide +kernel
theorem d_X14_getLocal_19 : decode b_X14_getLocal 19 = .ok (.aload_n 0, 1) := by decide +kernel
theorem d_X14_getLocal_20 : decode b_X14_getLocal 20 = .ok (.getfield 179, 3) := by decide +kernel
theorem d_X14_getLocal_23 : decode b_X14_getLocal 23 = .ok (.aload_n 0, 1) := by decide +kernel
theorem d_X14_getLocal_24 : decode b_X14_getLocal 24 = .ok (.getfield 771, 3) := by decide +kernel
theorem d_X14_getLocal_27 : decode b_X14_getLocal 27 = .ok (.iconst 1, 1) := by decide +kernel
theorem d_X14_getLocal_28 : decode b_X14_getLocal 28 = .ok (.isub, 1) := by decide +kernel
theorem d_X14_getLocal_29 : decode b_X14_getLocal 29 = .ok (.iaload, 1) := by decide +kernel
theorem d_X14_getLocal_30 : decode b_X14_getLocal 30 = .ok (.iload_n 2, 1) := by decide +kernel
theorem d_X14_getLocal_31 : decode b_X14_getLocal 31 = .ok (.iadd, 1) := by decide +kernel
theorem d_X14_getLocal_32 : decode b_X14_getLocal 32 = .ok (.iaload, 1) := by decide +kernel
theorem d_X14_getLocal_33 : decode b_X14_getLocal 33 = .ok (.goto 19, 3) := by decide +kernel
theorem d_X14_getLocal_36 : decode b_X14_getLocal 36 = .ok (.aload_n 0, 1) := by decide +kernel
theorem d_X14_getLocal_37 : decode b_X14_getLocal 37 = .ok (.getfield 176, 3) := by decide +kernel
theorem d_X14_getLocal_40 : decode b_X14_getLocal 40 = .ok (.aload_n 0, 1) := by decide +kernel
theorem d_X14_getLocal_41 : decode b_X14_getLocal 41 = .ok (.getfield 771, 3) := by decide +kernel
theorem d_X14_getLocal_44 : decode b_X14_getLocal 44 = .ok (.iconst 1, 1) := by decide +kernel
theorem d_X14_getLocal_45 : decode b_X14_getLocal 45 = .ok (.isub, 1) := by decide +kernel
theorem d_X14_getLocal_46 : decode b_X14_getLocal 46 = .ok (.bipush 100, 2) := by decide +kernel
theorem d_X14_getLocal_48 : decode b_X14_getLocal 48 = .ok (.imul, 1) := by decide +kernel
theorem d_X14_getLocal_49 : decode b_X14_getLocal 49 = .ok (.iload_n 1, 1) := by decide +kernel
theorem d_X14_getLocal_50 : decode b_X14_getLocal 50 = .ok (.iadd, 1) := by decide +kernel
theorem d_X14_getLocal_51 : decode b_X14_getLocal 51 = .ok (.iaload, 1) := by decide +kernel
theorem d_X14_getLocal_52 : decode b_X14_getLocal 52 = .ok (.ireturn, 1) := by decide +kernel
theorem d_X14_clear_0 : decode b_X14_clear 0 = .ok (.aload_n 0, 1) := by decide +kernel
theorem d_X14_clear_1 : decode b_X14_clear 1 = .ok (.getfield 41, 3) := by decide +kernel
theorem d_X14_clear_4 : decode b_X14_clear 4 = .ok (.aload_n 0, 1) := by decide +kernel
theorem d_X14_clear_5 : decode b_X14_clear 5 = .ok (.iload_n 1, 1) := by decide +kernel
theorem d_X14_clear_6 : decode b_X14_clear 6 = .ok (.invokevirtual 793, 3) := by decide +kernel
theorem d_X14_clear_9 : decode b_X14_clear 9 = .ok (.iconst 1, 1) := by decide +kernel
theorem d_X14_clear_10 : decode b_X14_clear 10 = .ok (.iadd, 1) := by decide +kernel
theorem d_X14_clear_11 : decode b_X14_clear 11 = .ok (.iaload, 1) := by decide +kernel
theorem d_X14_clear_12 : decode b_X14_clear 12 = .ok (.istore_n 2, 1) := by decide +kernel
theorem d_X14_clear_13 : decode b_X14_clear 13 = .ok (.aload_n 0, 1) := by decide +kernel
theorem d_X14_clear_14 : decode b_X14_clear 14 = .ok (.getfield 179, 3) := by decide +kernel
theorem d_X14_clear_17 : decode b_X14_clear 17 = .ok (.aload_n 0, 1) := by decide +kernel
theorem d_X14_clear_18 : decode b_X14_clear 18 = .ok (.getfield 771, 3) := by decide +kernel
theorem d_X14_clear_21 : decode b_X14_clear 21 = .ok (.iconst 1, 1) := by decide +kernel
theorem d_X14_clear_22 : decode b_X14_clear 22 = .ok (.isub, 1) := by decide +kernel
theorem d_X14_clear_23 : decode b_X14_clear 23 = .ok (.iaload, 1) := by decide +kernel
theorem d_X14_clear_24 : decode b_X14_clear 24 = .ok (.aload_n 0, 1) := by decide +kernel
theorem d_X14_clear_25 : decode b_X14_clear 25 = .ok (.getfield 41, 3) := by decide +kernel
theorem d_X14_clear_28 : decode b_X14_clear 28 = .ok (.aload_n 0, 1) := by decide +kernel
theorem d_X14_clear_29 : decode b_X14_clear 29 = .ok (.iload_n 1, 1) := by decide +kernel
theorem d_X14_clear_30 : decode b_X14_clear 30 = .ok (.invokevirtual 793, 3) := by decide +kernel
theorem d_X14_clear_33 : decode b_X14_clear 33 = .ok (.iaload, 1) := by decide +kernel
theorem d_X14_clear_34 : decode b_X14_clear 34 = .ok (.iadd, 1) := by decide +kernel
theorem d_X14_clear_35 : decode b_X14_clear 35 = .ok (.istore_n 3, 1) := by decide +kernel
theorem d_X14_clear_36 : decode b_X14_clear 36 = .ok (.iconst 0, 1) := by decide +kernel
theorem d_X14_clear_37 : decode b_X14_clear 37 = .ok (.istore 4, 2) := by decide +kernel
theorem d_X14_clear_39 : decode b_X14_clear 39 = .ok (.iload 4, 2) := by decide +kernel
theorem d_X14_clear_41 : decode b_X14_clear 41 = .ok (.iload_n 2, 1) := by decide +kernel
theorem d_X14_clear_42 : decode b_X14_clear 42 = .ok (.if_icmp .ge 19, 3) := by decide +kernel
theorem d_X14_clear_45 : decode b_X14_clear 45 = .ok (.aload_n 0, 1) := by decide +kernel
theorem d_X14_clear_46 : decode b_X14_clear 46 = .ok (.getfield 169, 3) := by decide +kernel
theorem d_X14_clear_49 : decode b_X14_clear 49 = .ok (.iload_n 3, 1) := by decide +kernel
theorem d_X14_clear_50 : decode b_X14_clear 50 = .ok (.iload 4, 2) := by decide +kernel
theorem d_X14_clear_52 : decode b_X14_clear 52 = .ok (.iadd, 1) := by decide +kernel
theorem d_X14_clear_53 : decode b_X14_clear 53 = .ok (.iconst 0, 1) := by decide +kernel
theorem d_X14_clear_54 : decode b_X14_clear 54 = .ok (.iastore, 1) := by decide +kernel
theorem d_X14_clear_55 : decode b_X14_clear 55 = .ok (.iinc 4 1, 3) := by decide +kernel
theorem d_X14_clear_58 : decode b_X14_clear 58 = .ok (.goto (-19), 3) := by decide +kernel
theorem d_X14_clear_61 : decode b_X14_clear 61 = .ok (.iload_n 2, 1) := by decide +kernel
theorem d_X14_clear_62 : decode b_X14_clear 62 = .ok (.ifCond .ne 9, 3) := by decide +kernel
theorem d_X14_clear_65 : decode b_X14_clear 65 = .ok (.aload_n 0, 1) := by decide +kernel
theorem d_X14_clear_66 : decode b_X14_clear 66 = .ok (.iload_n 1, 1) := by decide +kernel
theorem d_X14_clear_67 : decode b_X14_clear 67 = .ok (.iconst 0, 1) := by decide +kernel
theorem d_X14_clear_68 : decode b_X14_clear 68 = .ok (.invokevirtual 790, 3) := by decide +kernel
theorem d_X14_clear_71 : decode b_X14_clear 71 = .ok (.return_, 1) := by decide +kernel
theorem d_X14_pop_0 : decode b_X14_pop 0 = .ok (.aload_n 0, 1) := by decide +kernel
theorem d_X14_pop_1 : decode b_X14_pop 1 = .ok (.dup, 1) := by decide +kernel
theorem d_X14_pop_2 : decode b_X14_pop 2 = .ok (.getfield 768, 3) := by decide +kernel
theorem d_X14_pop_5 : decode b_X14_pop 5 = .ok (.iconst 1, 1) := by decide +kernel
theorem d_X14_pop_6 : decode b_X14_pop 6 = .ok (.isub, 1) := by decide +kernel
theorem d_X14_pop_7 : decode b_X14_pop 7 = .ok (.putfield 768, 3) := by decide +kernel
theorem d_X14_pop_10 : decode b_X14_pop 10 = .ok (.aload_n 0, 1) := by decide +kernel
theorem d_X14_pop_11 : decode b_X14_pop 11 = .ok (.getfield 173, 3) := by decide +kernel
theorem d_X14_pop_14 : decode b_X14_pop 14 = .ok (.aload_n 0, 1) := by decide +kernel
theorem d_X14_pop_15 : decode b_X14_pop 15 = .ok (.getfield 768, 3) := by decide +kernel
theorem d_X14_pop_18 : decode b_X14_pop 18 = .ok (.iaload, 1) := by decide +kernel
theorem d_X14_pop_19 : decode b_X14_pop 19 = .ok (.ireturn, 1) := by decide +kernel
theorem d_X14_trapped_0 : decode b_X14_trapped 0 = .ok (.aload_n 0, 1) := by decide +kernel
theorem d_X14_trapped_1 : decode b_X14_trapped 1 = .ok (.iload_n 1, 1) := by decide +kernel
theorem d_X14_trapped_2 : decode b_X14_trapped 2 = .ok (.aload_n 0, 1) := by decide +kernel
theorem d_X14_trapped_3 : decode b_X14_trapped 3 = .ok (.getfield 102, 3) := by decide +kernel
theorem d_X14_trapped_6 : decode b_X14_trapped 6 = .ok (.aload_n 0, 1) := by decide +kernel
theorem d_X14_trapped_7 : decode b_X14_trapped 7 = .ok (.getfield 182, 3) := by decide +kernel
theorem d_X14_trapped_10 : decode b_X14_trapped 10 = .ok (.aload_n 0, 1) := by decide +kernel
theorem d_X14_trapped_11 : decode b_X14_trapped 11 = .ok (.getfield 771, 3) := by decide +kernel
theorem d_X14_trapped_14 : decode b_X14_trapped 14 = .ok (.iconst 1, 1) := by decide +kernel
theorem d_X14_trapped_15 : decode b_X14_trapped 15 = .ok (.isub, 1) := by decide +kernel
theorem d_X14_trapped_16 : decode b_X14_trapped 16 = .ok (.iaload, 1) := by decide +kernel
theorem d_X14_trapped_17 : decode b_X14_trapped 17 = .ok (.iaload, 1) := by decide +kernel
theorem d_X14_trapped_18 : decode b_X14_trapped 18 = .ok (.iconst 1, 1) := by decide +kernel
theorem d_X14_trapped_19 : decode b_X14_trapped 19 = .ok (.iadd, 1) := by decide +kernel
theorem d_X14_trapped_20 : decode b_X14_trapped 20 = .ok (.iload_n 2, 1) := by decide +kernel
theorem d_X14_trapped_21 : decode b_X14_trapped 21 = .ok (.invokevirtual 784, 3) := by decide +kernel
theorem d_X14_trapped_24 : decode b_X14_trapped 24 = .ok (.return_, 1) := by decide +kernel
theorem d_X14_stepMore_0 : decode b_X14_stepMore 0 = .ok (.aload_n 0, 1) := by decide +kernel
theorem d_X14_stepMore_1 : decode b_X14_stepMore 1 = .ok (.getfield 41, 3) := by decide +kernel
theorem d_X14_stepMore_4 : decode b_X14_stepMore 4 = .ok (.iload_n 1, 1) := by decide +kernel
theorem d_X14_stepMore_5 : decode b_X14_stepMore 5 = .ok (.iaload, 1) := by decide +kernel
theorem d_X14_stepMore_6 : decode b_X14_stepMore 6 = .ok (.tableswitch 378 5 23 #[90, 125, 378, 378, 378, 378, 170, 378, 378, 378, 378, 378, 378, 378, 363, 378, 378, 228, 309], 90) := by decide +kernel
theorem d_X14_stepMore_96 : decode b_X14_stepMore 96 = .ok (.aload_n 0, 1) := by decide +kernel
theorem d_X14_stepMore_97 : decode b_X14_stepMore 97 = .ok (.invokevirtual 805, 3) := by decide +kernel
theorem d_X14_stepMore_100 : decode b_X14_stepMore 100 = .ok (.istore_n 3, 1) := by decide +kernel
theorem d_X14_stepMore_101 : decode b_X14_stepMore 101 = .ok (.iload_n 3, 1) := by decide +kernel
theorem d_X14_stepMore_102 : decode b_X14_stepMore 102 = .ok (.invokestatic 814, 3) := by decide +kernel
theorem d_X14_stepMore_105 : decode b_X14_stepMore 105 = .ok (.ifCond .eq 16, 3) := by decide +kernel
theorem d_X14_stepMore_108 : decode b_X14_stepMore 108 = .ok (.aload_n 0, 1) := by decide +kernel
theorem d_X14_stepMore_109 : decode b_X14_stepMore 109 = .ok (.aload_n 0, 1) := by decide +kernel
theorem d_X14_stepMore_110 : decode b_X14_stepMore 110 = .ok (.getfield 169, 3) := by decide +kernel
theorem d_X14_stepMore_113 : decode b_X14_stepMore 113 = .ok (.iload_n 3, 1) := by decide +kernel
theorem d_X14_stepMore_114 : decode b_X14_stepMore 114 = .ok (.iaload, 1) := by decide +kernel
theorem d_X14_stepMore_115 : decode b_X14_stepMore 115 = .ok (.invokevirtual 796, 3) := by decide +kernel
theorem d_X14_stepMore_118 : decode b_X14_stepMore 118 = .ok (.goto 9, 3) := by decide +kernel
theorem d_X14_stepMore_121 : decode b_X14_stepMore 121 = .ok (.aload_n 0, 1) := by decide +kernel
theorem d_X14_stepMore_122 : decode b_X14_stepMore 122 = .ok (.iconst 2, 1) := by decide +kernel
theorem d_X14_stepMore_123 : decode b_X14_stepMore 123 = .ok (.iload_n 2, 1) := by decide +kernel
theorem d_X14_stepMore_124 : decode b_X14_stepMore 124 = .ok (.invokevirtual 808, 3) := by decide +kernel
theorem d_X14_stepMore_127 : decode b_X14_stepMore 127 = .ok (.iload_n 1, 1) := by decide +kernel
theorem d_X14_stepMore_128 : decode b_X14_stepMore 128 = .ok (.iconst 2, 1) := by decide +kernel
theorem d_X14_stepMore_129 : decode b_X14_stepMore 129 = .ok (.iadd, 1) := by decide +kernel
theorem d_X14_stepMore_130 : decode b_X14_stepMore 130 = .ok (.ireturn, 1) := by decide +kernel
theorem d_X14_stepMore_131 : decode b_X14_stepMore 131 = .ok (.aload_n 0, 1) := by decide +kernel
theorem d_X14_stepMore_132 : decode b_X14_stepMore 132 = .ok (.invokevirtual 805, 3) := by decide +kernel
theorem d_X14_stepMore_135 : decode b_X14_stepMore 135 = .ok (.istore_n 3, 1) := by decide +kernel
theorem d_X14_stepMore_136 : decode b_X14_stepMore 136 = .ok (.aload_n 0, 1) := by decide +kernel
theorem d_X14_stepMore_137 : decode b_X14_stepMore 137 = .ok (.invokevirtual 805, 3) := by decide +kernel
theorem d_X14_stepMore_140 : decode b_X14_stepMore 140 = .ok (.istore 4, 2) := by decide +kernel
theorem d_X14_stepMore_142 : decode b_X14_stepMore 142 = .ok (.iload 4, 2) := by decide +kernel
theorem d_X14_stepMore_144 : decode b_X14_stepMore 144 = .ok (.invokestatic 814, 3) := by decide +kernel
theorem d_X14_stepMore_147 : decode b_X14_stepMore 147 = .ok (.ifCond .eq 14, 3) := by decide +kernel
theorem d_X14_stepMore_150 : decode b_X14_stepMore 150 = .ok (.aload_n 0, 1) := by decide +kernel
theorem d_X14_stepMore_151 : decode b_X14_stepMore 151 = .ok (.getfield 169, 3) := by decide +kernel
theorem d_X14_stepMore_154 : decode b_X14_stepMore 154 = .ok (.iload 4, 2) := by decide +kernel
theorem d_X14_stepMore_156 : decode b_X14_stepMore 156 = .ok (.iload_n 3, 1) := by decide +kernel
theorem d_X14_stepMore_157 : decode b_X14_stepMore 157 = .ok (.iastore, 1) := by decide +kernel
theorem d_X14_stepMore_158 : decode b_X14_stepMore 158 = .ok (.goto 9, 3) := by decide +kernel
theorem d_X14_stepMore_161 : decode b_X14_stepMore 161 = .ok (.aload_n 0, 1) := by decide +kernel
theorem d_X14_stepMore_162 : decode b_X14_stepMore 162 = .ok (.iconst 2, 1) := by decide +kernel
theorem d_X14_stepMore_163 : decode b_X14_stepMore 163 = .ok (.iload_n 2, 1) := by decide +kernel
theorem d_X14_stepMore_164 : decode b_X14_stepMore 164 = .ok (.invokevirtual 808, 3) := by decide +kernel
theorem d_X14_stepMore_167 : decode b_X14_stepMore 167 = .ok (.aload_n 0, 1) := by decide +kernel
theorem d_X14_stepMore_168 : decode b_X14_stepMore 168 = .ok (.iload_n 3, 1) := by decide +kernel
theorem d_X14_stepMore_169 : decode b_X14_stepMore 169 = .ok (.invokevirtual 796, 3) := by decide +kernel
theorem d_X14_stepMore_172 : decode b_X14_stepMore 172 = .ok (.iload_n 1, 1) := by decide +kernel
theorem d_X14_stepMore_173 : decode b_X14_stepMore 173 = .ok (.iconst 2, 1) := by decide +kernel
theorem d_X14_stepMore_174 : decode b_X14_stepMore 174 = .ok (.iadd, 1) := by decide +kernel
theorem d_X14_stepMore_175 : decode b_X14_stepMore 175 = .ok (.ireturn, 1) := by decide +kernel
theorem d_X14_stepMore_176 : decode b_X14_stepMore 176 = .ok (.aload_n 0, 1) := by decide +kernel
theorem d_X14_stepMore_177 : decode b_X14_stepMore 177 = .ok (.invokevirtual 805, 3) := by decide +kernel
theorem d_X14_stepMore_180 : decode b_X14_stepMore 180 = .ok (.istore_n 3, 1) := by decide +kernel
theorem d_X14_stepMore_181 : decode b_X14_stepMore 181 = .ok (.aload_n 0, 1) := by decide +kernel
theorem d_X14_stepMore_182 : decode b_X14_stepMore 182 = .ok (.invokevirtual 805, 3) := by decide +kernel
theorem d_X14_stepMore_185 : decode b_X14_stepMore 185 = .ok (.istore 4, 2) := by decide +kernel
theorem d_X14_stepMore_187 : decode b_X14_stepMore 187 = .ok (.iload_n 2, 1) := by decide +kernel
theorem d_X14_stepMore_188 : decode b_X14_stepMore 188 = .ok (.bipush 39, 2) := by decide +kernel
theorem d_X14_stepMore_190 : decode b_X14_stepMore 190 = .ok (.if_icmp .eq 9, 3) := by decide +kernel
theorem d_X14_stepMore_193 : decode b_X14_stepMore 193 = .ok (.iload_n 2, 1) := by decide +kernel
theorem d_X14_stepMore_194 : decode b_X14_stepMore 194 = .ok (.bipush 40, 2) := by decide +kernel
theorem d_X14_stepMore_196 : decode b_X14_stepMore 196 = .ok (.if_icmp .ne 23, 3) := by decide +kernel
theorem d_X14_stepMore_199 : decode b_X14_stepMore 199 = .ok (.iload_n 3, 1) := by decide +kernel
theorem d_X14_stepMore_200 : decode b_X14_stepMore 200 = .ok (.ifCond .ne 19, 3) := by decide +kernel
theorem d_X14_stepMore_203 : decode b_X14_stepMore 203 = .ok (.aload_n 0, 1) := by decide +kernel
theorem d_X14_stepMore_204 : decode b_X14_stepMore 204 = .ok (.iconst 1, 1) := by decide +kernel
theorem d_X14_stepMore_205 : decode b_X14_stepMore 205 = .ok (.aload_n 0, 1) := by decide +kernel
theorem d_X14_stepMore_206 : decode b_X14_stepMore 206 = .ok (.getfield 41, 3) := by decide +kernel
theorem d_X14_stepMore_209 : decode b_X14_stepMore 209 = .ok (.iload_n 1, 1) := by decide +kernel
theorem d_X14_stepMore_210 : decode b_X14_stepMore 210 = .ok (.iconst 2, 1) := by decide +kernel
theorem d_X14_stepMore_211 : decode b_X14_stepMore 211 = .ok (.iadd, 1) := by decide +kernel
theorem d_X14_stepMore_212 : decode b_X14_stepMore 212 = .ok (.iaload, 1) := by decide +kernel
theorem d_X14_stepMore_213 : decode b_X14_stepMore 213 = .ok (.invokevirtual 808, 3) := by decide +kernel
theorem d_X14_stepMore_216 : decode b_X14_stepMore 216 = .ok (.goto 14, 3) := by decide +kernel
theorem d_X14_stepMore_219 : decode b_X14_stepMore 219 = .ok (.aload_n 0, 1) := by decide +kernel
theorem d_X14_stepMore_220 : decode b_X14_stepMore 220 = .ok (.iload_n 2, 1) := by decide +kernel
theorem d_X14_stepMore_221 : decode b_X14_stepMore 221 = .ok (.iload 4, 2) := by decide +kernel
theorem d_X14_stepMore_223 : decode b_X14_stepMore 223 = .ok (.iload_n 3, 1) := by decide +kernel
theorem d_X14_stepMore_224 : decode b_X14_stepMore 224 = .ok (.invokestatic 460, 3) := by decide +kernel
theorem d_X14_stepMore_227 : decode b_X14_stepMore 227 = .ok (.invokevirtual 796, 3) := by decide +kernel
theorem d_X14_stepMore_230 : decode b_X14_stepMore 230 = .ok (.iload_n 1, 1) := by decide +kernel
theorem d_X14_stepMore_231 : decode b_X14_stepMore 231 = .ok (.iconst 3, 1) := by decide +kernel
theorem d_X14_stepMore_232 : decode b_X14_stepMore 232 = .ok (.iadd, 1) := by decide +kernel
theorem d_X14_stepMore_233 : decode b_X14_stepMore 233 = .ok (.ireturn, 1) := by decide +kernel
theorem d_X14_stepMore_234 : decode b_X14_stepMore 234 = .ok (.aload_n 0, 1) := by decide +kernel
theorem d_X14_stepMore_235 : decode b_X14_stepMore 235 = .ok (.invokevirtual 805, 3) := by decide +kernel
theorem d_X14_stepMore_238 : decode b_X14_stepMore 238 = .ok (.istore_n 3, 1) := by decide +kernel
theorem d_X14_stepMore_239 : decode b_X14_stepMore 239 = .ok (.iload_n 3, 1) := by decide +kernel
theorem d_X14_stepMore_240 : decode b_X14_stepMore 240 = .ok (.invokestatic 814, 3) := by decide +kernel
theorem d_X14_stepMore_243 : decode b_X14_stepMore 243 = .ok (.ifCond .ne 12, 3) := by decide +kernel
theorem d_X14_stepMore_246 : decode b_X14_stepMore 246 = .ok (.aload_n 0, 1) := by decide +kernel
theorem d_X14_stepMore_247 : decode b_X14_stepMore 247 = .ok (.iconst 2, 1) := by decide +kernel
theorem d_X14_stepMore_248 : decode b_X14_stepMore 248 = .ok (.iload_n 2, 1) := by decide +kernel
theorem d_X14_stepMore_249 : decode b_X14_stepMore 249 = .ok (.invokevirtual 808, 3) := by decide +kernel
theorem d_X14_stepMore_252 : decode b_X14_stepMore 252 = .ok (.goto 59, 3) := by decide +kernel
theorem d_X14_stepMore_255 : decode b_X14_stepMore 255 = .ok (.aload_n 0, 1) := by decide +kernel
theorem d_X14_stepMore_256 : decode b_X14_stepMore 256 = .ok (.getfield 169, 3) := by decide +kernel
theorem d_X14_stepMore_259 : decode b_X14_stepMore 259 = .ok (.iload_n 3, 1) := by decide +kernel
theorem d_X14_stepMore_260 : decode b_X14_stepMore 260 = .ok (.dup2, 1) := by decide +kernel
theorem d_X14_stepMore_261 : decode b_X14_stepMore 261 = .ok (.iaload, 1) := by decide +kernel
theorem d_X14_stepMore_262 : decode b_X14_stepMore 262 = .ok (.aload_n 0, 1) := by decide +kernel
theorem d_X14_stepMore_263 : decode b_X14_stepMore 263 = .ok (.getfield 41, 3) := by decide +kernel
theorem d_X14_stepMore_266 : decode b_X14_stepMore 266 = .ok (.iload_n 1, 1) := by decide +kernel
theorem d_X14_stepMore_267 : decode b_X14_stepMore 267 = .ok (.iconst 2, 1) := by decide +kernel
theorem d_X14_stepMore_268 : decode b_X14_stepMore 268 = .ok (.iadd, 1) := by decide +kernel
theorem d_X14_stepMore_269 : decode b_X14_stepMore 269 = .ok (.iaload, 1) := by decide +kernel
theorem d_X14_stepMore_270 : decode b_X14_stepMore 270 = .ok (.iadd, 1) := by decide +kernel
theorem d_X14_stepMore_271 : decode b_X14_stepMore 271 = .ok (.iastore, 1) := by decide +kernel
theorem d_X14_stepMore_272 : decode b_X14_stepMore 272 = .ok (.aload_n 0, 1) := by decide +kernel
theorem d_X14_stepMore_273 : decode b_X14_stepMore 273 = .ok (.aload_n 0, 1) := by decide +kernel
theorem d_X14_stepMore_274 : decode b_X14_stepMore 274 = .ok (.getfield 41, 3) := by decide +kernel
theorem d_X14_stepMore_277 : decode b_X14_stepMore 277 = .ok (.iload_n 1, 1) := by decide +kernel
theorem d_X14_stepMore_278 : decode b_X14_stepMore 278 = .ok (.iconst 3, 1) := by decide +kernel
theorem d_X14_stepMore_279 : decode b_X14_stepMore 279 = .ok (.iadd, 1) := by decide +kernel
theorem d_X14_stepMore_280 : decode b_X14_stepMore 280 = .ok (.iaload, 1) := by decide +kernel
theorem d_X14_stepMore_281 : decode b_X14_stepMore 281 = .ok (.ifCond .ne 12, 3) := by decide +kernel
theorem d_X14_stepMore_284 : decode b_X14_stepMore 284 = .ok (.aload_n 0, 1) := by decide +kernel
theorem d_X14_stepMore_285 : decode b_X14_stepMore 285 = .ok (.getfield 169, 3) := by decide +kernel
theorem d_X14_stepMore_288 : decode b_X14_stepMore 288 = .ok (.iload_n 3, 1) := by decide +kernel
theorem d_X14_stepMore_289 : decode b_X14_stepMore 289 = .ok (.iaload, 1) := by decide +kernel
theorem d_X14_stepMore_290 : decode b_X14_stepMore 290 = .ok (.goto 18, 3) := by decide +kernel
theorem d_X14_stepMore_293 : decode b_X14_stepMore 293 = .ok (.aload_n 0, 1) := by decide +kernel
theorem d_X14_stepMore_294 : decode b_X14_stepMore 294 = .ok (.getfield 169, 3) := by decide +kernel
theorem d_X14_stepMore_297 : decode b_X14_stepMore 297 = .ok (.iload_n 3, 1) := by decide +kernel
theorem d_X14_stepMore_298 : decode b_X14_stepMore 298 = .ok (.iaload, 1) := by decide +kernel
theorem d_X14_stepMore_299 : decode b_X14_stepMore 299 = .ok (.aload_n 0, 1) := by decide +kernel
theorem d_X14_stepMore_300 : decode b_X14_stepMore 300 = .ok (.getfield 41, 3) := by decide +kernel
theorem d_X14_stepMore_303 : decode b_X14_stepMore 303 = .ok (.iload_n 1, 1) := by decide +kernel
theorem d_X14_stepMore_304 : decode b_X14_stepMore 304 = .ok (.iconst 2, 1) := by decide +kernel
theorem d_X14_stepMore_305 : decode b_X14_stepMore 305 = .ok (.iadd, 1) := by decide +kernel
theorem d_X14_stepMore_306 : decode b_X14_stepMore 306 = .ok (.iaload, 1) := by decide +kernel
theorem d_X14_stepMore_307 : decode b_X14_stepMore 307 = .ok (.isub, 1) := by decide +kernel
theorem d_X14_stepMore_308 : decode b_X14_stepMore 308 = .ok (.invokevirtual 796, 3) := by decide +kernel
theorem d_X14_stepMore_311 : decode b_X14_stepMore 311 = .ok (.iload_n 1, 1) := by decide +kernel
theorem d_X14_stepMore_312 : decode b_X14_stepMore 312 = .ok (.iconst 4, 1) := by decide +kernel
theorem d_X14_stepMore_313 : decode b_X14_stepMore 313 = .ok (.iadd, 1) := by decide +kernel
theorem d_X14_stepMore_314 : decode b_X14_stepMore 314 = .ok (.ireturn, 1) := by decide +kernel
theorem d_X14_stepMore_315 : decode b_X14_stepMore 315 = .ok (.aload_n 0, 1) := by decide +kernel
theorem d_X14_stepMore_316 : decode b_X14_stepMore 316 = .ok (.iload_n 2, 1) := by decide +kernel
theorem d_X14_stepMore_317 : decode b_X14_stepMore 317 = .ok (.invokevirtual 799, 3) := by decide +kernel
theorem d_X14_stepMore_320 : decode b_X14_stepMore 320 = .ok (.aload_n 0, 1) := by decide +kernel
theorem d_X14_stepMore_321 : decode b_X14_stepMore 321 = .ok (.getfield 41, 3) := by decide +kernel
theorem d_X14_stepMore_324 : decode b_X14_stepMore 324 = .ok (.iload_n 1, 1) := by decide +kernel
theorem d_X14_stepMore_325 : decode b_X14_stepMore 325 = .ok (.iconst 2, 1) := by decide +kernel
theorem d_X14_stepMore_326 : decode b_X14_stepMore 326 = .ok (.iadd, 1) := by decide +kernel
theorem d_X14_stepMore_327 : decode b_X14_stepMore 327 = .ok (.iaload, 1) := by decide +kernel
theorem d_X14_stepMore_328 : decode b_X14_stepMore 328 = .ok (.iadd, 1) := by decide +kernel
theorem d_X14_stepMore_329 : decode b_X14_stepMore 329 = .ok (.istore_n 3, 1) := by decide +kernel
theorem d_X14_stepMore_330 : decode b_X14_stepMore 330 = .ok (.aload_n 0, 1) := by decide +kernel
theorem d_X14_stepMore_331 : decode b_X14_stepMore 331 = .ok (.iload_n 2, 1) := by decide +kernel
theorem d_X14_stepMore_332 : decode b_X14_stepMore 332 = .ok (.iload_n 3, 1) := by decide +kernel
theorem d_X14_stepMore_333 : decode b_X14_stepMore 333 = .ok (.invokevirtual 790, 3) := by decide +kernel
theorem d_X14_stepMore_336 : decode b_X14_stepMore 336 = .ok (.aload_n 0, 1) := by decide +kernel
theorem d_X14_stepMore_337 : decode b_X14_stepMore 337 = .ok (.aload_n 0, 1) := by decide +kernel
theorem d_X14_stepMore_338 : decode b_X14_stepMore 338 = .ok (.getfield 41, 3) := by decide +kernel
theorem d_X14_stepMore_341 : decode b_X14_stepMore 341 = .ok (.iload_n 1, 1) := by decide +kernel
theorem d_X14_stepMore_342 : decode b_X14_stepMore 342 = .ok (.iconst 3, 1) := by decide +kernel
theorem d_X14_stepMore_343 : decode b_X14_stepMore 343 = .ok (.iadd, 1) := by decide +kernel
theorem d_X14_stepMore_344 : decode b_X14_stepMore 344 = .ok (.iaload, 1) := by decide +kernel
theorem d_X14_stepMore_345 : decode b_X14_stepMore 345 = .ok (.ifCond .ne 7, 3) := by decide +kernel
theorem d_X14_stepMore_348 : decode b_X14_stepMore 348 = .ok (.iload_n 3, 1) := by decide +kernel
theorem d_X14_stepMore_349 : decode b_X14_stepMore 349 = .ok (.goto 13, 3) := by decide +kernel
theorem d_X14_stepMore_352 : decode b_X14_stepMore 352 = .ok (.iload_n 3, 1) := by decide +kernel
theorem d_X14_stepMore_353 : decode b_X14_stepMore 353 = .ok (.aload_n 0, 1) := by decide +kernel
theorem d_X14_stepMore_354 : decode b_X14_stepMore 354 = .ok (.getfield 41, 3) := by decide +kernel
theorem d_X14_stepMore_357 : decode b_X14_stepMore 357 = .ok (.iload_n 1, 1) := by decide +kernel
theorem d_X14_stepMore_358 : decode b_X14_stepMore 358 = .ok (.iconst 2, 1) := by decide +kernel
theorem d_X14_stepMore_359 : decode b_X14_stepMore 359 = .ok (.iadd, 1) := by decide +kernel
theorem d_X14_stepMore_360 : decode b_X14_stepMore 360 = .ok (.iaload, 1) := by decide +kernel
theorem d_X14_stepMore_361 : decode b_X14_stepMore 361 = .ok (.isub, 1) := by decide +kernel
theorem d_X14_stepMore_362 : decode b_X14_stepMore 362 = .ok (.invokevirtual 796, 3) := by decide +kernel
theorem d_X14_stepMore_365 : decode b_X14_stepMore 365 = .ok (.iload_n 1, 1) := by decide +kernel
theorem d_X14_stepMore_366 : decode b_X14_stepMore 366 = .ok (.iconst 4, 1) := by decide +kernel
theorem d_X14_stepMore_367 : decode b_X14_stepMore 367 = .ok (.iadd, 1) := by decide +kernel
theorem d_X14_stepMore_368 : decode b_X14_stepMore 368 = .ok (.ireturn, 1) := by decide +kernel
theorem d_X14_stepMore_369 : decode b_X14_stepMore 369 = .ok (.aload_n 0, 1) := by decide +kernel
theorem d_X14_stepMore_370 : decode b_X14_stepMore 370 = .ok (.iload_n 1, 1) := by decide +kernel
theorem d_X14_stepMore_371 : decode b_X14_stepMore 371 = .ok (.iload_n 2, 1) := by decide +kernel
theorem d_X14_stepMore_372 : decode b_X14_stepMore 372 = .ok (.aload_n 0, 1) := by decide +kernel
theorem d_X14_stepMore_373 : decode b_X14_stepMore 373 = .ok (.getfield 41, 3) := by decide +kernel
theorem d_X14_stepMore_376 : decode b_X14_stepMore 376 = .ok (.iload_n 1, 1) := by decide +kernel
theorem d_X14_stepMore_377 : decode b_X14_stepMore 377 = .ok (.iconst 2, 1) := by decide +kernel
theorem d_X14_stepMore_378 : decode b_X14_stepMore 378 = .ok (.iadd, 1) := by decide +kernel
theorem d_X14_stepMore_379 : decode b_X14_stepMore 379 = .ok (.iaload, 1) := by decide +kernel
theorem d_X14_stepMore_380 : decode b_X14_stepMore 380 = .ok (.invokevirtual 817, 3) := by decide +kernel
theorem d_X14_stepMore_383 : decode b_X14_stepMore 383 = .ok (.ireturn, 1) := by decide +kernel
theorem d_X14_stepMore_384 : decode b_X14_stepMore 384 = .ok (.aload_n 0, 1) := by decide +kernel
theorem d_X14_stepMore_385 : decode b_X14_stepMore 385 = .ok (.aload_n 0, 1) := by decide +kernel
theorem d_X14_stepMore_386 : decode b_X14_stepMore 386 = .ok (.getfield 41, 3) := by decide +kernel
theorem d_X14_stepMore_389 : decode b_X14_stepMore 389 = .ok (.iload_n 1, 1) := by decide +kernel
theorem d_X14_stepMore_390 : decode b_X14_stepMore 390 = .ok (.iaload, 1) := by decide +kernel
theorem d_X14_stepMore_391 : decode b_X14_stepMore 391 = .ok (.bipush 21, 2) := by decide +kernel
theorem d_X14_stepMore_393 : decode b_X14_stepMore 393 = .ok (.if_icmp .ne 7, 3) := by decide +kernel
theorem d_X14_stepMore_396 : decode b_X14_stepMore 396 = .ok (.iconst 1, 1) := by decide +kernel
theorem d_X14_stepMore_397 : decode b_X14_stepMore 397 = .ok (.goto 4, 3) := by decide +kernel
theorem d_X14_stepMore_400 : decode b_X14_stepMore 400 = .ok (.iconst 0, 1) := by decide +kernel
theorem d_X14_stepMore_401 : decode b_X14_stepMore 401 = .ok (.invokevirtual 819, 3) := by decide +kernel
theorem d_X14_stepMore_404 : decode b_X14_stepMore 404 = .ok (.ireturn, 1) := by decide +kernel
theorem d_X14_isCell_0 : decode b_X14_isCell 0 = .ok (.iload_n 0, 1) := by decide +kernel
theorem d_X14_isCell_1 : decode b_X14_isCell 1 = .ok (.bipush 16, 2) := by decide +kernel
theorem d_X14_isCell_3 : decode b_X14_isCell 3 = .ok (.if_icmp .lt 13, 3) := by decide +kernel
theorem d_X14_isCell_6 : decode b_X14_isCell 6 = .ok (.iload_n 0, 1) := by decide +kernel
theorem d_X14_isCell_7 : decode b_X14_isCell 7 = .ok (.ldc 168, 2) := by decide +kernel
theorem d_X14_isCell_9 : decode b_X14_isCell 9 = .ok (.if_icmp .ge 7, 3) := by decide +kernel
theorem d_X14_isCell_12 : decode b_X14_isCell 12 = .ok (.iconst 1, 1) := by decide +kernel
theorem d_X14_isCell_13 : decode b_X14_isCell 13 = .ok (.goto 4, 3) := by decide +kernel
theorem d_X14_isCell_16 : decode b_X14_isCell 16 = .ok (.iconst 0, 1) := by decide +kernel
theorem d_X14_isCell_17 : decode b_X14_isCell 17 = .ok (.ireturn, 1) := by decide +kernel
theorem d_X14_call_1_0 : decode b_X14_call_1 0 = .ok (.aload_n 0, 1) := by decide +kernel
theorem d_X14_call_1_1 : decode b_X14_call_1 1 = .ok (.getfield 102, 3) := by decide +kernel
theorem d_X14_call_1_4 : decode b_X14_call_1 4 = .ok (.aload_n 0, 1) := by decide +kernel
theorem d_X14_call_1_5 : decode b_X14_call_1 5 = .ok (.getfield 182, 3) := by decide +kernel
theorem d_X14_call_1_8 : decode b_X14_call_1 8 = .ok (.aload_n 0, 1) := by decide +kernel
theorem d_X14_call_1_9 : decode b_X14_call_1 9 = .ok (.getfield 771, 3) := by decide +kernel
theorem d_X14_call_1_12 : decode b_X14_call_1 12 = .ok (.iconst 1, 1) := by decide +kernel
theorem d_X14_call_1_13 : decode b_X14_call_1 13 = .ok (.isub, 1) := by decide +kernel
theorem d_X14_call_1_14 : decode b_X14_call_1 14 = .ok (.iaload, 1) := by decide +kernel
theorem d_X14_call_1_15 : decode b_X14_call_1 15 = .ok (.iaload, 1) := by decide +kernel
theorem d_X14_call_1_16 : decode b_X14_call_1 16 = .ok (.istore 4, 2) := by decide +kernel
theorem d_X14_call_1_18 : decode b_X14_call_1 18 = .ok (.aload_n 0, 1) := by decide +kernel
theorem d_X14_call_1_19 : decode b_X14_call_1 19 = .ok (.getfield 159, 3) := by decide +kernel
theorem d_X14_call_1_22 : decode b_X14_call_1 22 = .ok (.aload_n 0, 1) := by decide +kernel
theorem d_X14_call_1_23 : decode b_X14_call_1 23 = .ok (.getfield 86, 3) := by decide +kernel
theorem d_X14_call_1_26 : decode b_X14_call_1 26 = .ok (.iload 4, 2) := by decide +kernel
theorem d_X14_call_1_28 : decode b_X14_call_1 28 = .ok (.iaload, 1) := by decide +kernel
theorem d_X14_call_1_29 : decode b_X14_call_1 29 = .ok (.iload_n 2, 1) := by decide +kernel
theorem d_X14_call_1_30 : decode b_X14_call_1 30 = .ok (.iadd, 1) := by decide +kernel
theorem d_X14_call_1_31 : decode b_X14_call_1 31 = .ok (.iaload, 1) := by decide +kernel
theorem d_X14_call_1_32 : decode b_X14_call_1 32 = .ok (.istore 5, 2) := by decide +kernel
theorem d_X14_call_1_34 : decode b_X14_call_1 34 = .ok (.iload 5, 2) := by decide +kernel
theorem d_X14_call_1_36 : decode b_X14_call_1 36 = .ok (.ifCond .ge 16, 3) := by decide +kernel
theorem d_X14_call_1_39 : decode b_X14_call_1 39 = .ok (.aload_n 0, 1) := by decide +kernel
theorem d_X14_call_1_40 : decode b_X14_call_1 40 = .ok (.iconst (-1), 1) := by decide +kernel
theorem d_X14_call_1_41 : decode b_X14_call_1 41 = .ok (.iload 5, 2) := by decide +kernel
theorem d_X14_call_1_43 : decode b_X14_call_1 43 = .ok (.isub, 1) := by decide +kernel
theorem d_X14_call_1_44 : decode b_X14_call_1 44 = .ok (.iload_n 3, 1) := by decide +kernel
theorem d_X14_call_1_45 : decode b_X14_call_1 45 = .ok (.invokevirtual 823, 3) := by decide +kernel
theorem d_X14_call_1_48 : decode b_X14_call_1 48 = .ok (.iload_n 1, 1) := by decide +kernel
theorem d_X14_call_1_49 : decode b_X14_call_1 49 = .ok (.iconst 3, 1) := by decide +kernel
theorem d_X14_call_1_50 : decode b_X14_call_1 50 = .ok (.iadd, 1) := by decide +kernel
theorem d_X14_call_1_51 : decode b_X14_call_1 51 = .ok (.ireturn, 1) := by decide +kernel
theorem d_X14_call_1_52 : decode b_X14_call_1 52 = .ok (.aload_n 0, 1) := by decide +kernel
theorem d_X14_call_1_53 : decode b_X14_call_1 53 = .ok (.iload 5, 2) := by decide +kernel
theorem d_X14_call_1_55 : decode b_X14_call_1 55 = .ok (.iload_n 1, 1) := by decide +kernel
theorem d_X14_call_1_56 : decode b_X14_call_1 56 = .ok (.iconst 3, 1) := by decide +kernel
theorem d_X14_call_1_57 : decode b_X14_call_1 57 = .ok (.iadd, 1) := by decide +kernel
theorem d_X14_call_1_58 : decode b_X14_call_1 58 = .ok (.iload 4, 2) := by decide +kernel
theorem d_X14_call_1_60 : decode b_X14_call_1 60 = .ok (.iconst 1, 1) := by decide +kernel
theorem d_X14_call_1_61 : decode b_X14_call_1 61 = .ok (.iadd, 1) := by decide +kernel
theorem d_X14_call_1_62 : decode b_X14_call_1 62 = .ok (.iload_n 3, 1) := by decide +kernel
theorem d_X14_call_1_63 : decode b_X14_call_1 63 = .ok (.invokevirtual 777, 3) := by decide +kernel
theorem d_X14_call_1_66 : decode b_X14_call_1 66 = .ok (.aload_n 0, 1) := by decide +kernel
theorem d_X14_call_1_67 : decode b_X14_call_1 67 = .ok (.getfield 774, 3) := by decide +kernel
theorem d_X14_call_1_70 : decode b_X14_call_1 70 = .ok (.ifCond .ge 13, 3) := by decide +kernel
theorem d_X14_call_1_73 : decode b_X14_call_1 73 = .ok (.aload_n 0, 1) := by decide +kernel
theorem d_X14_call_1_74 : decode b_X14_call_1 74 = .ok (.getfield 99, 3) := by decide +kernel
theorem d_X14_call_1_77 : decode b_X14_call_1 77 = .ok (.iload 5, 2) := by decide +kernel
theorem d_X14_call_1_79 : decode b_X14_call_1 79 = .ok (.iaload, 1) := by decide +kernel
theorem d_X14_call_1_80 : decode b_X14_call_1 80 = .ok (.goto 4, 3) := by decide +kernel
theorem d_X14_call_1_83 : decode b_X14_call_1 83 = .ok (.iload_n 1, 1) := by decide +kernel
theorem d_X14_call_1_84 : decode b_X14_call_1 84 = .ok (.ireturn, 1) := by decide +kernel
theorem d_X14_library_1_0 : decode b_X14_library_1 0 = .ok (.iload_n 1, 1) := by decide +kernel
theorem d_X14_library_1_1 : decode b_X14_library_1 1 = .ok (.ifCond .ne 57, 3) := by decide +kernel
theorem d_X14_library_1_4 : decode b_X14_library_1 4 = .ok (.aload_n 0, 1) := by decide +kernel
theorem d_X14_library_1_5 : decode b_X14_library_1 5 = .ok (.aload_n 0, 1) := by decide +kernel
theorem d_X14_library_1_6 : decode b_X14_library_1 6 = .ok (.getfield 750, 3) := by decide +kernel
theorem d_X14_library_1_9 : decode b_X14_library_1 9 = .ok (.aload_n 0, 1) := by decide +kernel
theorem d_X14_library_1_10 : decode b_X14_library_1 10 = .ok (.getfield 741, 3) := by decide +kernel
theorem d_X14_library_1_13 : decode b_X14_library_1 13 = .ok (.if_icmp .ge 19, 3) := by decide +kernel
theorem d_X14_library_1_16 : decode b_X14_library_1 16 = .ok (.aload_n 0, 1) := by decide +kernel
theorem d_X14_library_1_17 : decode b_X14_library_1 17 = .ok (.getfield 188, 3) := by decide +kernel
theorem d_X14_library_1_20 : decode b_X14_library_1 20 = .ok (.aload_n 0, 1) := by decide +kernel
theorem d_X14_library_1_21 : decode b_X14_library_1 21 = .ok (.getfield 750, 3) := by decide +kernel
theorem d_X14_library_1_24 : decode b_X14_library_1 24 = .ok (.baload, 1) := by decide +kernel
theorem d_X14_library_1_25 : decode b_X14_library_1 25 = .ok (.sipush 255, 3) := by decide +kernel
theorem d_X14_library_1_28 : decode b_X14_library_1 28 = .ok (.iand, 1) := by decide +kernel
theorem d_X14_library_1_29 : decode b_X14_library_1 29 = .ok (.goto 4, 3) := by decide +kernel
theorem d_X14_library_1_32 : decode b_X14_library_1 32 = .ok (.iconst (-1), 1) := by decide +kernel
theorem d_X14_library_1_33 : decode b_X14_library_1 33 = .ok (.invokevirtual 796, 3) := by decide +kernel
theorem d_X14_library_1_36 : decode b_X14_library_1 36 = .ok (.aload_n 0, 1) := by decide +kernel
theorem d_X14_library_1_37 : decode b_X14_library_1 37 = .ok (.getfield 750, 3) := by decide +kernel
theorem d_X14_library_1_40 : decode b_X14_library_1 40 = .ok (.aload_n 0, 1) := by decide +kernel
theorem d_X14_library_1_41 : decode b_X14_library_1 41 = .ok (.getfield 741, 3) := by decide +kernel
theorem d_X14_library_1_44 : decode b_X14_library_1 44 = .ok (.if_icmp .ge 13, 3) := by decide +kernel
theorem d_X14_library_1_47 : decode b_X14_library_1 47 = .ok (.aload_n 0, 1) := by decide +kernel
theorem d_X14_library_1_48 : decode b_X14_library_1 48 = .ok (.dup, 1) := by decide +kernel
theorem d_X14_library_1_49 : decode b_X14_library_1 49 = .ok (.getfield 750, 3) := by decide +kernel
theorem d_X14_library_1_52 : decode b_X14_library_1 52 = .ok (.iconst 1, 1) := by decide +kernel
theorem d_X14_library_1_53 : decode b_X14_library_1 53 = .ok (.iadd, 1) := by decide +kernel
theorem d_X14_library_1_54 : decode b_X14_library_1 54 = .ok (.putfield 750, 3) := by decide +kernel
theorem d_X14_library_1_57 : decode b_X14_library_1 57 = .ok (.return_, 1) := by decide +kernel
theorem d_X14_library_1_58 : decode b_X14_library_1 58 = .ok (.aload_n 0, 1) := by decide +kernel
theorem d_X14_library_1_59 : decode b_X14_library_1 59 = .ok (.invokevirtual 805, 3) := by decide +kernel
theorem d_X14_library_1_62 : decode b_X14_library_1 62 = .ok (.istore_n 3, 1) := by decide +kernel
theorem d_X14_library_1_63 : decode b_X14_library_1 63 = .ok (.iload_n 1, 1) := by decide +kernel
theorem d_X14_library_1_64 : decode b_X14_library_1 64 = .ok (.iconst 1, 1) := by decide +kernel
theorem d_X14_library_1_65 : decode b_X14_library_1 65 = .ok (.if_icmp .ne 12, 3) := by decide +kernel
theorem d_X14_library_1_68 : decode b_X14_library_1 68 = .ok (.aload_n 0, 1) := by decide +kernel
theorem d_X14_library_1_69 : decode b_X14_library_1 69 = .ok (.iload_n 3, 1) := by decide +kernel
theorem d_X14_library_1_70 : decode b_X14_library_1 70 = .ok (.iload_n 2, 1) := by decide +kernel
theorem d_X14_library_1_71 : decode b_X14_library_1 71 = .ok (.invokevirtual 825, 3) := by decide +kernel
theorem d_X14_library_1_74 : decode b_X14_library_1 74 = .ok (.goto 27, 3) := by decide +kernel
theorem d_X14_library_1_77 : decode b_X14_library_1 77 = .ok (.iload_n 1, 1) := by decide +kernel
theorem d_X14_library_1_78 : decode b_X14_library_1 78 = .ok (.iconst 2, 1) := by decide +kernel
theorem d_X14_library_1_79 : decode b_X14_library_1 79 = .ok (.if_icmp .ne 12, 3) := by decide +kernel
theorem d_X14_library_1_82 : decode b_X14_library_1 82 = .ok (.aload_n 0, 1) := by decide +kernel
theorem d_X14_library_1_83 : decode b_X14_library_1 83 = .ok (.iload_n 3, 1) := by decide +kernel
theorem d_X14_library_1_84 : decode b_X14_library_1 84 = .ok (.iload_n 2, 1) := by decide +kernel
theorem d_X14_library_1_85 : decode b_X14_library_1 85 = .ok (.invokevirtual 828, 3) := by decide +kernel
theorem d_X14_library_1_88 : decode b_X14_library_1 88 = .ok (.goto 13, 3) := by decide +kernel
theorem d_X14_library_1_91 : decode b_X14_library_1 91 = .ok (.aload_n 0, 1) := by decide +kernel
theorem d_X14_library_1_92 : decode b_X14_library_1 92 = .ok (.iload_n 3, 1) := by decide +kernel
theorem d_X14_library_1_93 : decode b_X14_library_1 93 = .ok (.putfield 759, 3) := by decide +kernel
theorem d_X14_library_1_96 : decode b_X14_library_1 96 = .ok (.aload_n 0, 1) := by decide +kernel
theorem d_X14_library_1_97 : decode b_X14_library_1 97 = .ok (.iconst 5, 1) := by decide +kernel
theorem d_X14_library_1_98 : decode b_X14_library_1 98 = .ok (.putfield 774, 3) := by decide +kernel
theorem d_X14_library_1_101 : decode b_X14_library_1 101 = .ok (.return_, 1) := by decide +kernel
theorem d_X14_emit_0 : decode b_X14_emit 0 = .ok (.aload_n 0, 1) := by decide +kernel
theorem d_X14_emit_1 : decode b_X14_emit 1 = .ok (.getfield 753, 3) := by decide +kernel
theorem d_X14_emit_4 : decode b_X14_emit 4 = .ok (.sipush 4096, 3) := by decide +kernel
theorem d_X14_emit_7 : decode b_X14_emit 7 = .ok (.if_icmp .ne 18, 3) := by decide +kernel
theorem d_X14_emit_10 : decode b_X14_emit 10 = .ok (.aload_n 0, 1) := by decide +kernel
theorem d_X14_emit_11 : decode b_X14_emit 11 = .ok (.getfield 774, 3) := by decide +kernel
theorem d_X14_emit_14 : decode b_X14_emit 14 = .ok (.ifCond .ge 10, 3) := by decide +kernel
theorem d_X14_emit_17 : decode b_X14_emit 17 = .ok (.aload_n 0, 1) := by decide +kernel
theorem d_X14_emit_18 : decode b_X14_emit 18 = .ok (.bipush 6, 2) := by decide +kernel
theorem d_X14_emit_20 : decode b_X14_emit 20 = .ok (.iload_n 2, 1) := by decide +kernel
theorem d_X14_emit_21 : decode b_X14_emit 21 = .ok (.invokevirtual 808, 3) := by decide +kernel
theorem d_X14_emit_24 : decode b_X14_emit 24 = .ok (.return_, 1) := by decide +kernel
theorem d_X14_emit_25 : decode b_X14_emit 25 = .ok (.aload_n 0, 1) := by decide +kernel
theorem d_X14_emit_26 : decode b_X14_emit 26 = .ok (.getfield 191, 3) := by decide +kernel
theorem d_X14_emit_29 : decode b_X14_emit 29 = .ok (.aload_n 0, 1) := by decide +kernel
theorem d_X14_emit_30 : decode b_X14_emit 30 = .ok (.getfield 753, 3) := by decide +kernel
theorem d_X14_emit_33 : decode b_X14_emit 33 = .ok (.iload_n 1, 1) := by decide +kernel
theorem d_X14_emit_34 : decode b_X14_emit 34 = .ok (.i2b, 1) := by decide +kernel
theorem d_X14_emit_35 : decode b_X14_emit 35 = .ok (.bastore, 1) := by decide +kernel
theorem d_X14_emit_36 : decode b_X14_emit 36 = .ok (.aload_n 0, 1) := by decide +kernel
theorem d_X14_emit_37 : decode b_X14_emit 37 = .ok (.dup, 1) := by decide +kernel
theorem d_X14_emit_38 : decode b_X14_emit 38 = .ok (.getfield 753, 3) := by decide +kernel
theorem d_X14_emit_41 : decode b_X14_emit 41 = .ok (.iconst 1, 1) := by decide +kernel
theorem d_X14_emit_42 : decode b_X14_emit 42 = .ok (.iadd, 1) := by decide +kernel
theorem d_X14_emit_43 : decode b_X14_emit 43 = .ok (.putfield 753, 3) := by decide +kernel
theorem d_X14_emit_46 : decode b_X14_emit 46 = .ok (.return_, 1) := by decide +kernel
theorem d_X14_print_0 : decode b_X14_print 0 = .ok (.iload_n 1, 1) := by decide +kernel
theorem d_X14_print_1 : decode b_X14_print 1 = .ok (.i2l, 1) := by decide +kernel
theorem d_X14_print_2 : decode b_X14_print 2 = .ok (.lstore_n 3, 1) := by decide +kernel
theorem d_X14_print_3 : decode b_X14_print 3 = .ok (.lload_n 3, 1) := by decide +kernel
theorem d_X14_print_4 : decode b_X14_print 4 = .ok (.lconst 0, 1) := by decide +kernel
theorem d_X14_print_5 : decode b_X14_print 5 = .ok (.lcmp, 1) := by decide +kernel
theorem d_X14_print_6 : decode b_X14_print 6 = .ok (.ifCond .ge 13, 3) := by decide +kernel
theorem d_X14_print_9 : decode b_X14_print 9 = .ok (.aload_n 0, 1) := by decide +kernel
theorem d_X14_print_10 : decode b_X14_print 10 = .ok (.bipush 45, 2) := by decide +kernel
theorem d_X14_print_12 : decode b_X14_print 12 = .ok (.iload_n 2, 1) := by decide +kernel
theorem d_X14_print_13 : decode b_X14_print 13 = .ok (.invokevirtual 825, 3) := by decide +kernel
theorem d_X14_print_16 : decode b_X14_print 16 = .ok (.lload_n 3, 1) := by decide +kernel
theorem d_X14_print_17 : decode b_X14_print 17 = .ok (.lneg, 1) := by decide +kernel
theorem d_X14_print_18 : decode b_X14_print 18 = .ok (.lstore_n 3, 1) := by decide +kernel
theorem d_X14_print_19 : decode b_X14_print 19 = .ok (.lconst 1, 1) := by decide +kernel
theorem d_X14_print_20 : decode b_X14_print 20 = .ok (.lstore 5, 2) := by decide +kernel
theorem d_X14_print_22 : decode b_X14_print 22 = .ok (.lload_n 3, 1) := by decide +kernel
theorem d_X14_print_23 : decode b_X14_print 23 = .ok (.lload 5, 2) := by decide +kernel
theorem d_X14_print_25 : decode b_X14_print 25 = .ok (.ldiv, 1) := by decide +kernel
theorem d_X14_print_26 : decode b_X14_print 26 = .ok (.ldc2_w 279, 3) := by decide +kernel
theorem d_X14_print_29 : decode b_X14_print 29 = .ok (.lcmp, 1) := by decide +kernel
theorem d_X14_print_30 : decode b_X14_print 30 = .ok (.ifCond .lt 14, 3) := by decide +kernel
theorem d_X14_print_33 : decode b_X14_print 33 = .ok (.lload 5, 2) := by decide +kernel
theorem d_X14_print_35 : decode b_X14_print 35 = .ok (.ldc2_w 279, 3) := by decide +kernel
theorem d_X14_print_38 : decode b_X14_print 38 = .ok (.lmul, 1) := by decide +kernel
theorem d_X14_print_39 : decode b_X14_print 39 = .ok (.lstore 5, 2) := by decide +kernel
theorem d_X14_print_41 : decode b_X14_print 41 = .ok (.goto (-19), 3) := by decide +kernel
theorem d_X14_print_44 : decode b_X14_print 44 = .ok (.lload 5, 2) := by decide +kernel
theorem d_X14_print_46 : decode b_X14_print 46 = .ok (.lconst 0, 1) := by decide +kernel
theorem d_X14_print_47 : decode b_X14_print 47 = .ok (.lcmp, 1) := by decide +kernel
theorem d_X14_print_48 : decode b_X14_print 48 = .ok (.ifCond .le 32, 3) := by decide +kernel
theorem d_X14_print_51 : decode b_X14_print 51 = .ok (.aload_n 0, 1) := by decide +kernel
theorem d_X14_print_52 : decode b_X14_print 52 = .ok (.ldc2_w 281, 3) := by decide +kernel
theorem d_X14_print_55 : decode b_X14_print 55 = .ok (.lload_n 3, 1) := by decide +kernel
theorem d_X14_print_56 : decode b_X14_print 56 = .ok (.lload 5, 2) := by decide +kernel
theorem d_X14_print_58 : decode b_X14_print 58 = .ok (.ldiv, 1) := by decide +kernel
theorem d_X14_print_59 : decode b_X14_print 59 = .ok (.ldc2_w 279, 3) := by decide +kernel
theorem d_X14_print_62 : decode b_X14_print 62 = .ok (.lrem, 1) := by decide +kernel
theorem d_X14_print_63 : decode b_X14_print 63 = .ok (.ladd, 1) := by decide +kernel
theorem d_X14_print_64 : decode b_X14_print 64 = .ok (.l2i, 1) := by decide +kernel
theorem d_X14_print_65 : decode b_X14_print 65 = .ok (.iload_n 2, 1) := by decide +kernel
theorem d_X14_print_66 : decode b_X14_print 66 = .ok (.invokevirtual 825, 3) := by decide +kernel
theorem d_X14_print_69 : decode b_X14_print 69 = .ok (.lload 5, 2) := by decide +kernel
theorem d_X14_print_71 : decode b_X14_print 71 = .ok (.ldc2_w 279, 3) := by decide +kernel
theorem d_X14_print_74 : decode b_X14_print 74 = .ok (.ldiv, 1) := by decide +kernel
theorem d_X14_print_75 : decode b_X14_print 75 = .ok (.lstore 5, 2) := by decide +kernel
theorem d_X14_print_77 : decode b_X14_print 77 = .ok (.goto (-33), 3) := by decide +kernel
theorem d_X14_print_80 : decode b_X14_print 80 = .ok (.return_, 1) := by decide +kernel
theorem d_X14_leave_0 : decode b_X14_leave 0 = .ok (.iload_n 1, 1) := by decide +kernel
theorem d_X14_leave_1 : decode b_X14_leave 1 = .ok (.ifCond .eq 10, 3) := by decide +kernel
theorem d_X14_leave_4 : decode b_X14_leave 4 = .ok (.aload_n 0, 1) := by decide +kernel
theorem d_X14_leave_5 : decode b_X14_leave 5 = .ok (.invokevirtual 805, 3) := by decide +kernel
theorem d_X14_leave_8 : decode b_X14_leave 8 = .ok (.goto 4, 3) := by decide +kernel
theorem d_X14_leave_11 : decode b_X14_leave 11 = .ok (.iconst 0, 1) := by decide +kernel
theorem d_X14_leave_12 : decode b_X14_leave 12 = .ok (.istore_n 2, 1) := by decide +kernel
theorem d_X14_leave_13 : decode b_X14_leave 13 = .ok (.aload_n 0, 1) := by decide +kernel
theorem d_X14_leave_14 : decode b_X14_leave 14 = .ok (.dup, 1) := by decide +kernel
theorem d_X14_leave_15 : decode b_X14_leave 15 = .ok (.getfield 771, 3) := by decide +kernel
theorem d_X14_leave_18 : decode b_X14_leave 18 = .ok (.iconst 1, 1) := by decide +kernel
theorem d_X14_leave_19 : decode b_X14_leave 19 = .ok (.isub, 1) := by decide +kernel
theorem d_X14_leave_20 : decode b_X14_leave 20 = .ok (.putfield 771, 3) := by decide +kernel
theorem d_X14_leave_23 : decode b_X14_leave 23 = .ok (.aload_n 0, 1) := by decide +kernel
theorem d_X14_leave_24 : decode b_X14_leave 24 = .ok (.getfield 771, 3) := by decide +kernel
theorem d_X14_leave_27 : decode b_X14_leave 27 = .ok (.ifCond .ne 15, 3) := by decide +kernel
theorem d_X14_leave_30 : decode b_X14_leave 30 = .ok (.aload_n 0, 1) := by decide +kernel
theorem d_X14_leave_31 : decode b_X14_leave 31 = .ok (.iload_n 2, 1) := by decide +kernel
theorem d_X14_leave_32 : decode b_X14_leave 32 = .ok (.putfield 759, 3) := by decide +kernel
theorem d_X14_leave_35 : decode b_X14_leave 35 = .ok (.aload_n 0, 1) := by decide +kernel
theorem d_X14_leave_36 : decode b_X14_leave 36 = .ok (.iconst 0, 1) := by decide +kernel
theorem d_X14_leave_37 : decode b_X14_leave 37 = .ok (.putfield 774, 3) := by decide +kernel
theorem d_X14_leave_40 : decode b_X14_leave 40 = .ok (.iconst 0, 1) := by decide +kernel
theorem d_X14_leave_41 : decode b_X14_leave 41 = .ok (.ireturn, 1) := by decide +kernel
theorem d_X14_leave_42 : decode b_X14_leave 42 = .ok (.iload_n 1, 1) := by decide +kernel
theorem d_X14_leave_43 : decode b_X14_leave 43 = .ok (.ifCond .eq 8, 3) := by decide +kernel
theorem d_X14_leave_46 : decode b_X14_leave 46 = .ok (.aload_n 0, 1) := by decide +kernel
theorem d_X14_leave_47 : decode b_X14_leave 47 = .ok (.iload_n 2, 1) := by decide +kernel
theorem d_X14_leave_48 : decode b_X14_leave 48 = .ok (.invokevirtual 796, 3) := by decide +kernel
theorem d_X14_leave_51 : decode b_X14_leave 51 = .ok (.aload_n 0, 1) := by decide +kernel
theorem d_X14_leave_52 : decode b_X14_leave 52 = .ok (.getfield 185, 3) := by decide +kernel
theorem d_X14_leave_55 : decode b_X14_leave 55 = .ok (.aload_n 0, 1) := by decide +kernel
theorem d_X14_leave_56 : decode b_X14_leave 56 = .ok (.getfield 771, 3) := by decide +kernel
theorem d_X14_leave_59 : decode b_X14_leave 59 = .ok (.iaload, 1) := by decide +kernel
theorem d_X14_leave_60 : decode b_X14_leave 60 = .ok (.ireturn, 1) := by decide +kernel
theorem d_X14_result_0 : decode b_X14_result 0 = .ok (.aload_n 0, 1) := by decide +kernel
theorem d_X14_result_1 : decode b_X14_result 1 = .ok (.getfield 759, 3) := by decide +kernel
theorem d_X14_result_4 : decode b_X14_result 4 = .ok (.ireturn, 1) := by decide +kernel
theorem d_X14_turns_0 : decode b_X14_turns 0 = .ok (.aload_n 0, 1) := by decide +kernel
theorem d_X14_turns_1 : decode b_X14_turns 1 = .ok (.getfield 756, 3) := by decide +kernel
theorem d_X14_turns_4 : decode b_X14_turns 4 = .ok (.ireturn, 1) := by decide +kernel
theorem d_X14_trap_0 : decode b_X14_trap 0 = .ok (.iload_n 1, 1) := by decide +kernel
theorem d_X14_trap_1 : decode b_X14_trap 1 = .ok (.ifCond .ne 10, 3) := by decide +kernel
theorem d_X14_trap_4 : decode b_X14_trap 4 = .ok (.aload_n 0, 1) := by decide +kernel
theorem d_X14_trap_5 : decode b_X14_trap 5 = .ok (.getfield 762, 3) := by decide +kernel
theorem d_X14_trap_8 : decode b_X14_trap 8 = .ok (.goto 16, 3) := by decide +kernel
theorem d_X14_trap_11 : decode b_X14_trap 11 = .ok (.iload_n 1, 1) := by decide +kernel
theorem d_X14_trap_12 : decode b_X14_trap 12 = .ok (.iconst 1, 1) := by decide +kernel
theorem d_X14_trap_13 : decode b_X14_trap 13 = .ok (.if_icmp .ne 10, 3) := by decide +kernel
theorem d_X14_trap_16 : decode b_X14_trap 16 = .ok (.aload_n 0, 1) := by decide +kernel
theorem d_X14_trap_17 : decode b_X14_trap 17 = .ok (.getfield 765, 3) := by decide +kernel
theorem d_X14_trap_20 : decode b_X14_trap 20 = .ok (.goto 4, 3) := by decide +kernel
theorem d_X14_trap_23 : decode b_X14_trap 23 = .ok (.iconst 0, 1) := by decide +kernel
theorem d_X14_trap_24 : decode b_X14_trap 24 = .ok (.ireturn, 1) := by decide +kernel
theorem d_X14_written_0 : decode b_X14_written 0 = .ok (.aload_n 0, 1) := by decide +kernel
theorem d_X14_written_1 : decode b_X14_written 1 = .ok (.getfield 753, 3) := by decide +kernel
theorem d_X14_written_4 : decode b_X14_written 4 = .ok (.ireturn, 1) := by decide +kernel
theorem d_X14_out_0 : decode b_X14_out 0 = .ok (.iload_n 1, 1) := by decide +kernel
theorem d_X14_out_1 : decode b_X14_out 1 = .ok (.ifCond .lt 24, 3) := by decide +kernel
theorem d_X14_out_4 : decode b_X14_out 4 = .ok (.iload_n 1, 1) := by decide +kernel
theorem d_X14_out_5 : decode b_X14_out 5 = .ok (.aload_n 0, 1) := by decide +kernel
theorem d_X14_out_6 : decode b_X14_out 6 = .ok (.getfield 753, 3) := by decide +kernel
theorem d_X14_out_9 : decode b_X14_out 9 = .ok (.if_icmp .ge 16, 3) := by decide +kernel
theorem d_X14_out_12 : decode b_X14_out 12 = .ok (.aload_n 0, 1) := by decide +kernel
theorem d_X14_out_13 : decode b_X14_out 13 = .ok (.getfield 191, 3) := by decide +kernel
theorem d_X14_out_16 : decode b_X14_out 16 = .ok (.iload_n 1, 1) := by decide +kernel
theorem d_X14_out_17 : decode b_X14_out 17 = .ok (.baload, 1) := by decide +kernel
theorem d_X14_out_18 : decode b_X14_out 18 = .ok (.sipush 255, 3) := by decide +kernel
theorem d_X14_out_21 : decode b_X14_out 21 = .ok (.iand, 1) := by decide +kernel
theorem d_X14_out_22 : decode b_X14_out 22 = .ok (.goto 4, 3) := by decide +kernel
theorem d_X14_out_25 : decode b_X14_out 25 = .ok (.iconst (-1), 1) := by decide +kernel
theorem d_X14_out_26 : decode b_X14_out 26 = .ok (.ireturn, 1) := by decide +kernel
theorem d_X14_peek_0 : decode b_X14_peek 0 = .ok (.aload_n 0, 1) := by decide +kernel
theorem d_X14_peek_1 : decode b_X14_peek 1 = .ok (.getfield 744, 3) := by decide +kernel
theorem d_X14_peek_4 : decode b_X14_peek 4 = .ok (.ifCond .eq 22, 3) := by decide +kernel
theorem d_X14_peek_7 : decode b_X14_peek 7 = .ok (.iload_n 1, 1) := by decide +kernel
theorem d_X14_peek_8 : decode b_X14_peek 8 = .ok (.ifCond .lt 18, 3) := by decide +kernel
theorem d_X14_peek_11 : decode b_X14_peek 11 = .ok (.iload_n 1, 1) := by decide +kernel
theorem d_X14_peek_12 : decode b_X14_peek 12 = .ok (.ldc 168, 2) := by decide +kernel
theorem d_X14_peek_14 : decode b_X14_peek 14 = .ok (.if_icmp .ge 12, 3) := by decide +kernel
theorem d_X14_peek_17 : decode b_X14_peek 17 = .ok (.aload_n 0, 1) := by decide +kernel
theorem d_X14_peek_18 : decode b_X14_peek 18 = .ok (.getfield 169, 3) := by decide +kernel
theorem d_X14_peek_21 : decode b_X14_peek 21 = .ok (.iload_n 1, 1) := by decide +kernel
theorem d_X14_peek_22 : decode b_X14_peek 22 = .ok (.iaload, 1) := by decide +kernel
theorem d_X14_peek_23 : decode b_X14_peek 23 = .ok (.goto 4, 3) := by decide +kernel
theorem d_X14_peek_26 : decode b_X14_peek 26 = .ok (.iconst 0, 1) := by decide +kernel
theorem d_X14_peek_27 : decode b_X14_peek 27 = .ok (.ireturn, 1) := by decide +kernel
theorem d_X14_strays_0 : decode b_X14_strays 0 = .ok (.iconst 0, 1) := by decide +kernel
theorem d_X14_strays_1 : decode b_X14_strays 1 = .ok (.ireturn, 1) := by decide +kernel

