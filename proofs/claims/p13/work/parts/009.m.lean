theorem d_X14_isObject_2 : decode b_X14_isObject 2 = .ok (.if_icmp .lt 15, 3) := by decide +kernel
theorem d_X14_isObject_5 : decode b_X14_isObject 5 = .ok (.iload_n 1, 1) := by decide +kernel
theorem d_X14_isObject_6 : decode b_X14_isObject 6 = .ok (.aload_n 0, 1) := by decide +kernel
theorem d_X14_isObject_7 : decode b_X14_isObject 7 = .ok (.getfield 327, 3) := by decide +kernel
theorem d_X14_isObject_10 : decode b_X14_isObject 10 = .ok (.if_icmp .gt 7, 3) := by decide +kernel
theorem d_X14_isObject_13 : decode b_X14_isObject 13 = .ok (.iconst 1, 1) := by decide +kernel
theorem d_X14_isObject_14 : decode b_X14_isObject 14 = .ok (.goto 4, 3) := by decide +kernel
theorem d_X14_isObject_17 : decode b_X14_isObject 17 = .ok (.iconst 0, 1) := by decide +kernel
theorem d_X14_isObject_18 : decode b_X14_isObject 18 = .ok (.ireturn, 1) := by decide +kernel
theorem d_X14_isPointer_0 : decode b_X14_isPointer 0 = .ok (.aload_n 0, 1) := by decide +kernel
theorem d_X14_isPointer_1 : decode b_X14_isPointer 1 = .ok (.getfield 352, 3) := by decide +kernel
theorem d_X14_isPointer_4 : decode b_X14_isPointer 4 = .ok (.ifCond .le 7, 3) := by decide +kernel
theorem d_X14_isPointer_7 : decode b_X14_isPointer 7 = .ok (.iconst 1, 1) := by decide +kernel
theorem d_X14_isPointer_8 : decode b_X14_isPointer 8 = .ok (.goto 4, 3) := by decide +kernel
theorem d_X14_isPointer_11 : decode b_X14_isPointer 11 = .ok (.iconst 0, 1) := by decide +kernel
theorem d_X14_isPointer_12 : decode b_X14_isPointer 12 = .ok (.ireturn, 1) := by decide +kernel
theorem d_X14_isSame_0 : decode b_X14_isSame 0 = .ok (.aload_n 0, 1) := by decide +kernel
theorem d_X14_isSame_1 : decode b_X14_isSame 1 = .ok (.getfield 20, 3) := by decide +kernel
theorem d_X14_isSame_4 : decode b_X14_isSame 4 = .ok (.iload_n 1, 1) := by decide +kernel
theorem d_X14_isSame_5 : decode b_X14_isSame 5 = .ok (.iaload, 1) := by decide +kernel
theorem d_X14_isSame_6 : decode b_X14_isSame 6 = .ok (.aload_n 0, 1) := by decide +kernel
theorem d_X14_isSame_7 : decode b_X14_isSame 7 = .ok (.getfield 17, 3) := by decide +kernel
theorem d_X14_isSame_10 : decode b_X14_isSame 10 = .ok (.iload_n 1, 1) := by decide +kernel
theorem d_X14_isSame_11 : decode b_X14_isSame 11 = .ok (.iaload, 1) := by decide +kernel
theorem d_X14_isSame_12 : decode b_X14_isSame 12 = .ok (.isub, 1) := by decide +kernel
theorem d_X14_isSame_13 : decode b_X14_isSame 13 = .ok (.istore_n 3, 1) := by decide +kernel
theorem d_X14_isSame_14 : decode b_X14_isSame 14 = .ok (.aload_n 0, 1) := by decide +kernel
theorem d_X14_isSame_15 : decode b_X14_isSame 15 = .ok (.getfield 20, 3) := by decide +kernel
theorem d_X14_isSame_18 : decode b_X14_isSame 18 = .ok (.iload_n 2, 1) := by decide +kernel
theorem d_X14_isSame_19 : decode b_X14_isSame 19 = .ok (.iaload, 1) := by decide +kernel
theorem d_X14_isSame_20 : decode b_X14_isSame 20 = .ok (.aload_n 0, 1) := by decide +kernel
theorem d_X14_isSame_21 : decode b_X14_isSame 21 = .ok (.getfield 17, 3) := by decide +kernel
theorem d_X14_isSame_24 : decode b_X14_isSame 24 = .ok (.iload_n 2, 1) := by decide +kernel
theorem d_X14_isSame_25 : decode b_X14_isSame 25 = .ok (.iaload, 1) := by decide +kernel
theorem d_X14_isSame_26 : decode b_X14_isSame 26 = .ok (.isub, 1) := by decide +kernel
theorem d_X14_isSame_27 : decode b_X14_isSame 27 = .ok (.iload_n 3, 1) := by decide +kernel
theorem d_X14_isSame_28 : decode b_X14_isSame 28 = .ok (.if_icmp .eq 5, 3) := by decide +kernel
theorem d_X14_isSame_31 : decode b_X14_isSame 31 = .ok (.iconst 0, 1) := by decide +kernel
theorem d_X14_isSame_32 : decode b_X14_isSame 32 = .ok (.ireturn, 1) := by decide +kernel
theorem d_X14_isSame_33 : decode b_X14_isSame 33 = .ok (.iconst 0, 1) := by decide +kernel
theorem d_X14_isSame_34 : decode b_X14_isSame 34 = .ok (.istore 4, 2) := by decide +kernel
theorem d_X14_isSame_36 : decode b_X14_isSame 36 = .ok (.iload 4, 2) := by decide +kernel
theorem d_X14_isSame_38 : decode b_X14_isSame 38 = .ok (.iload_n 3, 1) := by decide +kernel
theorem d_X14_isSame_39 : decode b_X14_isSame 39 = .ok (.if_icmp .ge 42, 3) := by decide +kernel
theorem d_X14_isSame_42 : decode b_X14_isSame 42 = .ok (.aload_n 0, 1) := by decide +kernel
theorem d_X14_isSame_43 : decode b_X14_isSame 43 = .ok (.getfield 9, 3) := by decide +kernel
theorem d_X14_isSame_46 : decode b_X14_isSame 46 = .ok (.aload_n 0, 1) := by decide +kernel
theorem d_X14_isSame_47 : decode b_X14_isSame 47 = .ok (.getfield 17, 3) := by decide +kernel
theorem d_X14_isSame_50 : decode b_X14_isSame 50 = .ok (.iload_n 1, 1) := by decide +kernel
theorem d_X14_isSame_51 : decode b_X14_isSame 51 = .ok (.iaload, 1) := by decide +kernel
theorem d_X14_isSame_52 : decode b_X14_isSame 52 = .ok (.iload 4, 2) := by decide +kernel
theorem d_X14_isSame_54 : decode b_X14_isSame 54 = .ok (.iadd, 1) := by decide +kernel
theorem d_X14_isSame_55 : decode b_X14_isSame 55 = .ok (.baload, 1) := by decide +kernel
theorem d_X14_isSame_56 : decode b_X14_isSame 56 = .ok (.aload_n 0, 1) := by decide +kernel
theorem d_X14_isSame_57 : decode b_X14_isSame 57 = .ok (.getfield 9, 3) := by decide +kernel
theorem d_X14_isSame_60 : decode b_X14_isSame 60 = .ok (.aload_n 0, 1) := by decide +kernel
theorem d_X14_isSame_61 : decode b_X14_isSame 61 = .ok (.getfield 17, 3) := by decide +kernel
theorem d_X14_isSame_64 : decode b_X14_isSame 64 = .ok (.iload_n 2, 1) := by decide +kernel
theorem d_X14_isSame_65 : decode b_X14_isSame 65 = .ok (.iaload, 1) := by decide +kernel
theorem d_X14_isSame_66 : decode b_X14_isSame 66 = .ok (.iload 4, 2) := by decide +kernel
theorem d_X14_isSame_68 : decode b_X14_isSame 68 = .ok (.iadd, 1) := by decide +kernel
theorem d_X14_isSame_69 : decode b_X14_isSame 69 = .ok (.baload, 1) := by decide +kernel
theorem d_X14_isSame_70 : decode b_X14_isSame 70 = .ok (.if_icmp .eq 5, 3) := by decide +kernel
theorem d_X14_isSame_73 : decode b_X14_isSame 73 = .ok (.iconst 0, 1) := by decide +kernel
theorem d_X14_isSame_74 : decode b_X14_isSame 74 = .ok (.ireturn, 1) := by decide +kernel
theorem d_X14_isSame_75 : decode b_X14_isSame 75 = .ok (.iinc 4 1, 3) := by decide +kernel
theorem d_X14_isSame_78 : decode b_X14_isSame 78 = .ok (.goto (-42), 3) := by decide +kernel
theorem d_X14_isSame_81 : decode b_X14_isSame 81 = .ok (.iconst 1, 1) := by decide +kernel
theorem d_X14_isSame_82 : decode b_X14_isSame 82 = .ok (.ireturn, 1) := by decide +kernel
theorem d_X14_isSameHead_0 : decode b_X14_isSameHead 0 = .ok (.aload_n 0, 1) := by decide +kernel
theorem d_X14_isSameHead_1 : decode b_X14_isSameHead 1 = .ok (.getfield 47, 3) := by decide +kernel
theorem d_X14_isSameHead_4 : decode b_X14_isSameHead 4 = .ok (.iload_n 1, 1) := by decide +kernel
theorem d_X14_isSameHead_5 : decode b_X14_isSameHead 5 = .ok (.iaload, 1) := by decide +kernel
theorem d_X14_isSameHead_6 : decode b_X14_isSameHead 6 = .ok (.iload_n 2, 1) := by decide +kernel
theorem d_X14_isSameHead_7 : decode b_X14_isSameHead 7 = .ok (.if_icmp .ne 16, 3) := by decide +kernel
theorem d_X14_isSameHead_10 : decode b_X14_isSameHead 10 = .ok (.aload_n 0, 1) := by decide +kernel
theorem d_X14_isSameHead_11 : decode b_X14_isSameHead 11 = .ok (.getfield 63, 3) := by decide +kernel
theorem d_X14_isSameHead_14 : decode b_X14_isSameHead 14 = .ok (.iload_n 1, 1) := by decide +kernel
theorem d_X14_isSameHead_15 : decode b_X14_isSameHead 15 = .ok (.iaload, 1) := by decide +kernel
theorem d_X14_isSameHead_16 : decode b_X14_isSameHead 16 = .ok (.aload_n 0, 1) := by decide +kernel
theorem d_X14_isSameHead_17 : decode b_X14_isSameHead 17 = .ok (.getfield 647, 3) := by decide +kernel
theorem d_X14_isSameHead_20 : decode b_X14_isSameHead 20 = .ok (.if_icmp .eq 5, 3) := by decide +kernel
theorem d_X14_isSameHead_23 : decode b_X14_isSameHead 23 = .ok (.iconst 0, 1) := by decide +kernel
theorem d_X14_isSameHead_24 : decode b_X14_isSameHead 24 = .ok (.ireturn, 1) := by decide +kernel
theorem d_X14_isSameHead_25 : decode b_X14_isSameHead 25 = .ok (.iconst 0, 1) := by decide +kernel
theorem d_X14_isSameHead_26 : decode b_X14_isSameHead 26 = .ok (.istore_n 3, 1) := by decide +kernel
theorem d_X14_isSameHead_27 : decode b_X14_isSameHead 27 = .ok (.iload_n 3, 1) := by decide +kernel
theorem d_X14_isSameHead_28 : decode b_X14_isSameHead 28 = .ok (.aload_n 0, 1) := by decide +kernel
theorem d_X14_isSameHead_29 : decode b_X14_isSameHead 29 = .ok (.getfield 647, 3) := by decide +kernel
theorem d_X14_isSameHead_32 : decode b_X14_isSameHead 32 = .ok (.if_icmp .ge 31, 3) := by decide +kernel
theorem d_X14_isSameHead_35 : decode b_X14_isSameHead 35 = .ok (.aload_n 0, 1) := by decide +kernel
theorem d_X14_isSameHead_36 : decode b_X14_isSameHead 36 = .ok (.getfield 67, 3) := by decide +kernel
theorem d_X14_isSameHead_39 : decode b_X14_isSameHead 39 = .ok (.bipush 8, 2) := by decide +kernel
theorem d_X14_isSameHead_41 : decode b_X14_isSameHead 41 = .ok (.iload_n 1, 1) := by decide +kernel
theorem d_X14_isSameHead_42 : decode b_X14_isSameHead 42 = .ok (.imul, 1) := by decide +kernel
theorem d_X14_isSameHead_43 : decode b_X14_isSameHead 43 = .ok (.iload_n 3, 1) := by decide +kernel
theorem d_X14_isSameHead_44 : decode b_X14_isSameHead 44 = .ok (.iadd, 1) := by decide +kernel
theorem d_X14_isSameHead_45 : decode b_X14_isSameHead 45 = .ok (.iaload, 1) := by decide +kernel
theorem d_X14_isSameHead_46 : decode b_X14_isSameHead 46 = .ok (.aload_n 0, 1) := by decide +kernel
theorem d_X14_isSameHead_47 : decode b_X14_isSameHead 47 = .ok (.getfield 132, 3) := by decide +kernel
theorem d_X14_isSameHead_50 : decode b_X14_isSameHead 50 = .ok (.iload_n 3, 1) := by decide +kernel
theorem d_X14_isSameHead_51 : decode b_X14_isSameHead 51 = .ok (.iaload, 1) := by decide +kernel
theorem d_X14_isSameHead_52 : decode b_X14_isSameHead 52 = .ok (.if_icmp .eq 5, 3) := by decide +kernel
theorem d_X14_isSameHead_55 : decode b_X14_isSameHead 55 = .ok (.iconst 0, 1) := by decide +kernel
theorem d_X14_isSameHead_56 : decode b_X14_isSameHead 56 = .ok (.ireturn, 1) := by decide +kernel
theorem d_X14_isSameHead_57 : decode b_X14_isSameHead 57 = .ok (.iinc 3 1, 3) := by decide +kernel
theorem d_X14_isSameHead_60 : decode b_X14_isSameHead 60 = .ok (.goto (-33), 3) := by decide +kernel
theorem d_X14_isSameHead_63 : decode b_X14_isSameHead 63 = .ok (.iconst 1, 1) := by decide +kernel
theorem d_X14_isSameHead_64 : decode b_X14_isSameHead 64 = .ok (.ireturn, 1) := by decide +kernel
theorem d_X14_isSymbol_0 : decode b_X14_isSymbol 0 = .ok (.aload_n 0, 1) := by decide +kernel
theorem d_X14_isSymbol_1 : decode b_X14_isSymbol 1 = .ok (.getfield 53, 3) := by decide +kernel
theorem d_X14_isSymbol_4 : decode b_X14_isSymbol 4 = .ok (.iload_n 1, 1) := by decide +kernel
theorem d_X14_isSymbol_5 : decode b_X14_isSymbol 5 = .ok (.baload, 1) := by decide +kernel
theorem d_X14_isSymbol_6 : decode b_X14_isSymbol 6 = .ok (.ifCond .ne 17, 3) := by decide +kernel
theorem d_X14_isSymbol_9 : decode b_X14_isSymbol 9 = .ok (.aload_n 0, 1) := by decide +kernel
theorem d_X14_isSymbol_10 : decode b_X14_isSymbol 10 = .ok (.getfield 57, 3) := by decide +kernel
theorem d_X14_isSymbol_13 : decode b_X14_isSymbol 13 = .ok (.iload_n 1, 1) := by decide +kernel
theorem d_X14_isSymbol_14 : decode b_X14_isSymbol 14 = .ok (.baload, 1) := by decide +kernel
theorem d_X14_isSymbol_15 : decode b_X14_isSymbol 15 = .ok (.iload_n 2, 1) := by decide +kernel
theorem d_X14_isSymbol_16 : decode b_X14_isSymbol 16 = .ok (.if_icmp .ne 7, 3) := by decide +kernel
theorem d_X14_isSymbol_19 : decode b_X14_isSymbol 19 = .ok (.iconst 1, 1) := by decide +kernel
theorem d_X14_isSymbol_20 : decode b_X14_isSymbol 20 = .ok (.goto 4, 3) := by decide +kernel
theorem d_X14_isSymbol_23 : decode b_X14_isSymbol 23 = .ok (.iconst 0, 1) := by decide +kernel
theorem d_X14_isSymbol_24 : decode b_X14_isSymbol 24 = .ok (.ireturn, 1) := by decide +kernel
theorem d_X14_isTray_0 : decode b_X14_isTray 0 = .ok (.aload_n 0, 1) := by decide +kernel
theorem d_X14_isTray_1 : decode b_X14_isTray 1 = .ok (.getfield 76, 3) := by decide +kernel
theorem d_X14_isTray_4 : decode b_X14_isTray 4 = .ok (.iload_n 1, 1) := by decide +kernel
theorem d_X14_isTray_5 : decode b_X14_isTray 5 = .ok (.iaload, 1) := by decide +kernel
theorem d_X14_isTray_6 : decode b_X14_isTray 6 = .ok (.iload_n 2, 1) := by decide +kernel
theorem d_X14_isTray_7 : decode b_X14_isTray 7 = .ok (.if_icmp .eq 5, 3) := by decide +kernel
theorem d_X14_isTray_10 : decode b_X14_isTray 10 = .ok (.iconst 0, 1) := by decide +kernel
theorem d_X14_isTray_11 : decode b_X14_isTray 11 = .ok (.ireturn, 1) := by decide +kernel
theorem d_X14_isTray_12 : decode b_X14_isTray 12 = .ok (.iconst 0, 1) := by decide +kernel
theorem d_X14_isTray_13 : decode b_X14_isTray 13 = .ok (.istore_n 3, 1) := by decide +kernel
theorem d_X14_isTray_14 : decode b_X14_isTray 14 = .ok (.iload_n 3, 1) := by decide +kernel
theorem d_X14_isTray_15 : decode b_X14_isTray 15 = .ok (.iload_n 2, 1) := by decide +kernel
theorem d_X14_isTray_16 : decode b_X14_isTray 16 = .ok (.if_icmp .ge 33, 3) := by decide +kernel
theorem d_X14_isTray_19 : decode b_X14_isTray 19 = .ok (.aload_n 0, 1) := by decide +kernel
theorem d_X14_isTray_20 : decode b_X14_isTray 20 = .ok (.getfield 80, 3) := by decide +kernel
theorem d_X14_isTray_23 : decode b_X14_isTray 23 = .ok (.aload_n 0, 1) := by decide +kernel
theorem d_X14_isTray_24 : decode b_X14_isTray 24 = .ok (.getfield 73, 3) := by decide +kernel
theorem d_X14_isTray_27 : decode b_X14_isTray 27 = .ok (.iload_n 1, 1) := by decide +kernel
theorem d_X14_isTray_28 : decode b_X14_isTray 28 = .ok (.iaload, 1) := by decide +kernel
theorem d_X14_isTray_29 : decode b_X14_isTray 29 = .ok (.iload_n 3, 1) := by decide +kernel
theorem d_X14_isTray_30 : decode b_X14_isTray 30 = .ok (.iadd, 1) := by decide +kernel
theorem d_X14_isTray_31 : decode b_X14_isTray 31 = .ok (.baload, 1) := by decide +kernel
theorem d_X14_isTray_32 : decode b_X14_isTray 32 = .ok (.aload_n 0, 1) := by decide +kernel
theorem d_X14_isTray_33 : decode b_X14_isTray 33 = .ok (.getfield 9, 3) := by decide +kernel
theorem d_X14_isTray_36 : decode b_X14_isTray 36 = .ok (.iload_n 3, 1) := by decide +kernel
theorem d_X14_isTray_37 : decode b_X14_isTray 37 = .ok (.baload, 1) := by decide +kernel
theorem d_X14_isTray_38 : decode b_X14_isTray 38 = .ok (.if_icmp .eq 5, 3) := by decide +kernel
theorem d_X14_isTray_41 : decode b_X14_isTray 41 = .ok (.iconst 0, 1) := by decide +kernel
theorem d_X14_isTray_42 : decode b_X14_isTray 42 = .ok (.ireturn, 1) := by decide +kernel
theorem d_X14_isTray_43 : decode b_X14_isTray 43 = .ok (.iinc 3 1, 3) := by decide +kernel
theorem d_X14_isTray_46 : decode b_X14_isTray 46 = .ok (.goto (-32), 3) := by decide +kernel
theorem d_X14_isTray_49 : decode b_X14_isTray 49 = .ok (.iconst 1, 1) := by decide +kernel
theorem d_X14_isTray_50 : decode b_X14_isTray 50 = .ok (.ireturn, 1) := by decide +kernel
theorem d_X14_isWord_0 : decode b_X14_isWord 0 = .ok (.aload_n 0, 1) := by decide +kernel
theorem d_X14_isWord_1 : decode b_X14_isWord 1 = .ok (.getfield 13, 3) := by decide +kernel
theorem d_X14_isWord_4 : decode b_X14_isWord 4 = .ok (.aload_n 0, 1) := by decide +kernel
theorem d_X14_isWord_5 : decode b_X14_isWord 5 = .ok (.getfield 288, 3) := by decide +kernel
theorem d_X14_isWord_8 : decode b_X14_isWord 8 = .ok (.iaload, 1) := by decide +kernel
theorem d_X14_isWord_9 : decode b_X14_isWord 9 = .ok (.iload_n 1, 1) := by decide +kernel
theorem d_X14_isWord_10 : decode b_X14_isWord 10 = .ok (.if_icmp .ne 7, 3) := by decide +kernel
theorem d_X14_isWord_13 : decode b_X14_isWord 13 = .ok (.iconst 1, 1) := by decide +kernel
theorem d_X14_isWord_14 : decode b_X14_isWord 14 = .ok (.goto 4, 3) := by decide +kernel
theorem d_X14_isWord_17 : decode b_X14_isWord 17 = .ok (.iconst 0, 1) := by decide +kernel
theorem d_X14_isWord_18 : decode b_X14_isWord 18 = .ok (.ireturn, 1) := by decide +kernel
theorem d_X14_item_0 : decode b_X14_item 0 = .ok (.aload_n 0, 1) := by decide +kernel
theorem d_X14_item_1 : decode b_X14_item 1 = .ok (.bipush 7, 2) := by decide +kernel
theorem d_X14_item_3 : decode b_X14_item 3 = .ok (.invokevirtual 552, 3) := by decide +kernel
theorem d_X14_item_6 : decode b_X14_item 6 = .ok (.istore_n 1, 1) := by decide +kernel
theorem d_X14_item_7 : decode b_X14_item 7 = .ok (.aload_n 0, 1) := by decide +kernel
theorem d_X14_item_8 : decode b_X14_item 8 = .ok (.bipush 8, 2) := by decide +kernel
theorem d_X14_item_10 : decode b_X14_item 10 = .ok (.invokevirtual 552, 3) := by decide +kernel
theorem d_X14_item_13 : decode b_X14_item 13 = .ok (.istore_n 2, 1) := by decide +kernel
theorem d_X14_item_14 : decode b_X14_item 14 = .ok (.iload_n 1, 1) := by decide +kernel
theorem d_X14_item_15 : decode b_X14_item 15 = .ok (.ifCond .ne 7, 3) := by decide +kernel
theorem d_X14_item_18 : decode b_X14_item 18 = .ok (.iload_n 2, 1) := by decide +kernel
theorem d_X14_item_19 : decode b_X14_item 19 = .ok (.ifCond .eq 13, 3) := by decide +kernel
theorem d_X14_item_22 : decode b_X14_item 22 = .ok (.aload_n 0, 1) := by decide +kernel
theorem d_X14_item_23 : decode b_X14_item 23 = .ok (.dup, 1) := by decide +kernel
theorem d_X14_item_24 : decode b_X14_item 24 = .ok (.getfield 288, 3) := by decide +kernel
theorem d_X14_item_27 : decode b_X14_item 27 = .ok (.iconst 1, 1) := by decide +kernel
theorem d_X14_item_28 : decode b_X14_item 28 = .ok (.iadd, 1) := by decide +kernel
theorem d_X14_item_29 : decode b_X14_item 29 = .ok (.putfield 288, 3) := by decide +kernel
theorem d_X14_item_32 : decode b_X14_item 32 = .ok (.aload_n 0, 1) := by decide +kernel
theorem d_X14_item_33 : decode b_X14_item 33 = .ok (.getfield 13, 3) := by decide +kernel
theorem d_X14_item_36 : decode b_X14_item 36 = .ok (.aload_n 0, 1) := by decide +kernel
theorem d_X14_item_37 : decode b_X14_item 37 = .ok (.getfield 288, 3) := by decide +kernel
theorem d_X14_item_40 : decode b_X14_item 40 = .ok (.iaload, 1) := by decide +kernel
theorem d_X14_item_41 : decode b_X14_item 41 = .ok (.bipush 6, 2) := by decide +kernel
theorem d_X14_item_43 : decode b_X14_item 43 = .ok (.if_icmp .ne 54, 3) := by decide +kernel
theorem d_X14_item_46 : decode b_X14_item 46 = .ok (.aload_n 0, 1) := by decide +kernel
theorem d_X14_item_47 : decode b_X14_item 47 = .ok (.dup, 1) := by decide +kernel
theorem d_X14_item_48 : decode b_X14_item 48 = .ok (.getfield 288, 3) := by decide +kernel
theorem d_X14_item_51 : decode b_X14_item 51 = .ok (.iconst 1, 1) := by decide +kernel
theorem d_X14_item_52 : decode b_X14_item 52 = .ok (.iadd, 1) := by decide +kernel
theorem d_X14_item_53 : decode b_X14_item 53 = .ok (.putfield 288, 3) := by decide +kernel
theorem d_X14_item_56 : decode b_X14_item 56 = .ok (.aload_n 0, 1) := by decide +kernel
theorem d_X14_item_57 : decode b_X14_item 57 = .ok (.getfield 13, 3) := by decide +kernel
theorem d_X14_item_60 : decode b_X14_item 60 = .ok (.aload_n 0, 1) := by decide +kernel
theorem d_X14_item_61 : decode b_X14_item 61 = .ok (.getfield 288, 3) := by decide +kernel
theorem d_X14_item_64 : decode b_X14_item 64 = .ok (.iaload, 1) := by decide +kernel
theorem d_X14_item_65 : decode b_X14_item 65 = .ok (.iconst 2, 1) := by decide +kernel
theorem d_X14_item_66 : decode b_X14_item 66 = .ok (.if_icmp .eq 8, 3) := by decide +kernel
theorem d_X14_item_69 : decode b_X14_item 69 = .ok (.aload_n 0, 1) := by decide +kernel
theorem d_X14_item_70 : decode b_X14_item 70 = .ok (.invokevirtual 311, 3) := by decide +kernel
theorem d_X14_item_73 : decode b_X14_item 73 = .ok (.athrow, 1) := by decide +kernel
theorem d_X14_item_74 : decode b_X14_item 74 = .ok (.aload_n 0, 1) := by decide +kernel
theorem d_X14_item_75 : decode b_X14_item 75 = .ok (.getfield 288, 3) := by decide +kernel
theorem d_X14_item_78 : decode b_X14_item 78 = .ok (.istore_n 3, 1) := by decide +kernel
theorem d_X14_item_79 : decode b_X14_item 79 = .ok (.aload_n 0, 1) := by decide +kernel
theorem d_X14_item_80 : decode b_X14_item 80 = .ok (.dup, 1) := by decide +kernel
theorem d_X14_item_81 : decode b_X14_item 81 = .ok (.getfield 288, 3) := by decide +kernel
theorem d_X14_item_84 : decode b_X14_item 84 = .ok (.iconst 1, 1) := by decide +kernel
theorem d_X14_item_85 : decode b_X14_item 85 = .ok (.iadd, 1) := by decide +kernel
theorem d_X14_item_86 : decode b_X14_item 86 = .ok (.putfield 288, 3) := by decide +kernel
theorem d_X14_item_89 : decode b_X14_item 89 = .ok (.aload_n 0, 1) := by decide +kernel
theorem d_X14_item_90 : decode b_X14_item 90 = .ok (.iload_n 3, 1) := by decide +kernel
theorem d_X14_item_91 : decode b_X14_item 91 = .ok (.iconst (-1), 1) := by decide +kernel
theorem d_X14_item_92 : decode b_X14_item 92 = .ok (.iload_n 1, 1) := by decide +kernel
theorem d_X14_item_93 : decode b_X14_item 93 = .ok (.invokevirtual 665, 3) := by decide +kernel
theorem d_X14_item_96 : decode b_X14_item 96 = .ok (.return_, 1) := by decide +kernel
theorem d_X14_item_97 : decode b_X14_item 97 = .ok (.aload_n 0, 1) := by decide +kernel
theorem d_X14_item_98 : decode b_X14_item 98 = .ok (.getfield 13, 3) := by decide +kernel
theorem d_X14_item_101 : decode b_X14_item 101 = .ok (.aload_n 0, 1) := by decide +kernel
theorem d_X14_item_102 : decode b_X14_item 102 = .ok (.getfield 288, 3) := by decide +kernel
theorem d_X14_item_105 : decode b_X14_item 105 = .ok (.iaload, 1) := by decide +kernel
theorem d_X14_item_106 : decode b_X14_item 106 = .ok (.iconst 5, 1) := by decide +kernel
theorem d_X14_item_107 : decode b_X14_item 107 = .ok (.if_icmp .eq 8, 3) := by decide +kernel
theorem d_X14_item_110 : decode b_X14_item 110 = .ok (.aload_n 0, 1) := by decide +kernel
theorem d_X14_item_111 : decode b_X14_item 111 = .ok (.invokevirtual 311, 3) := by decide +kernel
theorem d_X14_item_114 : decode b_X14_item 114 = .ok (.athrow, 1) := by decide +kernel
theorem d_X14_item_115 : decode b_X14_item 115 = .ok (.aload_n 0, 1) := by decide +kernel
theorem d_X14_item_116 : decode b_X14_item 116 = .ok (.dup, 1) := by decide +kernel
theorem d_X14_item_117 : decode b_X14_item 117 = .ok (.getfield 288, 3) := by decide +kernel
theorem d_X14_item_120 : decode b_X14_item 120 = .ok (.iconst 1, 1) := by decide +kernel
theorem d_X14_item_121 : decode b_X14_item 121 = .ok (.iadd, 1) := by decide +kernel
theorem d_X14_item_122 : decode b_X14_item 122 = .ok (.putfield 288, 3) := by decide +kernel
theorem d_X14_item_125 : decode b_X14_item 125 = .ok (.aload_n 0, 1) := by decide +kernel
theorem d_X14_item_126 : decode b_X14_item 126 = .ok (.getfield 288, 3) := by decide +kernel
theorem d_X14_item_129 : decode b_X14_item 129 = .ok (.istore_n 3, 1) := by decide +kernel
theorem d_X14_item_130 : decode b_X14_item 130 = .ok (.aload_n 0, 1) := by decide +kernel
theorem d_X14_item_131 : decode b_X14_item 131 = .ok (.invokevirtual 494, 3) := by decide +kernel
theorem d_X14_item_134 : decode b_X14_item 134 = .ok (.istore 4, 2) := by decide +kernel
theorem d_X14_item_136 : decode b_X14_item 136 = .ok (.aload_n 0, 1) := by decide +kernel
theorem d_X14_item_137 : decode b_X14_item 137 = .ok (.getfield 13, 3) := by decide +kernel
theorem d_X14_item_140 : decode b_X14_item 140 = .ok (.aload_n 0, 1) := by decide +kernel
theorem d_X14_item_141 : decode b_X14_item 141 = .ok (.getfield 288, 3) := by decide +kernel
theorem d_X14_item_144 : decode b_X14_item 144 = .ok (.iaload, 1) := by decide +kernel
theorem d_X14_item_145 : decode b_X14_item 145 = .ok (.iconst 2, 1) := by decide +kernel
theorem d_X14_item_146 : decode b_X14_item 146 = .ok (.if_icmp .eq 8, 3) := by decide +kernel
theorem d_X14_item_149 : decode b_X14_item 149 = .ok (.aload_n 0, 1) := by decide +kernel
theorem d_X14_item_150 : decode b_X14_item 150 = .ok (.invokevirtual 311, 3) := by decide +kernel
theorem d_X14_item_153 : decode b_X14_item 153 = .ok (.athrow, 1) := by decide +kernel
theorem d_X14_item_154 : decode b_X14_item 154 = .ok (.aload_n 0, 1) := by decide +kernel
theorem d_X14_item_155 : decode b_X14_item 155 = .ok (.getfield 288, 3) := by decide +kernel
theorem d_X14_item_158 : decode b_X14_item 158 = .ok (.istore 5, 2) := by decide +kernel
theorem d_X14_item_160 : decode b_X14_item 160 = .ok (.aload_n 0, 1) := by decide +kernel
theorem d_X14_item_161 : decode b_X14_item 161 = .ok (.dup, 1) := by decide +kernel
theorem d_X14_item_162 : decode b_X14_item 162 = .ok (.getfield 288, 3) := by decide +kernel
theorem d_X14_item_165 : decode b_X14_item 165 = .ok (.iconst 1, 1) := by decide +kernel
theorem d_X14_item_166 : decode b_X14_item 166 = .ok (.iadd, 1) := by decide +kernel
theorem d_X14_item_167 : decode b_X14_item 167 = .ok (.putfield 288, 3) := by decide +kernel
theorem d_X14_item_170 : decode b_X14_item 170 = .ok (.aload_n 0, 1) := by decide +kernel
theorem d_X14_item_171 : decode b_X14_item 171 = .ok (.bipush 20, 2) := by decide +kernel
theorem d_X14_item_173 : decode b_X14_item 173 = .ok (.invokevirtual 308, 3) := by decide +kernel
theorem d_X14_item_176 : decode b_X14_item 176 = .ok (.ifCond .eq 13, 3) := by decide +kernel
theorem d_X14_item_179 : decode b_X14_item 179 = .ok (.aload_n 0, 1) := by decide +kernel
theorem d_X14_item_180 : decode b_X14_item 180 = .ok (.iload 5, 2) := by decide +kernel
theorem d_X14_item_182 : decode b_X14_item 182 = .ok (.iload 4, 2) := by decide +kernel
theorem d_X14_item_184 : decode b_X14_item 184 = .ok (.iload_n 1, 1) := by decide +kernel
theorem d_X14_item_185 : decode b_X14_item 185 = .ok (.invokevirtual 665, 3) := by decide +kernel
theorem d_X14_item_188 : decode b_X14_item 188 = .ok (.return_, 1) := by decide +kernel
theorem d_X14_item_189 : decode b_X14_item 189 = .ok (.aload_n 0, 1) := by decide +kernel
theorem d_X14_item_190 : decode b_X14_item 190 = .ok (.iload_n 3, 1) := by decide +kernel
theorem d_X14_item_191 : decode b_X14_item 191 = .ok (.putfield 288, 3) := by decide +kernel
theorem d_X14_item_194 : decode b_X14_item 194 = .ok (.aload_n 0, 1) := by decide +kernel
theorem d_X14_item_195 : decode b_X14_item 195 = .ok (.iload_n 1, 1) := by decide +kernel
theorem d_X14_item_196 : decode b_X14_item 196 = .ok (.iload_n 2, 1) := by decide +kernel
theorem d_X14_item_197 : decode b_X14_item 197 = .ok (.iconst 0, 1) := by decide +kernel
theorem d_X14_item_198 : decode b_X14_item 198 = .ok (.invokevirtual 542, 3) := by decide +kernel
theorem d_X14_item_201 : decode b_X14_item 201 = .ok (.return_, 1) := by decide +kernel
theorem d_X14_lay_0 : decode b_X14_lay 0 = .ok (.aload_n 0, 1) := by decide +kernel
theorem d_X14_lay_1 : decode b_X14_lay 1 = .ok (.getfield 57, 3) := by decide +kernel
theorem d_X14_lay_4 : decode b_X14_lay 4 = .ok (.iload_n 1, 1) := by decide +kernel
theorem d_X14_lay_5 : decode b_X14_lay 5 = .ok (.iconst 1, 1) := by decide +kernel
theorem d_X14_lay_6 : decode b_X14_lay 6 = .ok (.bastore, 1) := by decide +kernel
theorem d_X14_lay_7 : decode b_X14_lay 7 = .ok (.aload_n 0, 1) := by decide +kernel
theorem d_X14_lay_8 : decode b_X14_lay 8 = .ok (.getfield 70, 3) := by decide +kernel
theorem d_X14_lay_11 : decode b_X14_lay 11 = .ok (.iload_n 1, 1) := by decide +kernel
theorem d_X14_lay_12 : decode b_X14_lay 12 = .ok (.aload_n 0, 1) := by decide +kernel
theorem d_X14_lay_13 : decode b_X14_lay 13 = .ok (.getfield 515, 3) := by decide +kernel
theorem d_X14_lay_16 : decode b_X14_lay 16 = .ok (.iastore, 1) := by decide +kernel
theorem d_X14_lay_17 : decode b_X14_lay 17 = .ok (.aload_n 0, 1) := by decide +kernel
theorem d_X14_lay_18 : decode b_X14_lay 18 = .ok (.getfield 515, 3) := by decide +kernel
theorem d_X14_lay_21 : decode b_X14_lay 21 = .ok (.iload_n 3, 1) := by decide +kernel
theorem d_X14_lay_22 : decode b_X14_lay 22 = .ok (.iadd, 1) := by decide +kernel
theorem d_X14_lay_23 : decode b_X14_lay 23 = .ok (.sipush 16000, 3) := by decide +kernel
theorem d_X14_lay_26 : decode b_X14_lay 26 = .ok (.if_icmp .le 12, 3) := by decide +kernel
theorem d_X14_lay_29 : decode b_X14_lay 29 = .ok (.aload_n 0, 1) := by decide +kernel
theorem d_X14_lay_30 : decode b_X14_lay 30 = .ok (.iconst 4, 1) := by decide +kernel
theorem d_X14_lay_31 : decode b_X14_lay 31 = .ok (.iload_n 2, 1) := by decide +kernel
theorem d_X14_lay_32 : decode b_X14_lay 32 = .ok (.invokevirtual 304, 3) := by decide +kernel
theorem d_X14_lay_35 : decode b_X14_lay 35 = .ok (.goto 13, 3) := by decide +kernel
theorem d_X14_lay_38 : decode b_X14_lay 38 = .ok (.aload_n 0, 1) := by decide +kernel
theorem d_X14_lay_39 : decode b_X14_lay 39 = .ok (.dup, 1) := by decide +kernel
theorem d_X14_lay_40 : decode b_X14_lay 40 = .ok (.getfield 515, 3) := by decide +kernel
theorem d_X14_lay_43 : decode b_X14_lay 43 = .ok (.iload_n 3, 1) := by decide +kernel
theorem d_X14_lay_44 : decode b_X14_lay 44 = .ok (.iadd, 1) := by decide +kernel
theorem d_X14_lay_45 : decode b_X14_lay 45 = .ok (.putfield 515, 3) := by decide +kernel
theorem d_X14_lay_48 : decode b_X14_lay 48 = .ok (.return_, 1) := by decide +kernel
theorem d_X14_layAll_0 : decode b_X14_layAll 0 = .ok (.bipush 16, 2) := by decide +kernel
theorem d_X14_layAll_2 : decode b_X14_layAll 2 = .ok (.istore_n 2, 1) := by decide +kernel
theorem d_X14_layAll_3 : decode b_X14_layAll 3 = .ok (.iconst 0, 1) := by decide +kernel
theorem d_X14_layAll_4 : decode b_X14_layAll 4 = .ok (.istore_n 3, 1) := by decide +kernel
theorem d_X14_layAll_5 : decode b_X14_layAll 5 = .ok (.iload_n 3, 1) := by decide +kernel
theorem d_X14_layAll_6 : decode b_X14_layAll 6 = .ok (.iload_n 1, 1) := by decide +kernel
theorem d_X14_layAll_7 : decode b_X14_layAll 7 = .ok (.if_icmp .ge 46, 3) := by decide +kernel
theorem d_X14_layAll_10 : decode b_X14_layAll 10 = .ok (.aload_n 0, 1) := by decide +kernel
theorem d_X14_layAll_11 : decode b_X14_layAll 11 = .ok (.getfield 147, 3) := by decide +kernel
theorem d_X14_layAll_14 : decode b_X14_layAll 14 = .ok (.iload_n 3, 1) := by decide +kernel
theorem d_X14_layAll_15 : decode b_X14_layAll 15 = .ok (.iload_n 2, 1) := by decide +kernel
theorem d_X14_layAll_16 : decode b_X14_layAll 16 = .ok (.iastore, 1) := by decide +kernel
theorem d_X14_layAll_17 : decode b_X14_layAll 17 = .ok (.aload_n 0, 1) := by decide +kernel
theorem d_X14_layAll_18 : decode b_X14_layAll 18 = .ok (.getfield 162, 3) := by decide +kernel
theorem d_X14_layAll_21 : decode b_X14_layAll 21 = .ok (.aload_n 0, 1) := by decide +kernel
theorem d_X14_layAll_22 : decode b_X14_layAll 22 = .ok (.getfield 141, 3) := by decide +kernel
theorem d_X14_layAll_25 : decode b_X14_layAll 25 = .ok (.iload_n 3, 1) := by decide +kernel
theorem d_X14_layAll_26 : decode b_X14_layAll 26 = .ok (.iaload, 1) := by decide +kernel
theorem d_X14_layAll_27 : decode b_X14_layAll 27 = .ok (.iconst 1, 1) := by decide +kernel
theorem d_X14_layAll_28 : decode b_X14_layAll 28 = .ok (.isub, 1) := by decide +kernel
theorem d_X14_layAll_29 : decode b_X14_layAll 29 = .ok (.iload_n 2, 1) := by decide +kernel
theorem d_X14_layAll_30 : decode b_X14_layAll 30 = .ok (.iastore, 1) := by decide +kernel
theorem d_X14_layAll_31 : decode b_X14_layAll 31 = .ok (.iload_n 2, 1) := by decide +kernel
theorem d_X14_layAll_32 : decode b_X14_layAll 32 = .ok (.aload_n 0, 1) := by decide +kernel
theorem d_X14_layAll_33 : decode b_X14_layAll 33 = .ok (.getfield 89, 3) := by decide +kernel
theorem d_X14_layAll_36 : decode b_X14_layAll 36 = .ok (.aload_n 0, 1) := by decide +kernel
theorem d_X14_layAll_37 : decode b_X14_layAll 37 = .ok (.getfield 141, 3) := by decide +kernel
theorem d_X14_layAll_40 : decode b_X14_layAll 40 = .ok (.iload_n 3, 1) := by decide +kernel
theorem d_X14_layAll_41 : decode b_X14_layAll 41 = .ok (.iaload, 1) := by decide +kernel
theorem d_X14_layAll_42 : decode b_X14_layAll 42 = .ok (.iconst 1, 1) := by decide +kernel
theorem d_X14_layAll_43 : decode b_X14_layAll 43 = .ok (.isub, 1) := by decide +kernel
theorem d_X14_layAll_44 : decode b_X14_layAll 44 = .ok (.iaload, 1) := by decide +kernel
theorem d_X14_layAll_45 : decode b_X14_layAll 45 = .ok (.iadd, 1) := by decide +kernel
theorem d_X14_layAll_46 : decode b_X14_layAll 46 = .ok (.istore_n 2, 1) := by decide +kernel
theorem d_X14_layAll_47 : decode b_X14_layAll 47 = .ok (.iinc 3 1, 3) := by decide +kernel
theorem d_X14_layAll_50 : decode b_X14_layAll 50 = .ok (.goto (-45), 3) := by decide +kernel
theorem d_X14_layAll_53 : decode b_X14_layAll 53 = .ok (.iconst 0, 1) := by decide +kernel
theorem d_X14_layAll_54 : decode b_X14_layAll 54 = .ok (.istore_n 3, 1) := by decide +kernel
theorem d_X14_layAll_55 : decode b_X14_layAll 55 = .ok (.iload_n 3, 1) := by decide +kernel
theorem d_X14_layAll_56 : decode b_X14_layAll 56 = .ok (.aload_n 0, 1) := by decide +kernel
theorem d_X14_layAll_57 : decode b_X14_layAll 57 = .ok (.getfield 165, 3) := by decide +kernel
theorem d_X14_layAll_60 : decode b_X14_layAll 60 = .ok (.arraylength, 1) := by decide +kernel
theorem d_X14_layAll_61 : decode b_X14_layAll 61 = .ok (.if_icmp .ge 16, 3) := by decide +kernel
theorem d_X14_layAll_64 : decode b_X14_layAll 64 = .ok (.aload_n 0, 1) := by decide +kernel
theorem d_X14_layAll_65 : decode b_X14_layAll 65 = .ok (.getfield 165, 3) := by decide +kernel
theorem d_X14_layAll_68 : decode b_X14_layAll 68 = .ok (.iload_n 3, 1) := by decide +kernel
theorem d_X14_layAll_69 : decode b_X14_layAll 69 = .ok (.iconst 0, 1) := by decide +kernel
theorem d_X14_layAll_70 : decode b_X14_layAll 70 = .ok (.iastore, 1) := by decide +kernel
theorem d_X14_layAll_71 : decode b_X14_layAll 71 = .ok (.iinc 3 1, 3) := by decide +kernel
theorem d_X14_layAll_74 : decode b_X14_layAll 74 = .ok (.goto (-19), 3) := by decide +kernel
theorem d_X14_layAll_77 : decode b_X14_layAll 77 = .ok (.iconst 0, 1) := by decide +kernel
theorem d_X14_layAll_78 : decode b_X14_layAll 78 = .ok (.istore_n 3, 1) := by decide +kernel
theorem d_X14_layAll_79 : decode b_X14_layAll 79 = .ok (.iload_n 3, 1) := by decide +kernel
theorem d_X14_layAll_80 : decode b_X14_layAll 80 = .ok (.iload_n 1, 1) := by decide +kernel
theorem d_X14_layAll_81 : decode b_X14_layAll 81 = .ok (.if_icmp .ge 193, 3) := by decide +kernel
theorem d_X14_layAll_84 : decode b_X14_layAll 84 = .ok (.aload_n 0, 1) := by decide +kernel
theorem d_X14_layAll_85 : decode b_X14_layAll 85 = .ok (.getfield 141, 3) := by decide +kernel
theorem d_X14_layAll_88 : decode b_X14_layAll 88 = .ok (.iload_n 3, 1) := by decide +kernel
theorem d_X14_layAll_89 : decode b_X14_layAll 89 = .ok (.iaload, 1) := by decide +kernel
theorem d_X14_layAll_90 : decode b_X14_layAll 90 = .ok (.iconst 1, 1) := by decide +kernel
theorem d_X14_layAll_91 : decode b_X14_layAll 91 = .ok (.isub, 1) := by decide +kernel
theorem d_X14_layAll_92 : decode b_X14_layAll 92 = .ok (.istore 4, 2) := by decide +kernel
theorem d_X14_layAll_94 : decode b_X14_layAll 94 = .ok (.aload_n 0, 1) := by decide +kernel
theorem d_X14_layAll_95 : decode b_X14_layAll 95 = .ok (.getfield 86, 3) := by decide +kernel
theorem d_X14_layAll_98 : decode b_X14_layAll 98 = .ok (.iload 4, 2) := by decide +kernel
theorem d_X14_layAll_100 : decode b_X14_layAll 100 = .ok (.iaload, 1) := by decide +kernel
theorem d_X14_layAll_101 : decode b_X14_layAll 101 = .ok (.istore 5, 2) := by decide +kernel
theorem d_X14_layAll_103 : decode b_X14_layAll 103 = .ok (.iload 5, 2) := by decide +kernel
theorem d_X14_layAll_105 : decode b_X14_layAll 105 = .ok (.aload_n 0, 1) := by decide +kernel
theorem d_X14_layAll_106 : decode b_X14_layAll 106 = .ok (.getfield 86, 3) := by decide +kernel
theorem d_X14_layAll_109 : decode b_X14_layAll 109 = .ok (.iload 4, 2) := by decide +kernel
theorem d_X14_layAll_111 : decode b_X14_layAll 111 = .ok (.iconst 1, 1) := by decide +kernel
theorem d_X14_layAll_112 : decode b_X14_layAll 112 = .ok (.iadd, 1) := by decide +kernel
theorem d_X14_layAll_113 : decode b_X14_layAll 113 = .ok (.iaload, 1) := by decide +kernel
theorem d_X14_layAll_114 : decode b_X14_layAll 114 = .ok (.if_icmp .ge 24, 3) := by decide +kernel
theorem d_X14_layAll_117 : decode b_X14_layAll 117 = .ok (.aload_n 0, 1) := by decide +kernel
theorem d_X14_layAll_118 : decode b_X14_layAll 118 = .ok (.getfield 159, 3) := by decide +kernel
theorem d_X14_layAll_121 : decode b_X14_layAll 121 = .ok (.iload 5, 2) := by decide +kernel
theorem d_X14_layAll_123 : decode b_X14_layAll 123 = .ok (.aload_n 0, 1) := by decide +kernel
theorem d_X14_layAll_124 : decode b_X14_layAll 124 = .ok (.iload 5, 2) := by decide +kernel
theorem d_X14_layAll_126 : decode b_X14_layAll 126 = .ok (.iload_n 3, 1) := by decide +kernel
theorem d_X14_layAll_127 : decode b_X14_layAll 127 = .ok (.iload_n 1, 1) := by decide +kernel
theorem d_X14_layAll_128 : decode b_X14_layAll 128 = .ok (.invokevirtual 735, 3) := by decide +kernel
theorem d_X14_layAll_131 : decode b_X14_layAll 131 = .ok (.iastore, 1) := by decide +kernel
theorem d_X14_layAll_132 : decode b_X14_layAll 132 = .ok (.iinc 5 1, 3) := by decide +kernel
theorem d_X14_layAll_135 : decode b_X14_layAll 135 = .ok (.goto (-32), 3) := by decide +kernel
theorem d_X14_layAll_138 : decode b_X14_layAll 138 = .ok (.aload_n 0, 1) := by decide +kernel
theorem d_X14_layAll_139 : decode b_X14_layAll 139 = .ok (.getfield 92, 3) := by decide +kernel
theorem d_X14_layAll_142 : decode b_X14_layAll 142 = .ok (.iload 4, 2) := by decide +kernel
theorem d_X14_layAll_144 : decode b_X14_layAll 144 = .ok (.iaload, 1) := by decide +kernel
theorem d_X14_layAll_145 : decode b_X14_layAll 145 = .ok (.istore 5, 2) := by decide +kernel
theorem d_X14_layAll_147 : decode b_X14_layAll 147 = .ok (.iload 5, 2) := by decide +kernel
theorem d_X14_layAll_149 : decode b_X14_layAll 149 = .ok (.aload_n 0, 1) := by decide +kernel
theorem d_X14_layAll_150 : decode b_X14_layAll 150 = .ok (.getfield 92, 3) := by decide +kernel
theorem d_X14_layAll_153 : decode b_X14_layAll 153 = .ok (.iload 4, 2) := by decide +kernel
theorem d_X14_layAll_155 : decode b_X14_layAll 155 = .ok (.iconst 1, 1) := by decide +kernel
theorem d_X14_layAll_156 : decode b_X14_layAll 156 = .ok (.iadd, 1) := by decide +kernel
theorem d_X14_layAll_157 : decode b_X14_layAll 157 = .ok (.iaload, 1) := by decide +kernel
theorem d_X14_layAll_158 : decode b_X14_layAll 158 = .ok (.if_icmp .ge 98, 3) := by decide +kernel
theorem d_X14_layAll_161 : decode b_X14_layAll 161 = .ok (.aload_n 0, 1) := by decide +kernel
theorem d_X14_layAll_162 : decode b_X14_layAll 162 = .ok (.getfield 96, 3) := by decide +kernel
theorem d_X14_layAll_165 : decode b_X14_layAll 165 = .ok (.iload 5, 2) := by decide +kernel
theorem d_X14_layAll_167 : decode b_X14_layAll 167 = .ok (.iconst 2, 1) := by decide +kernel
theorem d_X14_layAll_168 : decode b_X14_layAll 168 = .ok (.iadd, 1) := by decide +kernel
theorem d_X14_layAll_169 : decode b_X14_layAll 169 = .ok (.iaload, 1) := by decide +kernel
theorem d_X14_layAll_170 : decode b_X14_layAll 170 = .ok (.istore 6, 2) := by decide +kernel
theorem d_X14_layAll_172 : decode b_X14_layAll 172 = .ok (.iload 6, 2) := by decide +kernel
theorem d_X14_layAll_174 : decode b_X14_layAll 174 = .ok (.ifCond .le 23, 3) := by decide +kernel
theorem d_X14_layAll_177 : decode b_X14_layAll 177 = .ok (.aload_n 0, 1) := by decide +kernel
theorem d_X14_layAll_178 : decode b_X14_layAll 178 = .ok (.getfield 159, 3) := by decide +kernel
theorem d_X14_layAll_181 : decode b_X14_layAll 181 = .ok (.aload_n 0, 1) := by decide +kernel
theorem d_X14_layAll_182 : decode b_X14_layAll 182 = .ok (.getfield 86, 3) := by decide +kernel
theorem d_X14_layAll_185 : decode b_X14_layAll 185 = .ok (.iload 4, 2) := by decide +kernel
theorem d_X14_layAll_187 : decode b_X14_layAll 187 = .ok (.iaload, 1) := by decide +kernel
theorem d_X14_layAll_188 : decode b_X14_layAll 188 = .ok (.iload 6, 2) := by decide +kernel
theorem d_X14_layAll_190 : decode b_X14_layAll 190 = .ok (.iadd, 1) := by decide +kernel
theorem d_X14_layAll_191 : decode b_X14_layAll 191 = .ok (.iconst 1, 1) := by decide +kernel
theorem d_X14_layAll_192 : decode b_X14_layAll 192 = .ok (.isub, 1) := by decide +kernel
theorem d_X14_layAll_193 : decode b_X14_layAll 193 = .ok (.iaload, 1) := by decide +kernel
theorem d_X14_layAll_194 : decode b_X14_layAll 194 = .ok (.goto 23, 3) := by decide +kernel
theorem d_X14_layAll_197 : decode b_X14_layAll 197 = .ok (.iload 6, 2) := by decide +kernel
theorem d_X14_layAll_199 : decode b_X14_layAll 199 = .ok (.ifCond .ge 17, 3) := by decide +kernel
theorem d_X14_layAll_202 : decode b_X14_layAll 202 = .ok (.aload_n 0, 1) := by decide +kernel
theorem d_X14_layAll_203 : decode b_X14_layAll 203 = .ok (.getfield 147, 3) := by decide +kernel
theorem d_X14_layAll_206 : decode b_X14_layAll 206 = .ok (.iload_n 3, 1) := by decide +kernel
theorem d_X14_layAll_207 : decode b_X14_layAll 207 = .ok (.iaload, 1) := by decide +kernel
theorem d_X14_layAll_208 : decode b_X14_layAll 208 = .ok (.iconst 1, 1) := by decide +kernel
theorem d_X14_layAll_209 : decode b_X14_layAll 209 = .ok (.isub, 1) := by decide +kernel
theorem d_X14_layAll_210 : decode b_X14_layAll 210 = .ok (.iload 6, 2) := by decide +kernel
theorem d_X14_layAll_212 : decode b_X14_layAll 212 = .ok (.isub, 1) := by decide +kernel
theorem d_X14_layAll_213 : decode b_X14_layAll 213 = .ok (.goto 4, 3) := by decide +kernel
theorem d_X14_layAll_216 : decode b_X14_layAll 216 = .ok (.iconst 0, 1) := by decide +kernel
theorem d_X14_layAll_217 : decode b_X14_layAll 217 = .ok (.istore 7, 2) := by decide +kernel
theorem d_X14_layAll_219 : decode b_X14_layAll 219 = .ok (.aload_n 0, 1) := by decide +kernel
theorem d_X14_layAll_220 : decode b_X14_layAll 220 = .ok (.getfield 165, 3) := by decide +kernel
theorem d_X14_layAll_223 : decode b_X14_layAll 223 = .ok (.aload_n 0, 1) := by decide +kernel
theorem d_X14_layAll_224 : decode b_X14_layAll 224 = .ok (.getfield 147, 3) := by decide +kernel
theorem d_X14_layAll_227 : decode b_X14_layAll 227 = .ok (.iload_n 3, 1) := by decide +kernel
theorem d_X14_layAll_228 : decode b_X14_layAll 228 = .ok (.iaload, 1) := by decide +kernel
theorem d_X14_layAll_229 : decode b_X14_layAll 229 = .ok (.aload_n 0, 1) := by decide +kernel
theorem d_X14_layAll_230 : decode b_X14_layAll 230 = .ok (.getfield 96, 3) := by decide +kernel
theorem d_X14_layAll_233 : decode b_X14_layAll 233 = .ok (.iload 5, 2) := by decide +kernel
theorem d_X14_layAll_235 : decode b_X14_layAll 235 = .ok (.iaload, 1) := by decide +kernel
theorem d_X14_layAll_236 : decode b_X14_layAll 236 = .ok (.iadd, 1) := by decide +kernel
theorem d_X14_layAll_237 : decode b_X14_layAll 237 = .ok (.aload_n 0, 1) := by decide +kernel
theorem d_X14_layAll_238 : decode b_X14_layAll 238 = .ok (.getfield 96, 3) := by decide +kernel
theorem d_X14_layAll_241 : decode b_X14_layAll 241 = .ok (.iload 5, 2) := by decide +kernel
theorem d_X14_layAll_243 : decode b_X14_layAll 243 = .ok (.iconst 1, 1) := by decide +kernel
theorem d_X14_layAll_244 : decode b_X14_layAll 244 = .ok (.iadd, 1) := by decide +kernel
theorem d_X14_layAll_245 : decode b_X14_layAll 245 = .ok (.iaload, 1) := by decide +kernel
theorem d_X14_layAll_246 : decode b_X14_layAll 246 = .ok (.iload 7, 2) := by decide +kernel
theorem d_X14_layAll_248 : decode b_X14_layAll 248 = .ok (.iadd, 1) := by decide +kernel
theorem d_X14_layAll_249 : decode b_X14_layAll 249 = .ok (.iastore, 1) := by decide +kernel
theorem d_X14_layAll_250 : decode b_X14_layAll 250 = .ok (.iinc 5 3, 3) := by decide +kernel
theorem d_X14_layAll_253 : decode b_X14_layAll 253 = .ok (.goto (-106), 3) := by decide +kernel
theorem d_X14_layAll_256 : decode b_X14_layAll 256 = .ok (.aload_n 0, 1) := by decide +kernel
theorem d_X14_layAll_257 : decode b_X14_layAll 257 = .ok (.getfield 144, 3) := by decide +kernel
theorem d_X14_layAll_260 : decode b_X14_layAll 260 = .ok (.iload_n 3, 1) := by decide +kernel
theorem d_X14_layAll_261 : decode b_X14_layAll 261 = .ok (.aload_n 0, 1) := by decide +kernel
theorem d_X14_layAll_262 : decode b_X14_layAll 262 = .ok (.getfield 141, 3) := by decide +kernel
theorem d_X14_layAll_265 : decode b_X14_layAll 265 = .ok (.iload_n 3, 1) := by decide +kernel
theorem d_X14_layAll_266 : decode b_X14_layAll 266 = .ok (.iaload, 1) := by decide +kernel
theorem d_X14_layAll_267 : decode b_X14_layAll 267 = .ok (.iastore, 1) := by decide +kernel
theorem d_X14_layAll_268 : decode b_X14_layAll 268 = .ok (.iinc 3 1, 3) := by decide +kernel
theorem d_X14_layAll_271 : decode b_X14_layAll 271 = .ok (.goto (-192), 3) := by decide +kernel
theorem d_X14_layAll_274 : decode b_X14_layAll 274 = .ok (.aload_n 0, 1) := by decide +kernel
theorem d_X14_layAll_275 : decode b_X14_layAll 275 = .ok (.iload_n 1, 1) := by decide +kernel
theorem d_X14_layAll_276 : decode b_X14_layAll 276 = .ok (.putfield 150, 3) := by decide +kernel
theorem d_X14_layAll_279 : decode b_X14_layAll 279 = .ok (.return_, 1) := by decide +kernel
theorem d_X14_leave_0 : decode b_X14_leave 0 = .ok (.iload_n 1, 1) := by decide +kernel
theorem d_X14_leave_1 : decode b_X14_leave 1 = .ok (.ifCond .eq 10, 3) := by decide +kernel
theorem d_X14_leave_4 : decode b_X14_leave 4 = .ok (.aload_n 0, 1) := by decide +kernel
theorem d_X14_leave_5 : decode b_X14_leave 5 = .ok (.invokevirtual 805, 3) := by decide +kernel
theorem d_X14_leave_8 : decode b_X14_leave 8 = .ok (.goto 4, 3) := by decide +kernel
theorem d_X14_leave_11 : decode b_X14_leave 11 = .ok (.iconst 0, 1) := by decide +kernel
theorem d_X14_leave_12 : decode b_X14_leave 12 = .ok (.istore_n 2, 1) := by decide +kernel
theorem d_X14_leave_13 : decode b_X14_leave 13 = .ok (.aload_n 0, 1) := by decide +kernel
theorem d_X14_leave_14 : decode b_X14_leave 14 = .ok (.dup, 1) := by decide +kernel
theorem d_X14_leave_15 : decode b_X14_leave 15 = .ok (.getfield 771, 3) := by decide +kernel
theorem d_X14_leave_18 : decode b_X14_leave 18 = .ok (.iconst 1, 1) := by decide +kernel
theorem d_X14_leave_19 : decode b_X14_leave 19 = .ok (.isub, 1) := by decide +kernel
theorem d_X14_leave_20 : decode b_X14_leave 20 = .ok (.putfield 771, 3) := by decide +kernel
theorem d_X14_leave_23 : decode b_X14_leave 23 = .ok (.aload_n 0, 1) := by decide +kernel
theorem d_X14_leave_24 : decode b_X14_leave 24 = .ok (.getfield 771, 3) := by decide +kernel
theorem d_X14_leave_27 : decode b_X14_leave 27 = .ok (.ifCond .ne 15, 3) := by decide +kernel
theorem d_X14_leave_30 : decode b_X14_leave 30 = .ok (.aload_n 0, 1) := by decide +kernel
theorem d_X14_leave_31 : decode b_X14_leave 31 = .ok (.iload_n 2, 1) := by decide +kernel
theorem d_X14_leave_32 : decode b_X14_leave 32 = .ok (.putfield 759, 3) := by decide +kernel
theorem d_X14_leave_35 : decode b_X14_leave 35 = .ok (.aload_n 0, 1) := by decide +kernel
theorem d_X14_leave_36 : decode b_X14_leave 36 = .ok (.iconst 0, 1) := by decide +kernel
theorem d_X14_leave_37 : decode b_X14_leave 37 = .ok (.putfield 774, 3) := by decide +kernel
theorem d_X14_leave_40 : decode b_X14_leave 40 = .ok (.iconst 0, 1) := by decide +kernel
theorem d_X14_leave_41 : decode b_X14_leave 41 = .ok (.ireturn, 1) := by decide +kernel
theorem d_X14_leave_42 : decode b_X14_leave 42 = .ok (.iload_n 1, 1) := by decide +kernel
theorem d_X14_leave_43 : decode b_X14_leave 43 = .ok (.ifCond .eq 8, 3) := by decide +kernel
theorem d_X14_leave_46 : decode b_X14_leave 46 = .ok (.aload_n 0, 1) := by decide +kernel
theorem d_X14_leave_47 : decode b_X14_leave 47 = .ok (.iload_n 2, 1) := by decide +kernel
theorem d_X14_leave_48 : decode b_X14_leave 48 = .ok (.invokevirtual 796, 3) := by decide +kernel
theorem d_X14_leave_51 : decode b_X14_leave 51 = .ok (.aload_n 0, 1) := by decide +kernel
theorem d_X14_leave_52 : decode b_X14_leave 52 = .ok (.getfield 185, 3) := by decide +kernel
theorem d_X14_leave_55 : decode b_X14_leave 55 = .ok (.aload_n 0, 1) := by decide +kernel
theorem d_X14_leave_56 : decode b_X14_leave 56 = .ok (.getfield 771, 3) := by decide +kernel
theorem d_X14_leave_59 : decode b_X14_leave 59 = .ok (.iaload, 1) := by decide +kernel
theorem d_X14_leave_60 : decode b_X14_leave 60 = .ok (.ireturn, 1) := by decide +kernel
theorem d_X14_library_0_0 : decode b_X14_library_0 0 = .ok (.iconst 1, 1) := by decide +kernel
theorem d_X14_library_0_1 : decode b_X14_library_0 1 = .ok (.istore_n 2, 1) := by decide +kernel
theorem d_X14_library_0_2 : decode b_X14_library_0 2 = .ok (.iconst 0, 1) := by decide +kernel
theorem d_X14_library_0_3 : decode b_X14_library_0 3 = .ok (.istore_n 3, 1) := by decide +kernel
theorem d_X14_library_0_4 : decode b_X14_library_0 4 = .ok (.iload_n 3, 1) := by decide +kernel
theorem d_X14_library_0_5 : decode b_X14_library_0 5 = .ok (.iconst 4, 1) := by decide +kernel
theorem d_X14_library_0_6 : decode b_X14_library_0 6 = .ok (.if_icmp .ge 120, 3) := by decide +kernel
theorem d_X14_library_0_9 : decode b_X14_library_0 9 = .ok (.iload_n 2, 1) := by decide +kernel
theorem d_X14_library_0_10 : decode b_X14_library_0 10 = .ok (.istore 4, 2) := by decide +kernel
theorem d_X14_library_0_12 : decode b_X14_library_0 12 = .ok (.ldc_w 692, 3) := by decide +kernel
theorem d_X14_library_0_15 : decode b_X14_library_0 15 = .ok (.iload 4, 2) := by decide +kernel
theorem d_X14_library_0_17 : decode b_X14_library_0 17 = .ok (.invokevirtual 270, 3) := by decide +kernel
theorem d_X14_library_0_20 : decode b_X14_library_0 20 = .ok (.bipush 32, 2) := by decide +kernel
theorem d_X14_library_0_22 : decode b_X14_library_0 22 = .ok (.if_icmp .eq 9, 3) := by decide +kernel
theorem d_X14_library_0_25 : decode b_X14_library_0 25 = .ok (.iinc 4 1, 3) := by decide +kernel
theorem d_X14_library_0_28 : decode b_X14_library_0 28 = .ok (.goto (-16), 3) := by decide +kernel
theorem d_X14_library_0_31 : decode b_X14_library_0 31 = .ok (.iload 4, 2) := by decide +kernel
theorem d_X14_library_0_33 : decode b_X14_library_0 33 = .ok (.iload_n 2, 1) := by decide +kernel
theorem d_X14_library_0_34 : decode b_X14_library_0 34 = .ok (.isub, 1) := by decide +kernel
theorem d_X14_library_0_35 : decode b_X14_library_0 35 = .ok (.aload_n 0, 1) := by decide +kernel
theorem d_X14_library_0_36 : decode b_X14_library_0 36 = .ok (.getfield 76, 3) := by decide +kernel
theorem d_X14_library_0_39 : decode b_X14_library_0 39 = .ok (.iload_n 1, 1) := by decide +kernel
theorem d_X14_library_0_40 : decode b_X14_library_0 40 = .ok (.iaload, 1) := by decide +kernel
theorem d_X14_library_0_41 : decode b_X14_library_0 41 = .ok (.if_icmp .ne 7, 3) := by decide +kernel
theorem d_X14_library_0_44 : decode b_X14_library_0 44 = .ok (.iconst 1, 1) := by decide +kernel
theorem d_X14_library_0_45 : decode b_X14_library_0 45 = .ok (.goto 4, 3) := by decide +kernel
theorem d_X14_library_0_48 : decode b_X14_library_0 48 = .ok (.iconst 0, 1) := by decide +kernel
theorem d_X14_library_0_49 : decode b_X14_library_0 49 = .ok (.istore 5, 2) := by decide +kernel
theorem d_X14_library_0_51 : decode b_X14_library_0 51 = .ok (.iconst 0, 1) := by decide +kernel
theorem d_X14_library_0_52 : decode b_X14_library_0 52 = .ok (.istore 6, 2) := by decide +kernel
theorem d_X14_library_0_54 : decode b_X14_library_0 54 = .ok (.iload 5, 2) := by decide +kernel
theorem d_X14_library_0_56 : decode b_X14_library_0 56 = .ok (.ifCond .eq 52, 3) := by decide +kernel
theorem d_X14_library_0_59 : decode b_X14_library_0 59 = .ok (.iload 6, 2) := by decide +kernel
theorem d_X14_library_0_61 : decode b_X14_library_0 61 = .ok (.iload 4, 2) := by decide +kernel
theorem d_X14_library_0_63 : decode b_X14_library_0 63 = .ok (.iload_n 2, 1) := by decide +kernel
theorem d_X14_library_0_64 : decode b_X14_library_0 64 = .ok (.isub, 1) := by decide +kernel
theorem d_X14_library_0_65 : decode b_X14_library_0 65 = .ok (.if_icmp .ge 43, 3) := by decide +kernel
theorem d_X14_library_0_68 : decode b_X14_library_0 68 = .ok (.ldc_w 692, 3) := by decide +kernel
theorem d_X14_library_0_71 : decode b_X14_library_0 71 = .ok (.iload_n 2, 1) := by decide +kernel
theorem d_X14_library_0_72 : decode b_X14_library_0 72 = .ok (.iload 6, 2) := by decide +kernel
theorem d_X14_library_0_74 : decode b_X14_library_0 74 = .ok (.iadd, 1) := by decide +kernel
theorem d_X14_library_0_75 : decode b_X14_library_0 75 = .ok (.invokevirtual 270, 3) := by decide +kernel
theorem d_X14_library_0_78 : decode b_X14_library_0 78 = .ok (.aload_n 0, 1) := by decide +kernel
theorem d_X14_library_0_79 : decode b_X14_library_0 79 = .ok (.getfield 80, 3) := by decide +kernel
theorem d_X14_library_0_82 : decode b_X14_library_0 82 = .ok (.aload_n 0, 1) := by decide +kernel
theorem d_X14_library_0_83 : decode b_X14_library_0 83 = .ok (.getfield 73, 3) := by decide +kernel
theorem d_X14_library_0_86 : decode b_X14_library_0 86 = .ok (.iload_n 1, 1) := by decide +kernel
theorem d_X14_library_0_87 : decode b_X14_library_0 87 = .ok (.iaload, 1) := by decide +kernel
theorem d_X14_library_0_88 : decode b_X14_library_0 88 = .ok (.iload 6, 2) := by decide +kernel
theorem d_X14_library_0_90 : decode b_X14_library_0 90 = .ok (.iadd, 1) := by decide +kernel
theorem d_X14_library_0_91 : decode b_X14_library_0 91 = .ok (.baload, 1) := by decide +kernel
theorem d_X14_library_0_92 : decode b_X14_library_0 92 = .ok (.if_icmp .ne 7, 3) := by decide +kernel
theorem d_X14_library_0_95 : decode b_X14_library_0 95 = .ok (.iconst 1, 1) := by decide +kernel
theorem d_X14_library_0_96 : decode b_X14_library_0 96 = .ok (.goto 4, 3) := by decide +kernel
theorem d_X14_library_0_99 : decode b_X14_library_0 99 = .ok (.iconst 0, 1) := by decide +kernel
theorem d_X14_library_0_100 : decode b_X14_library_0 100 = .ok (.istore 5, 2) := by decide +kernel
theorem d_X14_library_0_102 : decode b_X14_library_0 102 = .ok (.iinc 6 1, 3) := by decide +kernel
theorem d_X14_library_0_105 : decode b_X14_library_0 105 = .ok (.goto (-51), 3) := by decide +kernel
theorem d_X14_library_0_108 : decode b_X14_library_0 108 = .ok (.iload 5, 2) := by decide +kernel
theorem d_X14_library_0_110 : decode b_X14_library_0 110 = .ok (.ifCond .eq 5, 3) := by decide +kernel
theorem d_X14_library_0_113 : decode b_X14_library_0 113 = .ok (.iload_n 3, 1) := by decide +kernel
theorem d_X14_library_0_114 : decode b_X14_library_0 114 = .ok (.ireturn, 1) := by decide +kernel
theorem d_X14_library_0_115 : decode b_X14_library_0 115 = .ok (.iload 4, 2) := by decide +kernel
theorem d_X14_library_0_117 : decode b_X14_library_0 117 = .ok (.iconst 1, 1) := by decide +kernel
theorem d_X14_library_0_118 : decode b_X14_library_0 118 = .ok (.iadd, 1) := by decide +kernel
theorem d_X14_library_0_119 : decode b_X14_library_0 119 = .ok (.istore_n 2, 1) := by decide +kernel
theorem d_X14_library_0_120 : decode b_X14_library_0 120 = .ok (.iinc 3 1, 3) := by decide +kernel
theorem d_X14_library_0_123 : decode b_X14_library_0 123 = .ok (.goto (-119), 3) := by decide +kernel
theorem d_X14_library_0_126 : decode b_X14_library_0 126 = .ok (.iconst (-1), 1) := by decide +kernel
theorem d_X14_library_0_127 : decode b_X14_library_0 127 = .ok (.ireturn, 1) := by decide +kernel
theorem d_X14_library_1_0 : decode b_X14_library_1 0 = .ok (.iload_n 1, 1) := by decide +kernel
theorem d_X14_library_1_1 : decode b_X14_library_1 1 = .ok (.ifCond .ne 57, 3) := by decide +kernel
theorem d_X14_library_1_4 : decode b_X14_library_1 4 = .ok (.aload_n 0, 1) := by decide +kernel
theorem d_X14_library_1_5 : decode b_X14_library_1 5 = .ok (.aload_n 0, 1) := by decide +kernel
theorem d_X14_library_1_6 : decode b_X14_library_1 6 = .ok (.getfield 750, 3) := by decide +kernel
theorem d_X14_library_1_9 : decode b_X14_library_1 9 = .ok (.aload_n 0, 1) := by decide +kernel
theorem d_X14_library_1_10 : decode b_X14_library_1 10 = .ok (.getfield 741, 3) := by decide +kernel
theorem d_X14_library_1_13 : decode b_X14_library_1 13 = .ok (.if_icmp .ge 19, 3) := by decide +kernel
theorem d_X14_library_1_16 : decode b_X14_library_1 16 = .ok (.aload_n 0, 1) := by decide +kernel
theorem d_X14_library_1_17 : decode b_X14_library_1 17 = .ok (.getfield 188, 3) := by decide +kernel
theorem d_X14_library_1_20 : decode b_X14_library_1 20 = .ok (.aload_n 0, 1) := by decide +kernel
theorem d_X14_library_1_21 : decode b_X14_library_1 21 = .ok (.getfield 750, 3) := by decide +kernel
theorem d_X14_library_1_24 : decode b_X14_library_1 24 = .ok (.baload, 1) := by decide +kernel
theorem d_X14_library_1_25 : decode b_X14_library_1 25 = .ok (.sipush 255, 3) := by decide +kernel
theorem d_X14_library_1_28 : decode b_X14_library_1 28 = .ok (.iand, 1) := by decide +kernel
theorem d_X14_library_1_29 : decode b_X14_library_1 29 = .ok (.goto 4, 3) := by decide +kernel
theorem d_X14_library_1_32 : decode b_X14_library_1 32 = .ok (.iconst (-1), 1) := by decide +kernel
theorem d_X14_library_1_33 : decode b_X14_library_1 33 = .ok (.invokevirtual 796, 3) := by decide +kernel
theorem d_X14_library_1_36 : decode b_X14_library_1 36 = .ok (.aload_n 0, 1) := by decide +kernel
theorem d_X14_library_1_37 : decode b_X14_library_1 37 = .ok (.getfield 750, 3) := by decide +kernel
theorem d_X14_library_1_40 : decode b_X14_library_1 40 = .ok (.aload_n 0, 1) := by decide +kernel
theorem d_X14_library_1_41 : decode b_X14_library_1 41 = .ok (.getfield 741, 3) := by decide +kernel
theorem d_X14_library_1_44 : decode b_X14_library_1 44 = .ok (.if_icmp .ge 13, 3) := by decide +kernel
theorem d_X14_library_1_47 : decode b_X14_library_1 47 = .ok (.aload_n 0, 1) := by decide +kernel
theorem d_X14_library_1_48 : decode b_X14_library_1 48 = .ok (.dup, 1) := by decide +kernel
theorem d_X14_library_1_49 : decode b_X14_library_1 49 = .ok (.getfield 750, 3) := by decide +kernel
theorem d_X14_library_1_52 : decode b_X14_library_1 52 = .ok (.iconst 1, 1) := by decide +kernel
theorem d_X14_library_1_53 : decode b_X14_library_1 53 = .ok (.iadd, 1) := by decide +kernel
theorem d_X14_library_1_54 : decode b_X14_library_1 54 = .ok (.putfield 750, 3) := by decide +kernel
theorem d_X14_library_1_57 : decode b_X14_library_1 57 = .ok (.return_, 1) := by decide +kernel
theorem d_X14_library_1_58 : decode b_X14_library_1 58 = .ok (.aload_n 0, 1) := by decide +kernel
theorem d_X14_library_1_59 : decode b_X14_library_1 59 = .ok (.invokevirtual 805, 3) := by decide +kernel
theorem d_X14_library_1_62 : decode b_X14_library_1 62 = .ok (.istore_n 3, 1) := by decide +kernel
theorem d_X14_library_1_63 : decode b_X14_library_1 63 = .ok (.iload_n 1, 1) := by decide +kernel
theorem d_X14_library_1_64 : decode b_X14_library_1 64 = .ok (.iconst 1, 1) := by decide +kernel
theorem d_X14_library_1_65 : decode b_X14_library_1 65 = .ok (.if_icmp .ne 12, 3) := by decide +kernel
theorem d_X14_library_1_68 : decode b_X14_library_1 68 = .ok (.aload_n 0, 1) := by decide +kernel
theorem d_X14_library_1_69 : decode b_X14_library_1 69 = .ok (.iload_n 3, 1) := by decide +kernel
theorem d_X14_library_1_70 : decode b_X14_library_1 70 = .ok (.iload_n 2, 1) := by decide +kernel
theorem d_X14_library_1_71 : decode b_X14_library_1 71 = .ok (.invokevirtual 825, 3) := by decide +kernel
theorem d_X14_library_1_74 : decode b_X14_library_1 74 = .ok (.goto 27, 3) := by decide +kernel
theorem d_X14_library_1_77 : decode b_X14_library_1 77 = .ok (.iload_n 1, 1) := by decide +kernel
theorem d_X14_library_1_78 : decode b_X14_library_1 78 = .ok (.iconst 2, 1) := by decide +kernel
theorem d_X14_library_1_79 : decode b_X14_library_1 79 = .ok (.if_icmp .ne 12, 3) := by decide +kernel
theorem d_X14_library_1_82 : decode b_X14_library_1 82 = .ok (.aload_n 0, 1) := by decide +kernel
theorem d_X14_library_1_83 : decode b_X14_library_1 83 = .ok (.iload_n 3, 1) := by decide +kernel
theorem d_X14_library_1_84 : decode b_X14_library_1 84 = .ok (.iload_n 2, 1) := by decide +kernel
theorem d_X14_library_1_85 : decode b_X14_library_1 85 = .ok (.invokevirtual 828, 3) := by decide +kernel
theorem d_X14_library_1_88 : decode b_X14_library_1 88 = .ok (.goto 13, 3) := by decide +kernel
theorem d_X14_library_1_91 : decode b_X14_library_1 91 = .ok (.aload_n 0, 1) := by decide +kernel
theorem d_X14_library_1_92 : decode b_X14_library_1 92 = .ok (.iload_n 3, 1) := by decide +kernel
theorem d_X14_library_1_93 : decode b_X14_library_1 93 = .ok (.putfield 759, 3) := by decide +kernel
theorem d_X14_library_1_96 : decode b_X14_library_1 96 = .ok (.aload_n 0, 1) := by decide +kernel
theorem d_X14_library_1_97 : decode b_X14_library_1 97 = .ok (.iconst 5, 1) := by decide +kernel
theorem d_X14_library_1_98 : decode b_X14_library_1 98 = .ok (.putfield 774, 3) := by decide +kernel
theorem d_X14_library_1_101 : decode b_X14_library_1 101 = .ok (.return_, 1) := by decide +kernel
theorem d_X14_lineEnd_0 : decode b_X14_lineEnd 0 = .ok (.iload_n 1, 1) := by decide +kernel
theorem d_X14_lineEnd_1 : decode b_X14_lineEnd 1 = .ok (.istore_n 2, 1) := by decide +kernel
theorem d_X14_lineEnd_2 : decode b_X14_lineEnd 2 = .ok (.iload_n 2, 1) := by decide +kernel
theorem d_X14_lineEnd_3 : decode b_X14_lineEnd 3 = .ok (.aload_n 0, 1) := by decide +kernel
theorem d_X14_lineEnd_4 : decode b_X14_lineEnd 4 = .ok (.getfield 203, 3) := by decide +kernel
theorem d_X14_lineEnd_7 : decode b_X14_lineEnd 7 = .ok (.if_icmp .ge 36, 3) := by decide +kernel
theorem d_X14_lineEnd_10 : decode b_X14_lineEnd 10 = .ok (.aload_n 0, 1) := by decide +kernel
theorem d_X14_lineEnd_11 : decode b_X14_lineEnd 11 = .ok (.iload_n 2, 1) := by decide +kernel
theorem d_X14_lineEnd_12 : decode b_X14_lineEnd 12 = .ok (.invokevirtual 209, 3) := by decide +kernel
theorem d_X14_lineEnd_15 : decode b_X14_lineEnd 15 = .ok (.bipush 10, 2) := by decide +kernel
theorem d_X14_lineEnd_17 : decode b_X14_lineEnd 17 = .ok (.if_icmp .eq 26, 3) := by decide +kernel
theorem d_X14_lineEnd_20 : decode b_X14_lineEnd 20 = .ok (.aload_n 0, 1) := by decide +kernel
theorem d_X14_lineEnd_21 : decode b_X14_lineEnd 21 = .ok (.iload_n 2, 1) := by decide +kernel
theorem d_X14_lineEnd_22 : decode b_X14_lineEnd 22 = .ok (.invokevirtual 209, 3) := by decide +kernel
theorem d_X14_lineEnd_25 : decode b_X14_lineEnd 25 = .ok (.invokestatic 213, 3) := by decide +kernel
theorem d_X14_lineEnd_28 : decode b_X14_lineEnd 28 = .ok (.ifCond .ne 9, 3) := by decide +kernel
theorem d_X14_lineEnd_31 : decode b_X14_lineEnd 31 = .ok (.aload_n 0, 1) := by decide +kernel
theorem d_X14_lineEnd_32 : decode b_X14_lineEnd 32 = .ok (.iload_n 2, 1) := by decide +kernel
theorem d_X14_lineEnd_33 : decode b_X14_lineEnd 33 = .ok (.invokevirtual 234, 3) := by decide +kernel
theorem d_X14_lineEnd_36 : decode b_X14_lineEnd 36 = .ok (.ireturn, 1) := by decide +kernel
theorem d_X14_lineEnd_37 : decode b_X14_lineEnd 37 = .ok (.iinc 2 1, 3) := by decide +kernel
theorem d_X14_lineEnd_40 : decode b_X14_lineEnd 40 = .ok (.goto (-38), 3) := by decide +kernel
theorem d_X14_lineEnd_43 : decode b_X14_lineEnd 43 = .ok (.iload_n 2, 1) := by decide +kernel
theorem d_X14_lineEnd_44 : decode b_X14_lineEnd 44 = .ok (.ireturn, 1) := by decide +kernel
theorem d_X14_link_0 : decode b_X14_link 0 = .ok (.aload_n 0, 1) := by decide +kernel
theorem d_X14_link_1 : decode b_X14_link 1 = .ok (.getfield 689, 3) := by decide +kernel
theorem d_X14_link_4 : decode b_X14_link 4 = .ok (.istore_n 1, 1) := by decide +kernel
theorem d_X14_link_5 : decode b_X14_link 5 = .ok (.aload_n 0, 1) := by decide +kernel
theorem d_X14_link_6 : decode b_X14_link 6 = .ok (.iconst 0, 1) := by decide +kernel
theorem d_X14_link_7 : decode b_X14_link 7 = .ok (.putfield 689, 3) := by decide +kernel
theorem d_X14_link_10 : decode b_X14_link 10 = .ok (.aload_n 0, 1) := by decide +kernel
theorem d_X14_link_11 : decode b_X14_link 11 = .ok (.iconst (-1), 1) := by decide +kernel
theorem d_X14_link_12 : decode b_X14_link 12 = .ok (.putfield 153, 3) := by decide +kernel
theorem d_X14_link_15 : decode b_X14_link 15 = .ok (.aload_n 0, 1) := by decide +kernel
theorem d_X14_link_16 : decode b_X14_link 16 = .ok (.iconst (-1), 1) := by decide +kernel
theorem d_X14_link_17 : decode b_X14_link 17 = .ok (.putfield 156, 3) := by decide +kernel
theorem d_X14_link_20 : decode b_X14_link 20 = .ok (.bipush 31, 2) := by decide +kernel
theorem d_X14_link_22 : decode b_X14_link 22 = .ok (.istore_n 2, 1) := by decide +kernel
theorem d_X14_link_23 : decode b_X14_link 23 = .ok (.iload_n 2, 1) := by decide +kernel
theorem d_X14_link_24 : decode b_X14_link 24 = .ok (.bipush 34, 2) := by decide +kernel
theorem d_X14_link_26 : decode b_X14_link 26 = .ok (.if_icmp .ge 21, 3) := by decide +kernel
theorem d_X14_link_29 : decode b_X14_link 29 = .ok (.aload_n 0, 1) := by decide +kernel
theorem d_X14_link_30 : decode b_X14_link 30 = .ok (.iload_n 2, 1) := by decide +kernel
theorem d_X14_link_31 : decode b_X14_link 31 = .ok (.iload_n 1, 1) := by decide +kernel
theorem d_X14_link_32 : decode b_X14_link 32 = .ok (.invokevirtual 723, 3) := by decide +kernel
theorem d_X14_link_35 : decode b_X14_link 35 = .ok (.ifCond .eq 6, 3) := by decide +kernel
theorem d_X14_link_38 : decode b_X14_link 38 = .ok (.iload_n 2, 1) := by decide +kernel
theorem d_X14_link_39 : decode b_X14_link 39 = .ok (.ineg, 1) := by decide +kernel
theorem d_X14_link_40 : decode b_X14_link 40 = .ok (.ireturn, 1) := by decide +kernel
theorem d_X14_link_41 : decode b_X14_link 41 = .ok (.iinc 2 1, 3) := by decide +kernel
theorem d_X14_link_44 : decode b_X14_link 44 = .ok (.goto (-21), 3) := by decide +kernel
theorem d_X14_link_47 : decode b_X14_link 47 = .ok (.aload_n 0, 1) := by decide +kernel
theorem d_X14_link_48 : decode b_X14_link 48 = .ok (.iload_n 1, 1) := by decide +kernel
theorem d_X14_link_49 : decode b_X14_link 49 = .ok (.invokevirtual 726, 3) := by decide +kernel
theorem d_X14_link_52 : decode b_X14_link 52 = .ok (.istore_n 2, 1) := by decide +kernel
theorem d_X14_link_53 : decode b_X14_link 53 = .ok (.iload_n 2, 1) := by decide +kernel
theorem d_X14_link_54 : decode b_X14_link 54 = .ok (.ifCond .ge 6, 3) := by decide +kernel
theorem d_X14_link_57 : decode b_X14_link 57 = .ok (.bipush (-34), 2) := by decide +kernel
theorem d_X14_link_59 : decode b_X14_link 59 = .ok (.ireturn, 1) := by decide +kernel
theorem d_X14_link_60 : decode b_X14_link 60 = .ok (.iconst 0, 1) := by decide +kernel
theorem d_X14_link_61 : decode b_X14_link 61 = .ok (.istore_n 3, 1) := by decide +kernel
theorem d_X14_link_62 : decode b_X14_link 62 = .ok (.iconst 0, 1) := by decide +kernel
theorem d_X14_link_63 : decode b_X14_link 63 = .ok (.istore 4, 2) := by decide +kernel
theorem d_X14_link_65 : decode b_X14_link 65 = .ok (.iload 4, 2) := by decide +kernel
theorem d_X14_link_67 : decode b_X14_link 67 = .ok (.iload_n 1, 1) := by decide +kernel
theorem d_X14_link_68 : decode b_X14_link 68 = .ok (.if_icmp .ge 26, 3) := by decide +kernel
theorem d_X14_link_71 : decode b_X14_link 71 = .ok (.iload_n 3, 1) := by decide +kernel
theorem d_X14_link_72 : decode b_X14_link 72 = .ok (.aload_n 0, 1) := by decide +kernel
theorem d_X14_link_73 : decode b_X14_link 73 = .ok (.getfield 89, 3) := by decide +kernel
theorem d_X14_link_76 : decode b_X14_link 76 = .ok (.aload_n 0, 1) := by decide +kernel
theorem d_X14_link_77 : decode b_X14_link 77 = .ok (.getfield 141, 3) := by decide +kernel
theorem d_X14_link_80 : decode b_X14_link 80 = .ok (.iload 4, 2) := by decide +kernel
theorem d_X14_link_82 : decode b_X14_link 82 = .ok (.iaload, 1) := by decide +kernel
theorem d_X14_link_83 : decode b_X14_link 83 = .ok (.iconst 1, 1) := by decide +kernel
theorem d_X14_link_84 : decode b_X14_link 84 = .ok (.isub, 1) := by decide +kernel
theorem d_X14_link_85 : decode b_X14_link 85 = .ok (.iaload, 1) := by decide +kernel
theorem d_X14_link_86 : decode b_X14_link 86 = .ok (.iadd, 1) := by decide +kernel
theorem d_X14_link_87 : decode b_X14_link 87 = .ok (.istore_n 3, 1) := by decide +kernel
theorem d_X14_link_88 : decode b_X14_link 88 = .ok (.iinc 4 1, 3) := by decide +kernel
theorem d_X14_link_91 : decode b_X14_link 91 = .ok (.goto (-26), 3) := by decide +kernel
theorem d_X14_link_94 : decode b_X14_link 94 = .ok (.iload_n 3, 1) := by decide +kernel
theorem d_X14_link_95 : decode b_X14_link 95 = .ok (.sipush 16000, 3) := by decide +kernel
theorem d_X14_link_98 : decode b_X14_link 98 = .ok (.if_icmp .le 6, 3) := by decide +kernel
theorem d_X14_link_101 : decode b_X14_link 101 = .ok (.bipush (-35), 2) := by decide +kernel
theorem d_X14_link_103 : decode b_X14_link 103 = .ok (.ireturn, 1) := by decide +kernel
theorem d_X14_link_104 : decode b_X14_link 104 = .ok (.aload_n 0, 1) := by decide +kernel
theorem d_X14_link_105 : decode b_X14_link 105 = .ok (.iload_n 2, 1) := by decide +kernel
theorem d_X14_link_106 : decode b_X14_link 106 = .ok (.putfield 729, 3) := by decide +kernel
theorem d_X14_link_109 : decode b_X14_link 109 = .ok (.aload_n 0, 1) := by decide +kernel
theorem d_X14_link_110 : decode b_X14_link 110 = .ok (.iload_n 1, 1) := by decide +kernel
theorem d_X14_link_111 : decode b_X14_link 111 = .ok (.invokevirtual 732, 3) := by decide +kernel
theorem d_X14_link_114 : decode b_X14_link 114 = .ok (.iconst 0, 1) := by decide +kernel
theorem d_X14_link_115 : decode b_X14_link 115 = .ok (.ireturn, 1) := by decide +kernel
theorem d_X14_local_0 : decode b_X14_local 0 = .ok (.aload_n 0, 1) := by decide +kernel
theorem d_X14_local_1 : decode b_X14_local 1 = .ok (.getfield 340, 3) := by decide +kernel
theorem d_X14_local_4 : decode b_X14_local 4 = .ok (.iconst 1, 1) := by decide +kernel
theorem d_X14_local_5 : decode b_X14_local 5 = .ok (.isub, 1) := by decide +kernel
theorem d_X14_local_6 : decode b_X14_local 6 = .ok (.istore_n 2, 1) := by decide +kernel
theorem d_X14_local_7 : decode b_X14_local 7 = .ok (.iload_n 2, 1) := by decide +kernel
theorem d_X14_local_8 : decode b_X14_local 8 = .ok (.ifCond .lt 30, 3) := by decide +kernel
theorem d_X14_local_11 : decode b_X14_local 11 = .ok (.aload_n 0, 1) := by decide +kernel
theorem d_X14_local_12 : decode b_X14_local 12 = .ok (.aload_n 0, 1) := by decide +kernel
theorem d_X14_local_13 : decode b_X14_local 13 = .ok (.getfield 123, 3) := by decide +kernel
theorem d_X14_local_16 : decode b_X14_local 16 = .ok (.iload_n 2, 1) := by decide +kernel
theorem d_X14_local_17 : decode b_X14_local 17 = .ok (.iaload, 1) := by decide +kernel
theorem d_X14_local_18 : decode b_X14_local 18 = .ok (.iload_n 1, 1) := by decide +kernel
theorem d_X14_local_19 : decode b_X14_local 19 = .ok (.invokevirtual 343, 3) := by decide +kernel
theorem d_X14_local_22 : decode b_X14_local 22 = .ok (.ifCond .eq 10, 3) := by decide +kernel
theorem d_X14_local_25 : decode b_X14_local 25 = .ok (.aload_n 0, 1) := by decide +kernel
theorem d_X14_local_26 : decode b_X14_local 26 = .ok (.getfield 126, 3) := by decide +kernel
theorem d_X14_local_29 : decode b_X14_local 29 = .ok (.iload_n 2, 1) := by decide +kernel
theorem d_X14_local_30 : decode b_X14_local 30 = .ok (.iaload, 1) := by decide +kernel
theorem d_X14_local_31 : decode b_X14_local 31 = .ok (.ireturn, 1) := by decide +kernel
theorem d_X14_local_32 : decode b_X14_local 32 = .ok (.iinc 2 (-1), 3) := by decide +kernel
theorem d_X14_local_35 : decode b_X14_local 35 = .ok (.goto (-28), 3) := by decide +kernel
theorem d_X14_local_38 : decode b_X14_local 38 = .ok (.iconst (-1), 1) := by decide +kernel
theorem d_X14_local_39 : decode b_X14_local 39 = .ok (.ireturn, 1) := by decide +kernel
theorem d_X14_localName_0 : decode b_X14_localName 0 = .ok (.aload_n 0, 1) := by decide +kernel
theorem d_X14_localName_1 : decode b_X14_localName 1 = .ok (.aload_n 0, 1) := by decide +kernel
theorem d_X14_localName_2 : decode b_X14_localName 2 = .ok (.iload_n 1, 1) := by decide +kernel
theorem d_X14_localName_3 : decode b_X14_localName 3 = .ok (.invokevirtual 625, 3) := by decide +kernel
theorem d_X14_localName_6 : decode b_X14_localName 6 = .ok (.ifCond .ne 7, 3) := by decide +kernel
theorem d_X14_localName_9 : decode b_X14_localName 9 = .ok (.iconst 1, 1) := by decide +kernel
theorem d_X14_localName_10 : decode b_X14_localName 10 = .ok (.goto 4, 3) := by decide +kernel
theorem d_X14_localName_13 : decode b_X14_localName 13 = .ok (.iconst 0, 1) := by decide +kernel
theorem d_X14_localName_14 : decode b_X14_localName 14 = .ok (.iload_n 1, 1) := by decide +kernel
theorem d_X14_localName_15 : decode b_X14_localName 15 = .ok (.invokevirtual 410, 3) := by decide +kernel
theorem d_X14_localName_18 : decode b_X14_localName 18 = .ok (.aload_n 0, 1) := by decide +kernel
theorem d_X14_localName_19 : decode b_X14_localName 19 = .ok (.iload_n 1, 1) := by decide +kernel
theorem d_X14_localName_20 : decode b_X14_localName 20 = .ok (.iload_n 2, 1) := by decide +kernel
theorem d_X14_localName_21 : decode b_X14_localName 21 = .ok (.invokevirtual 628, 3) := by decide +kernel
theorem d_X14_localName_24 : decode b_X14_localName 24 = .ok (.istore 4, 2) := by decide +kernel
theorem d_X14_localName_26 : decode b_X14_localName 26 = .ok (.iload 4, 2) := by decide +kernel
theorem d_X14_localName_28 : decode b_X14_localName 28 = .ok (.ifCond .lt 23, 3) := by decide +kernel
theorem d_X14_localName_31 : decode b_X14_localName 31 = .ok (.aload_n 0, 1) := by decide +kernel
theorem d_X14_localName_32 : decode b_X14_localName 32 = .ok (.getfield 117, 3) := by decide +kernel
theorem d_X14_localName_35 : decode b_X14_localName 35 = .ok (.iload 4, 2) := by decide +kernel
theorem d_X14_localName_37 : decode b_X14_localName 37 = .ok (.iload_n 3, 1) := by decide +kernel
theorem d_X14_localName_38 : decode b_X14_localName 38 = .ok (.ifCond .ge 7, 3) := by decide +kernel
theorem d_X14_localName_41 : decode b_X14_localName 41 = .ok (.iconst (-1), 1) := by decide +kernel
theorem d_X14_localName_42 : decode b_X14_localName 42 = .ok (.goto 8, 3) := by decide +kernel
theorem d_X14_localName_45 : decode b_X14_localName 45 = .ok (.iload_n 3, 1) := by decide +kernel
theorem d_X14_localName_46 : decode b_X14_localName 46 = .ok (.iconst 1, 1) := by decide +kernel
theorem d_X14_localName_47 : decode b_X14_localName 47 = .ok (.invokestatic 374, 3) := by decide +kernel
theorem d_X14_localName_50 : decode b_X14_localName 50 = .ok (.iastore, 1) := by decide +kernel
theorem d_X14_localName_51 : decode b_X14_localName 51 = .ok (.iload 4, 2) := by decide +kernel
theorem d_X14_localName_53 : decode b_X14_localName 53 = .ok (.ireturn, 1) := by decide +kernel
theorem d_X14_look_0 : decode b_X14_look 0 = .ok (.iload_n 1, 1) := by decide +kernel
theorem d_X14_look_1 : decode b_X14_look 1 = .ok (.aload_n 0, 1) := by decide +kernel
theorem d_X14_look_2 : decode b_X14_look 2 = .ok (.getfield 203, 3) := by decide +kernel
theorem d_X14_look_5 : decode b_X14_look 5 = .ok (.if_icmp .ge 16, 3) := by decide +kernel
theorem d_X14_look_8 : decode b_X14_look 8 = .ok (.aload_n 0, 1) := by decide +kernel
theorem d_X14_look_9 : decode b_X14_look 9 = .ok (.getfield 9, 3) := by decide +kernel
theorem d_X14_look_12 : decode b_X14_look 12 = .ok (.iload_n 1, 1) := by decide +kernel
theorem d_X14_look_13 : decode b_X14_look 13 = .ok (.baload, 1) := by decide +kernel
theorem d_X14_look_14 : decode b_X14_look 14 = .ok (.sipush 255, 3) := by decide +kernel
theorem d_X14_look_17 : decode b_X14_look 17 = .ok (.iand, 1) := by decide +kernel
theorem d_X14_look_18 : decode b_X14_look 18 = .ok (.goto 4, 3) := by decide +kernel
theorem d_X14_look_21 : decode b_X14_look 21 = .ok (.iconst (-1), 1) := by decide +kernel
theorem d_X14_look_22 : decode b_X14_look 22 = .ok (.ireturn, 1) := by decide +kernel
theorem d_X14_loop_0 : decode b_X14_loop 0 = .ok (.aload_n 0, 1) := by decide +kernel
theorem d_X14_loop_1 : decode b_X14_loop 1 = .ok (.getfield 558, 3) := by decide +kernel
theorem d_X14_loop_4 : decode b_X14_loop 4 = .ok (.istore 4, 2) := by decide +kernel
theorem d_X14_loop_6 : decode b_X14_loop 6 = .ok (.aload_n 0, 1) := by decide +kernel
theorem d_X14_loop_7 : decode b_X14_loop 7 = .ok (.getfield 576, 3) := by decide +kernel
theorem d_X14_loop_10 : decode b_X14_loop 10 = .ok (.istore 5, 2) := by decide +kernel
theorem d_X14_loop_12 : decode b_X14_loop 12 = .ok (.aload_n 0, 1) := by decide +kernel
theorem d_X14_loop_13 : decode b_X14_loop 13 = .ok (.iconst (-1), 1) := by decide +kernel
theorem d_X14_loop_14 : decode b_X14_loop 14 = .ok (.putfield 558, 3) := by decide +kernel
theorem d_X14_loop_17 : decode b_X14_loop 17 = .ok (.aload_n 0, 1) := by decide +kernel
theorem d_X14_loop_18 : decode b_X14_loop 18 = .ok (.iconst (-1), 1) := by decide +kernel
theorem d_X14_loop_19 : decode b_X14_loop 19 = .ok (.putfield 576, 3) := by decide +kernel
theorem d_X14_loop_22 : decode b_X14_loop 22 = .ok (.aload_n 0, 1) := by decide +kernel
theorem d_X14_loop_23 : decode b_X14_loop 23 = .ok (.dup, 1) := by decide +kernel
theorem d_X14_loop_24 : decode b_X14_loop 24 = .ok (.getfield 573, 3) := by decide +kernel
theorem d_X14_loop_27 : decode b_X14_loop 27 = .ok (.iconst 1, 1) := by decide +kernel
theorem d_X14_loop_28 : decode b_X14_loop 28 = .ok (.iadd, 1) := by decide +kernel
theorem d_X14_loop_29 : decode b_X14_loop 29 = .ok (.putfield 573, 3) := by decide +kernel
theorem d_X14_loop_32 : decode b_X14_loop 32 = .ok (.aload_n 0, 1) := by decide +kernel
theorem d_X14_loop_33 : decode b_X14_loop 33 = .ok (.bipush 18, 2) := by decide +kernel
theorem d_X14_loop_35 : decode b_X14_loop 35 = .ok (.aload_n 0, 1) := by decide +kernel
theorem d_X14_loop_36 : decode b_X14_loop 36 = .ok (.getfield 23, 3) := by decide +kernel
theorem d_X14_loop_39 : decode b_X14_loop 39 = .ok (.iload_n 2, 1) := by decide +kernel
theorem d_X14_loop_40 : decode b_X14_loop 40 = .ok (.iaload, 1) := by decide +kernel
theorem d_X14_loop_41 : decode b_X14_loop 41 = .ok (.invokevirtual 322, 3) := by decide +kernel
theorem d_X14_loop_44 : decode b_X14_loop 44 = .ok (.aload_n 0, 1) := by decide +kernel
theorem d_X14_loop_45 : decode b_X14_loop 45 = .ok (.iload_n 1, 1) := by decide +kernel
theorem d_X14_loop_46 : decode b_X14_loop 46 = .ok (.invokevirtual 549, 3) := by decide +kernel
theorem d_X14_loop_49 : decode b_X14_loop 49 = .ok (.aload_n 0, 1) := by decide +kernel
theorem d_X14_loop_50 : decode b_X14_loop 50 = .ok (.dup, 1) := by decide +kernel
theorem d_X14_loop_51 : decode b_X14_loop 51 = .ok (.getfield 573, 3) := by decide +kernel
theorem d_X14_loop_54 : decode b_X14_loop 54 = .ok (.iconst 1, 1) := by decide +kernel
theorem d_X14_loop_55 : decode b_X14_loop 55 = .ok (.isub, 1) := by decide +kernel
theorem d_X14_loop_56 : decode b_X14_loop 56 = .ok (.putfield 573, 3) := by decide +kernel
theorem d_X14_loop_59 : decode b_X14_loop 59 = .ok (.aload_n 0, 1) := by decide +kernel
theorem d_X14_loop_60 : decode b_X14_loop 60 = .ok (.aload_n 0, 1) := by decide +kernel
theorem d_X14_loop_61 : decode b_X14_loop 61 = .ok (.getfield 576, 3) := by decide +kernel
theorem d_X14_loop_64 : decode b_X14_loop 64 = .ok (.iload_n 3, 1) := by decide +kernel
theorem d_X14_loop_65 : decode b_X14_loop 65 = .ok (.ifCond .lt 7, 3) := by decide +kernel
theorem d_X14_loop_68 : decode b_X14_loop 68 = .ok (.iload_n 3, 1) := by decide +kernel
theorem d_X14_loop_69 : decode b_X14_loop 69 = .ok (.goto 7, 3) := by decide +kernel
theorem d_X14_loop_72 : decode b_X14_loop 72 = .ok (.aload_n 0, 1) := by decide +kernel
theorem d_X14_loop_73 : decode b_X14_loop 73 = .ok (.getfield 315, 3) := by decide +kernel
theorem d_X14_loop_76 : decode b_X14_loop 76 = .ok (.invokevirtual 564, 3) := by decide +kernel
theorem d_X14_loop_79 : decode b_X14_loop 79 = .ok (.aload_n 0, 1) := by decide +kernel
theorem d_X14_loop_80 : decode b_X14_loop 80 = .ok (.iload 5, 2) := by decide +kernel
theorem d_X14_loop_82 : decode b_X14_loop 82 = .ok (.putfield 576, 3) := by decide +kernel
theorem d_X14_loop_85 : decode b_X14_loop 85 = .ok (.aload_n 0, 1) := by decide +kernel
theorem d_X14_loop_86 : decode b_X14_loop 86 = .ok (.iload 4, 2) := by decide +kernel
theorem d_X14_loop_88 : decode b_X14_loop 88 = .ok (.putfield 561, 3) := by decide +kernel
theorem d_X14_loop_91 : decode b_X14_loop 91 = .ok (.return_, 1) := by decide +kernel
theorem d_X14_made_0 : decode b_X14_made 0 = .ok (.new 353, 3) := by decide +kernel
theorem d_X14_made_3 : decode b_X14_made 3 = .ok (.dup, 1) := by decide +kernel
theorem d_X14_made_4 : decode b_X14_made 4 = .ok (.iload_n 1, 1) := by decide +kernel
theorem d_X14_made_5 : decode b_X14_made 5 = .ok (.invokespecial 369, 3) := by decide +kernel
theorem d_X14_made_8 : decode b_X14_made 8 = .ok (.astore 5, 2) := by decide +kernel
theorem d_X14_made_10 : decode b_X14_made 10 = .ok (.aload 5, 2) := by decide +kernel
theorem d_X14_made_12 : decode b_X14_made 12 = .ok (.aload_n 2, 1) := by decide +kernel
theorem d_X14_made_13 : decode b_X14_made 13 = .ok (.getfield 371, 3) := by decide +kernel
theorem d_X14_made_16 : decode b_X14_made 16 = .ok (.aload_n 3, 1) := by decide +kernel
theorem d_X14_made_17 : decode b_X14_made 17 = .ok (.getfield 371, 3) := by decide +kernel
theorem d_X14_made_20 : decode b_X14_made 20 = .ok (.invokestatic 374, 3) := by decide +kernel
theorem d_X14_made_23 : decode b_X14_made 23 = .ok (.iconst 1, 1) := by decide +kernel
theorem d_X14_made_24 : decode b_X14_made 24 = .ok (.iadd, 1) := by decide +kernel
theorem d_X14_made_25 : decode b_X14_made 25 = .ok (.putfield 371, 3) := by decide +kernel
theorem d_X14_made_28 : decode b_X14_made 28 = .ok (.aload 5, 2) := by decide +kernel
theorem d_X14_made_30 : decode b_X14_made 30 = .ok (.getfield 371, 3) := by decide +kernel
theorem d_X14_made_33 : decode b_X14_made 33 = .ok (.bipush 60, 2) := by decide +kernel
theorem d_X14_made_35 : decode b_X14_made 35 = .ok (.if_icmp .le 10, 3) := by decide +kernel
theorem d_X14_made_38 : decode b_X14_made 38 = .ok (.aload_n 0, 1) := by decide +kernel
theorem d_X14_made_39 : decode b_X14_made 39 = .ok (.iconst 4, 1) := by decide +kernel
theorem d_X14_made_40 : decode b_X14_made 40 = .ok (.iload 4, 2) := by decide +kernel
theorem d_X14_made_42 : decode b_X14_made 42 = .ok (.invokevirtual 304, 3) := by decide +kernel
theorem d_X14_made_45 : decode b_X14_made 45 = .ok (.aload 5, 2) := by decide +kernel
theorem d_X14_made_47 : decode b_X14_made 47 = .ok (.areturn, 1) := by decide +kernel
theorem d_X14_mainOf_0 : decode b_X14_mainOf 0 = .ok (.iconst 0, 1) := by decide +kernel
theorem d_X14_mainOf_1 : decode b_X14_mainOf 1 = .ok (.istore_n 2, 1) := by decide +kernel
theorem d_X14_mainOf_2 : decode b_X14_mainOf 2 = .ok (.iload_n 2, 1) := by decide +kernel
theorem d_X14_mainOf_3 : decode b_X14_mainOf 3 = .ok (.iload_n 1, 1) := by decide +kernel
theorem d_X14_mainOf_4 : decode b_X14_mainOf 4 = .ok (.if_icmp .ge 180, 3) := by decide +kernel
theorem d_X14_mainOf_7 : decode b_X14_mainOf 7 = .ok (.aload_n 0, 1) := by decide +kernel
theorem d_X14_mainOf_8 : decode b_X14_mainOf 8 = .ok (.getfield 86, 3) := by decide +kernel
theorem d_X14_mainOf_11 : decode b_X14_mainOf 11 = .ok (.aload_n 0, 1) := by decide +kernel
theorem d_X14_mainOf_12 : decode b_X14_mainOf 12 = .ok (.getfield 141, 3) := by decide +kernel
theorem d_X14_mainOf_15 : decode b_X14_mainOf 15 = .ok (.iload_n 2, 1) := by decide +kernel
theorem d_X14_mainOf_16 : decode b_X14_mainOf 16 = .ok (.iaload, 1) := by decide +kernel
theorem d_X14_mainOf_17 : decode b_X14_mainOf 17 = .ok (.iconst 1, 1) := by decide +kernel
theorem d_X14_mainOf_18 : decode b_X14_mainOf 18 = .ok (.isub, 1) := by decide +kernel
theorem d_X14_mainOf_19 : decode b_X14_mainOf 19 = .ok (.iaload, 1) := by decide +kernel
theorem d_X14_mainOf_20 : decode b_X14_mainOf 20 = .ok (.istore_n 3, 1) := by decide +kernel
theorem d_X14_mainOf_21 : decode b_X14_mainOf 21 = .ok (.iload_n 3, 1) := by decide +kernel
theorem d_X14_mainOf_22 : decode b_X14_mainOf 22 = .ok (.aload_n 0, 1) := by decide +kernel
theorem d_X14_mainOf_23 : decode b_X14_mainOf 23 = .ok (.getfield 86, 3) := by decide +kernel
theorem d_X14_mainOf_26 : decode b_X14_mainOf 26 = .ok (.aload_n 0, 1) := by decide +kernel
theorem d_X14_mainOf_27 : decode b_X14_mainOf 27 = .ok (.getfield 141, 3) := by decide +kernel
theorem d_X14_mainOf_30 : decode b_X14_mainOf 30 = .ok (.iload_n 2, 1) := by decide +kernel
theorem d_X14_mainOf_31 : decode b_X14_mainOf 31 = .ok (.iaload, 1) := by decide +kernel
theorem d_X14_mainOf_32 : decode b_X14_mainOf 32 = .ok (.iaload, 1) := by decide +kernel
theorem d_X14_mainOf_33 : decode b_X14_mainOf 33 = .ok (.if_icmp .ge 145, 3) := by decide +kernel
theorem d_X14_mainOf_36 : decode b_X14_mainOf 36 = .ok (.aload_n 0, 1) := by decide +kernel
theorem d_X14_mainOf_37 : decode b_X14_mainOf 37 = .ok (.getfield 76, 3) := by decide +kernel
theorem d_X14_mainOf_40 : decode b_X14_mainOf 40 = .ok (.iload_n 3, 1) := by decide +kernel
theorem d_X14_mainOf_41 : decode b_X14_mainOf 41 = .ok (.iaload, 1) := by decide +kernel
theorem d_X14_mainOf_42 : decode b_X14_mainOf 42 = .ok (.iconst 4, 1) := by decide +kernel
theorem d_X14_mainOf_43 : decode b_X14_mainOf 43 = .ok (.if_icmp .ne 77, 3) := by decide +kernel
theorem d_X14_mainOf_46 : decode b_X14_mainOf 46 = .ok (.aload_n 0, 1) := by decide +kernel
theorem d_X14_mainOf_47 : decode b_X14_mainOf 47 = .ok (.getfield 80, 3) := by decide +kernel
theorem d_X14_mainOf_50 : decode b_X14_mainOf 50 = .ok (.aload_n 0, 1) := by decide +kernel
theorem d_X14_mainOf_51 : decode b_X14_mainOf 51 = .ok (.getfield 73, 3) := by decide +kernel
theorem d_X14_mainOf_54 : decode b_X14_mainOf 54 = .ok (.iload_n 3, 1) := by decide +kernel
theorem d_X14_mainOf_55 : decode b_X14_mainOf 55 = .ok (.iaload, 1) := by decide +kernel
theorem d_X14_mainOf_56 : decode b_X14_mainOf 56 = .ok (.baload, 1) := by decide +kernel
theorem d_X14_mainOf_57 : decode b_X14_mainOf 57 = .ok (.bipush 109, 2) := by decide +kernel
theorem d_X14_mainOf_59 : decode b_X14_mainOf 59 = .ok (.if_icmp .ne 61, 3) := by decide +kernel
theorem d_X14_mainOf_62 : decode b_X14_mainOf 62 = .ok (.aload_n 0, 1) := by decide +kernel
theorem d_X14_mainOf_63 : decode b_X14_mainOf 63 = .ok (.getfield 80, 3) := by decide +kernel
theorem d_X14_mainOf_66 : decode b_X14_mainOf 66 = .ok (.aload_n 0, 1) := by decide +kernel
theorem d_X14_mainOf_67 : decode b_X14_mainOf 67 = .ok (.getfield 73, 3) := by decide +kernel
theorem d_X14_mainOf_70 : decode b_X14_mainOf 70 = .ok (.iload_n 3, 1) := by decide +kernel
theorem d_X14_mainOf_71 : decode b_X14_mainOf 71 = .ok (.iaload, 1) := by decide +kernel
theorem d_X14_mainOf_72 : decode b_X14_mainOf 72 = .ok (.iconst 1, 1) := by decide +kernel
theorem d_X14_mainOf_73 : decode b_X14_mainOf 73 = .ok (.iadd, 1) := by decide +kernel
theorem d_X14_mainOf_74 : decode b_X14_mainOf 74 = .ok (.baload, 1) := by decide +kernel
theorem d_X14_mainOf_75 : decode b_X14_mainOf 75 = .ok (.bipush 97, 2) := by decide +kernel
theorem d_X14_mainOf_77 : decode b_X14_mainOf 77 = .ok (.if_icmp .ne 43, 3) := by decide +kernel
theorem d_X14_mainOf_80 : decode b_X14_mainOf 80 = .ok (.aload_n 0, 1) := by decide +kernel
theorem d_X14_mainOf_81 : decode b_X14_mainOf 81 = .ok (.getfield 80, 3) := by decide +kernel
theorem d_X14_mainOf_84 : decode b_X14_mainOf 84 = .ok (.aload_n 0, 1) := by decide +kernel
theorem d_X14_mainOf_85 : decode b_X14_mainOf 85 = .ok (.getfield 73, 3) := by decide +kernel
theorem d_X14_mainOf_88 : decode b_X14_mainOf 88 = .ok (.iload_n 3, 1) := by decide +kernel
theorem d_X14_mainOf_89 : decode b_X14_mainOf 89 = .ok (.iaload, 1) := by decide +kernel
theorem d_X14_mainOf_90 : decode b_X14_mainOf 90 = .ok (.iconst 2, 1) := by decide +kernel
theorem d_X14_mainOf_91 : decode b_X14_mainOf 91 = .ok (.iadd, 1) := by decide +kernel
theorem d_X14_mainOf_92 : decode b_X14_mainOf 92 = .ok (.baload, 1) := by decide +kernel
theorem d_X14_mainOf_93 : decode b_X14_mainOf 93 = .ok (.bipush 105, 2) := by decide +kernel
theorem d_X14_mainOf_95 : decode b_X14_mainOf 95 = .ok (.if_icmp .ne 25, 3) := by decide +kernel
theorem d_X14_mainOf_98 : decode b_X14_mainOf 98 = .ok (.aload_n 0, 1) := by decide +kernel
theorem d_X14_mainOf_99 : decode b_X14_mainOf 99 = .ok (.getfield 80, 3) := by decide +kernel
theorem d_X14_mainOf_102 : decode b_X14_mainOf 102 = .ok (.aload_n 0, 1) := by decide +kernel
theorem d_X14_mainOf_103 : decode b_X14_mainOf 103 = .ok (.getfield 73, 3) := by decide +kernel
theorem d_X14_mainOf_106 : decode b_X14_mainOf 106 = .ok (.iload_n 3, 1) := by decide +kernel
theorem d_X14_mainOf_107 : decode b_X14_mainOf 107 = .ok (.iaload, 1) := by decide +kernel
theorem d_X14_mainOf_108 : decode b_X14_mainOf 108 = .ok (.iconst 3, 1) := by decide +kernel
theorem d_X14_mainOf_109 : decode b_X14_mainOf 109 = .ok (.iadd, 1) := by decide +kernel
theorem d_X14_mainOf_110 : decode b_X14_mainOf 110 = .ok (.baload, 1) := by decide +kernel
theorem d_X14_mainOf_111 : decode b_X14_mainOf 111 = .ok (.bipush 110, 2) := by decide +kernel
theorem d_X14_mainOf_113 : decode b_X14_mainOf 113 = .ok (.if_icmp .ne 7, 3) := by decide +kernel
theorem d_X14_mainOf_116 : decode b_X14_mainOf 116 = .ok (.iconst 1, 1) := by decide +kernel
theorem d_X14_mainOf_117 : decode b_X14_mainOf 117 = .ok (.goto 4, 3) := by decide +kernel
theorem d_X14_mainOf_120 : decode b_X14_mainOf 120 = .ok (.iconst 0, 1) := by decide +kernel
theorem d_X14_mainOf_121 : decode b_X14_mainOf 121 = .ok (.istore 4, 2) := by decide +kernel
theorem d_X14_mainOf_123 : decode b_X14_mainOf 123 = .ok (.iload 4, 2) := by decide +kernel
theorem d_X14_mainOf_125 : decode b_X14_mainOf 125 = .ok (.ifCond .eq 47, 3) := by decide +kernel
theorem d_X14_mainOf_128 : decode b_X14_mainOf 128 = .ok (.aload_n 0, 1) := by decide +kernel
theorem d_X14_mainOf_129 : decode b_X14_mainOf 129 = .ok (.iload_n 3, 1) := by decide +kernel
theorem d_X14_mainOf_130 : decode b_X14_mainOf 130 = .ok (.iconst 1, 1) := by decide +kernel
theorem d_X14_mainOf_131 : decode b_X14_mainOf 131 = .ok (.invokevirtual 694, 3) := by decide +kernel
theorem d_X14_mainOf_134 : decode b_X14_mainOf 134 = .ok (.ifCond .eq 38, 3) := by decide +kernel
theorem d_X14_mainOf_137 : decode b_X14_mainOf 137 = .ok (.aload_n 0, 1) := by decide +kernel
theorem d_X14_mainOf_138 : decode b_X14_mainOf 138 = .ok (.getfield 44, 3) := by decide +kernel
theorem d_X14_mainOf_141 : decode b_X14_mainOf 141 = .ok (.iload_n 3, 1) := by decide +kernel
theorem d_X14_mainOf_142 : decode b_X14_mainOf 142 = .ok (.iaload, 1) := by decide +kernel
theorem d_X14_mainOf_143 : decode b_X14_mainOf 143 = .ok (.iconst 2, 1) := by decide +kernel
theorem d_X14_mainOf_144 : decode b_X14_mainOf 144 = .ok (.if_icmp .ne 28, 3) := by decide +kernel
theorem d_X14_mainOf_147 : decode b_X14_mainOf 147 = .ok (.aload_n 0, 1) := by decide +kernel
theorem d_X14_mainOf_148 : decode b_X14_mainOf 148 = .ok (.getfield 47, 3) := by decide +kernel
theorem d_X14_mainOf_151 : decode b_X14_mainOf 151 = .ok (.iload_n 3, 1) := by decide +kernel
theorem d_X14_mainOf_152 : decode b_X14_mainOf 152 = .ok (.iaload, 1) := by decide +kernel
theorem d_X14_mainOf_153 : decode b_X14_mainOf 153 = .ok (.ifCond .ne 19, 3) := by decide +kernel
theorem d_X14_mainOf_156 : decode b_X14_mainOf 156 = .ok (.aload_n 0, 1) := by decide +kernel
theorem d_X14_mainOf_157 : decode b_X14_mainOf 157 = .ok (.getfield 63, 3) := by decide +kernel
theorem d_X14_mainOf_160 : decode b_X14_mainOf 160 = .ok (.iload_n 3, 1) := by decide +kernel
theorem d_X14_mainOf_161 : decode b_X14_mainOf 161 = .ok (.iaload, 1) := by decide +kernel
theorem d_X14_mainOf_162 : decode b_X14_mainOf 162 = .ok (.ifCond .ne 10, 3) := by decide +kernel
theorem d_X14_mainOf_165 : decode b_X14_mainOf 165 = .ok (.aload_n 0, 1) := by decide +kernel
theorem d_X14_mainOf_166 : decode b_X14_mainOf 166 = .ok (.getfield 70, 3) := by decide +kernel
theorem d_X14_mainOf_169 : decode b_X14_mainOf 169 = .ok (.iload_n 3, 1) := by decide +kernel
theorem d_X14_mainOf_170 : decode b_X14_mainOf 170 = .ok (.iaload, 1) := by decide +kernel
theorem d_X14_mainOf_171 : decode b_X14_mainOf 171 = .ok (.ireturn, 1) := by decide +kernel
theorem d_X14_mainOf_172 : decode b_X14_mainOf 172 = .ok (.iinc 3 1, 3) := by decide +kernel
theorem d_X14_mainOf_175 : decode b_X14_mainOf 175 = .ok (.goto (-154), 3) := by decide +kernel
theorem d_X14_mainOf_178 : decode b_X14_mainOf 178 = .ok (.iinc 2 1, 3) := by decide +kernel
theorem d_X14_mainOf_181 : decode b_X14_mainOf 181 = .ok (.goto (-179), 3) := by decide +kernel
theorem d_X14_mainOf_184 : decode b_X14_mainOf 184 = .ok (.iconst (-1), 1) := by decide +kernel
theorem d_X14_mainOf_185 : decode b_X14_mainOf 185 = .ok (.ireturn, 1) := by decide +kernel
theorem d_X14_must_0 : decode b_X14_must 0 = .ok (.iload_n 1, 1) := by decide +kernel
theorem d_X14_must_1 : decode b_X14_must 1 = .ok (.ifCond .ne 9, 3) := by decide +kernel
theorem d_X14_must_4 : decode b_X14_must 4 = .ok (.aload_n 0, 1) := by decide +kernel
theorem d_X14_must_5 : decode b_X14_must 5 = .ok (.iconst 2, 1) := by decide +kernel
theorem d_X14_must_6 : decode b_X14_must 6 = .ok (.iload_n 2, 1) := by decide +kernel
theorem d_X14_must_7 : decode b_X14_must 7 = .ok (.invokevirtual 304, 3) := by decide +kernel
theorem d_X14_must_10 : decode b_X14_must 10 = .ok (.return_, 1) := by decide +kernel
theorem d_X14_name_0 : decode b_X14_name 0 = .ok (.aload_n 0, 1) := by decide +kernel
theorem d_X14_name_1 : decode b_X14_name 1 = .ok (.iload_n 1, 1) := by decide +kernel
theorem d_X14_name_2 : decode b_X14_name 2 = .ok (.iload_n 2, 1) := by decide +kernel
theorem d_X14_name_3 : decode b_X14_name 3 = .ok (.invokevirtual 686, 3) := by decide +kernel
theorem d_X14_name_6 : decode b_X14_name 6 = .ok (.istore 4, 2) := by decide +kernel
theorem d_X14_name_8 : decode b_X14_name 8 = .ok (.iload 4, 2) := by decide +kernel
theorem d_X14_name_10 : decode b_X14_name 10 = .ok (.ifCond .lt 35, 3) := by decide +kernel
theorem d_X14_name_13 : decode b_X14_name 13 = .ok (.iload_n 3, 1) := by decide +kernel
theorem d_X14_name_14 : decode b_X14_name 14 = .ok (.ifCond .lt 31, 3) := by decide +kernel
theorem d_X14_name_17 : decode b_X14_name 17 = .ok (.iload_n 3, 1) := by decide +kernel
theorem d_X14_name_18 : decode b_X14_name 18 = .ok (.aload_n 0, 1) := by decide +kernel
theorem d_X14_name_19 : decode b_X14_name 19 = .ok (.getfield 76, 3) := by decide +kernel
theorem d_X14_name_22 : decode b_X14_name 22 = .ok (.iload 4, 2) := by decide +kernel
theorem d_X14_name_24 : decode b_X14_name 24 = .ok (.iaload, 1) := by decide +kernel
theorem d_X14_name_25 : decode b_X14_name 25 = .ok (.if_icmp .ge 20, 3) := by decide +kernel
theorem d_X14_name_28 : decode b_X14_name 28 = .ok (.aload_n 0, 1) := by decide +kernel
theorem d_X14_name_29 : decode b_X14_name 29 = .ok (.getfield 80, 3) := by decide +kernel
theorem d_X14_name_32 : decode b_X14_name 32 = .ok (.aload_n 0, 1) := by decide +kernel
theorem d_X14_name_33 : decode b_X14_name 33 = .ok (.getfield 73, 3) := by decide +kernel
theorem d_X14_name_36 : decode b_X14_name 36 = .ok (.iload 4, 2) := by decide +kernel
theorem d_X14_name_38 : decode b_X14_name 38 = .ok (.iaload, 1) := by decide +kernel
theorem d_X14_name_39 : decode b_X14_name 39 = .ok (.iload_n 3, 1) := by decide +kernel
theorem d_X14_name_40 : decode b_X14_name 40 = .ok (.iadd, 1) := by decide +kernel
theorem d_X14_name_41 : decode b_X14_name 41 = .ok (.baload, 1) := by decide +kernel
theorem d_X14_name_42 : decode b_X14_name 42 = .ok (.goto 4, 3) := by decide +kernel
theorem d_X14_name_45 : decode b_X14_name 45 = .ok (.iconst (-1), 1) := by decide +kernel
theorem d_X14_name_46 : decode b_X14_name 46 = .ok (.ireturn, 1) := by decide +kernel
theorem d_X14_nameEnd_0 : decode b_X14_nameEnd 0 = .ok (.iload_n 1, 1) := by decide +kernel
theorem d_X14_nameEnd_1 : decode b_X14_nameEnd 1 = .ok (.istore_n 3, 1) := by decide +kernel
theorem d_X14_nameEnd_2 : decode b_X14_nameEnd 2 = .ok (.aload_n 0, 1) := by decide +kernel
theorem d_X14_nameEnd_3 : decode b_X14_nameEnd 3 = .ok (.iload_n 3, 1) := by decide +kernel
theorem d_X14_nameEnd_4 : decode b_X14_nameEnd 4 = .ok (.invokevirtual 209, 3) := by decide +kernel
theorem d_X14_nameEnd_7 : decode b_X14_nameEnd 7 = .ok (.invokestatic 237, 3) := by decide +kernel
theorem d_X14_nameEnd_10 : decode b_X14_nameEnd 10 = .ok (.ifCond .ne 14, 3) := by decide +kernel
theorem d_X14_nameEnd_13 : decode b_X14_nameEnd 13 = .ok (.aload_n 0, 1) := by decide +kernel
theorem d_X14_nameEnd_14 : decode b_X14_nameEnd 14 = .ok (.iload_n 3, 1) := by decide +kernel
theorem d_X14_nameEnd_15 : decode b_X14_nameEnd 15 = .ok (.invokevirtual 209, 3) := by decide +kernel
theorem d_X14_nameEnd_18 : decode b_X14_nameEnd 18 = .ok (.invokestatic 243, 3) := by decide +kernel
theorem d_X14_nameEnd_21 : decode b_X14_nameEnd 21 = .ok (.ifCond .eq 9, 3) := by decide +kernel
theorem d_X14_nameEnd_24 : decode b_X14_nameEnd 24 = .ok (.iinc 3 1, 3) := by decide +kernel
theorem d_X14_nameEnd_27 : decode b_X14_nameEnd 27 = .ok (.goto (-25), 3) := by decide +kernel
theorem d_X14_nameEnd_30 : decode b_X14_nameEnd 30 = .ok (.iload_n 3, 1) := by decide +kernel
theorem d_X14_nameEnd_31 : decode b_X14_nameEnd 31 = .ok (.iload_n 1, 1) := by decide +kernel
theorem d_X14_nameEnd_32 : decode b_X14_nameEnd 32 = .ok (.isub, 1) := by decide +kernel
theorem d_X14_nameEnd_33 : decode b_X14_nameEnd 33 = .ok (.bipush 24, 2) := by decide +kernel
theorem d_X14_nameEnd_35 : decode b_X14_nameEnd 35 = .ok (.if_icmp .le 9, 3) := by decide +kernel
theorem d_X14_nameEnd_38 : decode b_X14_nameEnd 38 = .ok (.aload_n 0, 1) := by decide +kernel
theorem d_X14_nameEnd_39 : decode b_X14_nameEnd 39 = .ok (.iload_n 1, 1) := by decide +kernel
theorem d_X14_nameEnd_40 : decode b_X14_nameEnd 40 = .ok (.invokevirtual 234, 3) := by decide +kernel
theorem d_X14_nameEnd_43 : decode b_X14_nameEnd 43 = .ok (.ireturn, 1) := by decide +kernel
theorem d_X14_nameEnd_44 : decode b_X14_nameEnd 44 = .ok (.aload_n 0, 1) := by decide +kernel
theorem d_X14_nameEnd_45 : decode b_X14_nameEnd 45 = .ok (.iload_n 1, 1) := by decide +kernel
theorem d_X14_nameEnd_46 : decode b_X14_nameEnd 46 = .ok (.iload_n 3, 1) := by decide +kernel
theorem d_X14_nameEnd_47 : decode b_X14_nameEnd 47 = .ok (.ldc_w 258, 3) := by decide +kernel
theorem d_X14_nameEnd_50 : decode b_X14_nameEnd 50 = .ok (.invokevirtual 260, 3) := by decide +kernel
theorem d_X14_nameEnd_53 : decode b_X14_nameEnd 53 = .ok (.istore 4, 2) := by decide +kernel
theorem d_X14_nameEnd_55 : decode b_X14_nameEnd 55 = .ok (.aload_n 0, 1) := by decide +kernel
theorem d_X14_nameEnd_56 : decode b_X14_nameEnd 56 = .ok (.iload 4, 2) := by decide +kernel
theorem d_X14_nameEnd_58 : decode b_X14_nameEnd 58 = .ok (.ifCond .lt 10, 3) := by decide +kernel
theorem d_X14_nameEnd_61 : decode b_X14_nameEnd 61 = .ok (.iconst 5, 1) := by decide +kernel
theorem d_X14_nameEnd_62 : decode b_X14_nameEnd 62 = .ok (.iload 4, 2) := by decide +kernel
theorem d_X14_nameEnd_64 : decode b_X14_nameEnd 64 = .ok (.iadd, 1) := by decide +kernel
theorem d_X14_nameEnd_65 : decode b_X14_nameEnd 65 = .ok (.goto 4, 3) := by decide +kernel
theorem d_X14_nameEnd_68 : decode b_X14_nameEnd 68 = .ok (.iconst 2, 1) := by decide +kernel
theorem d_X14_nameEnd_69 : decode b_X14_nameEnd 69 = .ok (.iload_n 1, 1) := by decide +kernel
theorem d_X14_nameEnd_70 : decode b_X14_nameEnd 70 = .ok (.iload_n 3, 1) := by decide +kernel
theorem d_X14_nameEnd_71 : decode b_X14_nameEnd 71 = .ok (.iload_n 2, 1) := by decide +kernel
theorem d_X14_nameEnd_72 : decode b_X14_nameEnd 72 = .ok (.iconst 0, 1) := by decide +kernel
theorem d_X14_nameEnd_73 : decode b_X14_nameEnd 73 = .ok (.invokevirtual 217, 3) := by decide +kernel
theorem d_X14_nameEnd_76 : decode b_X14_nameEnd 76 = .ok (.iload_n 3, 1) := by decide +kernel
theorem d_X14_nameEnd_77 : decode b_X14_nameEnd 77 = .ok (.ireturn, 1) := by decide +kernel
theorem d_X14_named_0 : decode b_X14_named 0 = .ok (.aload_n 0, 1) := by decide +kernel
theorem d_X14_named_1 : decode b_X14_named 1 = .ok (.iload_n 1, 1) := by decide +kernel
theorem d_X14_named_2 : decode b_X14_named 2 = .ok (.invokevirtual 524, 3) := by decide +kernel
theorem d_X14_named_5 : decode b_X14_named 5 = .ok (.istore_n 2, 1) := by decide +kernel
theorem d_X14_named_6 : decode b_X14_named 6 = .ok (.iload_n 2, 1) := by decide +kernel
theorem d_X14_named_7 : decode b_X14_named 7 = .ok (.ifCond .lt 77, 3) := by decide +kernel
theorem d_X14_named_10 : decode b_X14_named 10 = .ok (.new 353, 3) := by decide +kernel
theorem d_X14_named_13 : decode b_X14_named 13 = .ok (.dup, 1) := by decide +kernel
theorem d_X14_named_14 : decode b_X14_named 14 = .ok (.aload_n 0, 1) := by decide +kernel
theorem d_X14_named_15 : decode b_X14_named 15 = .ok (.getfield 117, 3) := by decide +kernel
theorem d_X14_named_18 : decode b_X14_named 18 = .ok (.iload_n 2, 1) := by decide +kernel
theorem d_X14_named_19 : decode b_X14_named 19 = .ok (.iaload, 1) := by decide +kernel
theorem d_X14_named_20 : decode b_X14_named 20 = .ok (.ifCond .ge 12, 3) := by decide +kernel
theorem d_X14_named_23 : decode b_X14_named 23 = .ok (.aload_n 0, 1) := by decide +kernel
theorem d_X14_named_24 : decode b_X14_named 24 = .ok (.getfield 114, 3) := by decide +kernel
theorem d_X14_named_27 : decode b_X14_named 27 = .ok (.iload_n 2, 1) := by decide +kernel
theorem d_X14_named_28 : decode b_X14_named 28 = .ok (.iaload, 1) := by decide +kernel
theorem d_X14_named_29 : decode b_X14_named 29 = .ok (.goto 11, 3) := by decide +kernel
theorem d_X14_named_32 : decode b_X14_named 32 = .ok (.aload_n 0, 1) := by decide +kernel
theorem d_X14_named_33 : decode b_X14_named 33 = .ok (.getfield 114, 3) := by decide +kernel
theorem d_X14_named_36 : decode b_X14_named 36 = .ok (.iload_n 2, 1) := by decide +kernel
theorem d_X14_named_37 : decode b_X14_named 37 = .ok (.iaload, 1) := by decide +kernel
theorem d_X14_named_38 : decode b_X14_named 38 = .ok (.iconst 1, 1) := by decide +kernel
theorem d_X14_named_39 : decode b_X14_named 39 = .ok (.iadd, 1) := by decide +kernel
theorem d_X14_named_40 : decode b_X14_named 40 = .ok (.invokespecial 369, 3) := by decide +kernel
theorem d_X14_named_43 : decode b_X14_named 43 = .ok (.astore_n 3, 1) := by decide +kernel
theorem d_X14_named_44 : decode b_X14_named 44 = .ok (.aload_n 3, 1) := by decide +kernel
theorem d_X14_named_45 : decode b_X14_named 45 = .ok (.aload_n 0, 1) := by decide +kernel
theorem d_X14_named_46 : decode b_X14_named 46 = .ok (.getfield 117, 3) := by decide +kernel
theorem d_X14_named_49 : decode b_X14_named 49 = .ok (.iload_n 2, 1) := by decide +kernel
theorem d_X14_named_50 : decode b_X14_named 50 = .ok (.iaload, 1) := by decide +kernel
theorem d_X14_named_51 : decode b_X14_named 51 = .ok (.ifCond .ge 7, 3) := by decide +kernel
theorem d_X14_named_54 : decode b_X14_named 54 = .ok (.iconst 1, 1) := by decide +kernel
theorem d_X14_named_55 : decode b_X14_named 55 = .ok (.goto 4, 3) := by decide +kernel
theorem d_X14_named_58 : decode b_X14_named 58 = .ok (.iconst 0, 1) := by decide +kernel
theorem d_X14_named_59 : decode b_X14_named 59 = .ok (.putfield 361, 3) := by decide +kernel
theorem d_X14_named_62 : decode b_X14_named 62 = .ok (.aload_n 3, 1) := by decide +kernel
theorem d_X14_named_63 : decode b_X14_named 63 = .ok (.iload_n 2, 1) := by decide +kernel
theorem d_X14_named_64 : decode b_X14_named 64 = .ok (.putfield 364, 3) := by decide +kernel
theorem d_X14_named_67 : decode b_X14_named 67 = .ok (.aload_n 0, 1) := by decide +kernel
theorem d_X14_named_68 : decode b_X14_named 68 = .ok (.getfield 117, 3) := by decide +kernel
theorem d_X14_named_71 : decode b_X14_named 71 = .ok (.iload_n 2, 1) := by decide +kernel
theorem d_X14_named_72 : decode b_X14_named 72 = .ok (.iaload, 1) := by decide +kernel
theorem d_X14_named_73 : decode b_X14_named 73 = .ok (.ifCond .lt 9, 3) := by decide +kernel
theorem d_X14_named_76 : decode b_X14_named 76 = .ok (.aload_n 0, 1) := by decide +kernel
theorem d_X14_named_77 : decode b_X14_named 77 = .ok (.iconst 4, 1) := by decide +kernel
theorem d_X14_named_78 : decode b_X14_named 78 = .ok (.iload_n 2, 1) := by decide +kernel
theorem d_X14_named_79 : decode b_X14_named 79 = .ok (.invokevirtual 322, 3) := by decide +kernel
theorem d_X14_named_82 : decode b_X14_named 82 = .ok (.aload_n 3, 1) := by decide +kernel
theorem d_X14_named_83 : decode b_X14_named 83 = .ok (.areturn, 1) := by decide +kernel
theorem d_X14_named_84 : decode b_X14_named 84 = .ok (.aload_n 0, 1) := by decide +kernel
theorem d_X14_named_85 : decode b_X14_named 85 = .ok (.iload_n 1, 1) := by decide +kernel
theorem d_X14_named_86 : decode b_X14_named 86 = .ok (.invokevirtual 527, 3) := by decide +kernel
theorem d_X14_named_89 : decode b_X14_named 89 = .ok (.istore_n 3, 1) := by decide +kernel
theorem d_X14_named_90 : decode b_X14_named 90 = .ok (.aload_n 0, 1) := by decide +kernel
theorem d_X14_named_91 : decode b_X14_named 91 = .ok (.iload_n 3, 1) := by decide +kernel
theorem d_X14_named_92 : decode b_X14_named 92 = .ok (.ifCond .lt 17, 3) := by decide +kernel
theorem d_X14_named_95 : decode b_X14_named 95 = .ok (.aload_n 0, 1) := by decide +kernel
theorem d_X14_named_96 : decode b_X14_named 96 = .ok (.getfield 44, 3) := by decide +kernel
theorem d_X14_named_99 : decode b_X14_named 99 = .ok (.iload_n 3, 1) := by decide +kernel
theorem d_X14_named_100 : decode b_X14_named 100 = .ok (.iaload, 1) := by decide +kernel
theorem d_X14_named_101 : decode b_X14_named 101 = .ok (.iconst 1, 1) := by decide +kernel
theorem d_X14_named_102 : decode b_X14_named 102 = .ok (.if_icmp .ne 7, 3) := by decide +kernel
theorem d_X14_named_105 : decode b_X14_named 105 = .ok (.iconst 1, 1) := by decide +kernel
theorem d_X14_named_106 : decode b_X14_named 106 = .ok (.goto 4, 3) := by decide +kernel
theorem d_X14_named_109 : decode b_X14_named 109 = .ok (.iconst 0, 1) := by decide +kernel
theorem d_X14_named_110 : decode b_X14_named 110 = .ok (.iload_n 1, 1) := by decide +kernel
theorem d_X14_named_111 : decode b_X14_named 111 = .ok (.invokevirtual 410, 3) := by decide +kernel
theorem d_X14_named_114 : decode b_X14_named 114 = .ok (.iload_n 3, 1) := by decide +kernel
theorem d_X14_named_115 : decode b_X14_named 115 = .ok (.ifCond .lt 13, 3) := by decide +kernel
theorem d_X14_named_118 : decode b_X14_named 118 = .ok (.aload_n 0, 1) := by decide +kernel
theorem d_X14_named_119 : decode b_X14_named 119 = .ok (.getfield 44, 3) := by decide +kernel
theorem d_X14_named_122 : decode b_X14_named 122 = .ok (.iload_n 3, 1) := by decide +kernel
theorem d_X14_named_123 : decode b_X14_named 123 = .ok (.iaload, 1) := by decide +kernel
theorem d_X14_named_124 : decode b_X14_named 124 = .ok (.iconst 1, 1) := by decide +kernel
theorem d_X14_named_125 : decode b_X14_named 125 = .ok (.if_icmp .eq 13, 3) := by decide +kernel
theorem d_X14_named_128 : decode b_X14_named 128 = .ok (.new 353, 3) := by decide +kernel
theorem d_X14_named_131 : decode b_X14_named 131 = .ok (.dup, 1) := by decide +kernel
theorem d_X14_named_132 : decode b_X14_named 132 = .ok (.bipush (-2), 2) := by decide +kernel
theorem d_X14_named_134 : decode b_X14_named 134 = .ok (.invokespecial 369, 3) := by decide +kernel
theorem d_X14_named_137 : decode b_X14_named 137 = .ok (.areturn, 1) := by decide +kernel
theorem d_X14_named_138 : decode b_X14_named 138 = .ok (.aload_n 0, 1) := by decide +kernel
theorem d_X14_named_139 : decode b_X14_named 139 = .ok (.getfield 60, 3) := by decide +kernel
theorem d_X14_named_142 : decode b_X14_named 142 = .ok (.iload_n 3, 1) := by decide +kernel
theorem d_X14_named_143 : decode b_X14_named 143 = .ok (.iconst 1, 1) := by decide +kernel
theorem d_X14_named_144 : decode b_X14_named 144 = .ok (.bastore, 1) := by decide +kernel
theorem d_X14_named_145 : decode b_X14_named 145 = .ok (.iload_n 3, 1) := by decide +kernel
theorem d_X14_named_146 : decode b_X14_named 146 = .ok (.aload_n 0, 1) := by decide +kernel
theorem d_X14_named_147 : decode b_X14_named 147 = .ok (.getfield 86, 3) := by decide +kernel
theorem d_X14_named_150 : decode b_X14_named 150 = .ok (.aload_n 0, 1) := by decide +kernel
theorem d_X14_named_151 : decode b_X14_named 151 = .ok (.getfield 327, 3) := by decide +kernel
theorem d_X14_named_154 : decode b_X14_named 154 = .ok (.iaload, 1) := by decide +kernel
theorem d_X14_named_155 : decode b_X14_named 155 = .ok (.isub, 1) := by decide +kernel
theorem d_X14_named_156 : decode b_X14_named 156 = .ok (.istore 4, 2) := by decide +kernel
theorem d_X14_named_158 : decode b_X14_named 158 = .ok (.new 353, 3) := by decide +kernel
theorem d_X14_named_161 : decode b_X14_named 161 = .ok (.dup, 1) := by decide +kernel
theorem d_X14_named_162 : decode b_X14_named 162 = .ok (.aload_n 0, 1) := by decide +kernel
theorem d_X14_named_163 : decode b_X14_named 163 = .ok (.getfield 50, 3) := by decide +kernel
theorem d_X14_named_166 : decode b_X14_named 166 = .ok (.iload_n 3, 1) := by decide +kernel
theorem d_X14_named_167 : decode b_X14_named 167 = .ok (.iaload, 1) := by decide +kernel
theorem d_X14_named_168 : decode b_X14_named 168 = .ok (.ifCond .ge 12, 3) := by decide +kernel
theorem d_X14_named_171 : decode b_X14_named 171 = .ok (.aload_n 0, 1) := by decide +kernel
theorem d_X14_named_172 : decode b_X14_named 172 = .ok (.getfield 47, 3) := by decide +kernel
theorem d_X14_named_175 : decode b_X14_named 175 = .ok (.iload_n 3, 1) := by decide +kernel
theorem d_X14_named_176 : decode b_X14_named 176 = .ok (.iaload, 1) := by decide +kernel
theorem d_X14_named_177 : decode b_X14_named 177 = .ok (.goto 11, 3) := by decide +kernel
theorem d_X14_named_180 : decode b_X14_named 180 = .ok (.aload_n 0, 1) := by decide +kernel
theorem d_X14_named_181 : decode b_X14_named 181 = .ok (.getfield 47, 3) := by decide +kernel
theorem d_X14_named_184 : decode b_X14_named 184 = .ok (.iload_n 3, 1) := by decide +kernel
theorem d_X14_named_185 : decode b_X14_named 185 = .ok (.iaload, 1) := by decide +kernel
theorem d_X14_named_186 : decode b_X14_named 186 = .ok (.iconst 1, 1) := by decide +kernel
theorem d_X14_named_187 : decode b_X14_named 187 = .ok (.iadd, 1) := by decide +kernel
theorem d_X14_named_188 : decode b_X14_named 188 = .ok (.invokespecial 369, 3) := by decide +kernel
theorem d_X14_named_191 : decode b_X14_named 191 = .ok (.astore 5, 2) := by decide +kernel
theorem d_X14_named_193 : decode b_X14_named 193 = .ok (.aload 5, 2) := by decide +kernel
theorem d_X14_named_195 : decode b_X14_named 195 = .ok (.iload 4, 2) := by decide +kernel
theorem d_X14_named_197 : decode b_X14_named 197 = .ok (.putfield 364, 3) := by decide +kernel
theorem d_X14_named_200 : decode b_X14_named 200 = .ok (.aload 5, 2) := by decide +kernel
theorem d_X14_named_202 : decode b_X14_named 202 = .ok (.iload_n 1, 1) := by decide +kernel
theorem d_X14_named_203 : decode b_X14_named 203 = .ok (.putfield 367, 3) := by decide +kernel
theorem d_X14_named_206 : decode b_X14_named 206 = .ok (.aload_n 0, 1) := by decide +kernel
theorem d_X14_named_207 : decode b_X14_named 207 = .ok (.getfield 50, 3) := by decide +kernel
theorem d_X14_named_210 : decode b_X14_named 210 = .ok (.iload_n 3, 1) := by decide +kernel
theorem d_X14_named_211 : decode b_X14_named 211 = .ok (.iaload, 1) := by decide +kernel
theorem d_X14_named_212 : decode b_X14_named 212 = .ok (.ifCond .ge 12, 3) := by decide +kernel
theorem d_X14_named_215 : decode b_X14_named 215 = .ok (.aload 5, 2) := by decide +kernel
theorem d_X14_named_217 : decode b_X14_named 217 = .ok (.iconst 2, 1) := by decide +kernel
theorem d_X14_named_218 : decode b_X14_named 218 = .ok (.putfield 361, 3) := by decide +kernel
theorem d_X14_named_221 : decode b_X14_named 221 = .ok (.aload 5, 2) := by decide +kernel
theorem d_X14_named_223 : decode b_X14_named 223 = .ok (.areturn, 1) := by decide +kernel
theorem d_X14_named_224 : decode b_X14_named 224 = .ok (.aload_n 0, 1) := by decide +kernel
theorem d_X14_named_225 : decode b_X14_named 225 = .ok (.iconst 1, 1) := by decide +kernel
theorem d_X14_named_226 : decode b_X14_named 226 = .ok (.iload 4, 2) := by decide +kernel
theorem d_X14_named_228 : decode b_X14_named 228 = .ok (.invokevirtual 322, 3) := by decide +kernel
theorem d_X14_named_231 : decode b_X14_named 231 = .ok (.aload 5, 2) := by decide +kernel
theorem d_X14_named_233 : decode b_X14_named 233 = .ok (.iload 4, 2) := by decide +kernel
theorem d_X14_named_235 : decode b_X14_named 235 = .ok (.iconst 1, 1) := by decide +kernel
theorem d_X14_named_236 : decode b_X14_named 236 = .ok (.iadd, 1) := by decide +kernel
theorem d_X14_named_237 : decode b_X14_named 237 = .ok (.iconst 0, 1) := by decide +kernel
theorem d_X14_named_238 : decode b_X14_named 238 = .ok (.invokevirtual 470, 3) := by decide +kernel
theorem d_X14_named_241 : decode b_X14_named 241 = .ok (.areturn, 1) := by decide +kernel
theorem d_X14_numberEnd_0 : decode b_X14_numberEnd 0 = .ok (.aload_n 0, 1) := by decide +kernel
theorem d_X14_numberEnd_1 : decode b_X14_numberEnd 1 = .ok (.iload_n 1, 1) := by decide +kernel
theorem d_X14_numberEnd_2 : decode b_X14_numberEnd 2 = .ok (.invokevirtual 209, 3) := by decide +kernel
theorem d_X14_numberEnd_5 : decode b_X14_numberEnd 5 = .ok (.bipush 48, 2) := by decide +kernel
theorem d_X14_numberEnd_7 : decode b_X14_numberEnd 7 = .ok (.if_icmp .ne 93, 3) := by decide +kernel
theorem d_X14_numberEnd_10 : decode b_X14_numberEnd 10 = .ok (.aload_n 0, 1) := by decide +kernel
theorem d_X14_numberEnd_11 : decode b_X14_numberEnd 11 = .ok (.iload_n 1, 1) := by decide +kernel
theorem d_X14_numberEnd_12 : decode b_X14_numberEnd 12 = .ok (.iconst 1, 1) := by decide +kernel
theorem d_X14_numberEnd_13 : decode b_X14_numberEnd 13 = .ok (.iadd, 1) := by decide +kernel
theorem d_X14_numberEnd_14 : decode b_X14_numberEnd 14 = .ok (.invokevirtual 209, 3) := by decide +kernel
theorem d_X14_numberEnd_17 : decode b_X14_numberEnd 17 = .ok (.bipush 120, 2) := by decide +kernel
theorem d_X14_numberEnd_19 : decode b_X14_numberEnd 19 = .ok (.if_icmp .ne 81, 3) := by decide +kernel
theorem d_X14_numberEnd_22 : decode b_X14_numberEnd 22 = .ok (.aload_n 0, 1) := by decide +kernel
theorem d_X14_numberEnd_23 : decode b_X14_numberEnd 23 = .ok (.iload_n 1, 1) := by decide +kernel
theorem d_X14_numberEnd_24 : decode b_X14_numberEnd 24 = .ok (.iconst 2, 1) := by decide +kernel
theorem d_X14_numberEnd_25 : decode b_X14_numberEnd 25 = .ok (.iadd, 1) := by decide +kernel
theorem d_X14_numberEnd_26 : decode b_X14_numberEnd 26 = .ok (.invokevirtual 209, 3) := by decide +kernel
theorem d_X14_numberEnd_29 : decode b_X14_numberEnd 29 = .ok (.invokestatic 274, 3) := by decide +kernel
theorem d_X14_numberEnd_32 : decode b_X14_numberEnd 32 = .ok (.ifCond .lt 68, 3) := by decide +kernel
theorem d_X14_numberEnd_35 : decode b_X14_numberEnd 35 = .ok (.iload_n 1, 1) := by decide +kernel
theorem d_X14_numberEnd_36 : decode b_X14_numberEnd 36 = .ok (.iconst 2, 1) := by decide +kernel
theorem d_X14_numberEnd_37 : decode b_X14_numberEnd 37 = .ok (.iadd, 1) := by decide +kernel
theorem d_X14_numberEnd_38 : decode b_X14_numberEnd 38 = .ok (.istore_n 3, 1) := by decide +kernel
theorem d_X14_numberEnd_39 : decode b_X14_numberEnd 39 = .ok (.iconst 0, 1) := by decide +kernel
theorem d_X14_numberEnd_40 : decode b_X14_numberEnd 40 = .ok (.istore 4, 2) := by decide +kernel
theorem d_X14_numberEnd_42 : decode b_X14_numberEnd 42 = .ok (.aload_n 0, 1) := by decide +kernel
theorem d_X14_numberEnd_43 : decode b_X14_numberEnd 43 = .ok (.iload_n 3, 1) := by decide +kernel
theorem d_X14_numberEnd_44 : decode b_X14_numberEnd 44 = .ok (.invokevirtual 209, 3) := by decide +kernel
theorem d_X14_numberEnd_47 : decode b_X14_numberEnd 47 = .ok (.invokestatic 274, 3) := by decide +kernel
theorem d_X14_numberEnd_50 : decode b_X14_numberEnd 50 = .ok (.ifCond .lt 24, 3) := by decide +kernel
theorem d_X14_numberEnd_53 : decode b_X14_numberEnd 53 = .ok (.iload 4, 2) := by decide +kernel
theorem d_X14_numberEnd_55 : decode b_X14_numberEnd 55 = .ok (.iconst 4, 1) := by decide +kernel
theorem d_X14_numberEnd_56 : decode b_X14_numberEnd 56 = .ok (.ishl, 1) := by decide +kernel
theorem d_X14_numberEnd_57 : decode b_X14_numberEnd 57 = .ok (.aload_n 0, 1) := by decide +kernel
theorem d_X14_numberEnd_58 : decode b_X14_numberEnd 58 = .ok (.iload_n 3, 1) := by decide +kernel
theorem d_X14_numberEnd_59 : decode b_X14_numberEnd 59 = .ok (.invokevirtual 209, 3) := by decide +kernel
theorem d_X14_numberEnd_62 : decode b_X14_numberEnd 62 = .ok (.invokestatic 274, 3) := by decide +kernel
theorem d_X14_numberEnd_65 : decode b_X14_numberEnd 65 = .ok (.ior, 1) := by decide +kernel
theorem d_X14_numberEnd_66 : decode b_X14_numberEnd 66 = .ok (.istore 4, 2) := by decide +kernel
theorem d_X14_numberEnd_68 : decode b_X14_numberEnd 68 = .ok (.iinc 3 1, 3) := by decide +kernel
theorem d_X14_numberEnd_71 : decode b_X14_numberEnd 71 = .ok (.goto (-29), 3) := by decide +kernel
theorem d_X14_numberEnd_74 : decode b_X14_numberEnd 74 = .ok (.iload_n 3, 1) := by decide +kernel
theorem d_X14_numberEnd_75 : decode b_X14_numberEnd 75 = .ok (.iload_n 1, 1) := by decide +kernel
theorem d_X14_numberEnd_76 : decode b_X14_numberEnd 76 = .ok (.isub, 1) := by decide +kernel
theorem d_X14_numberEnd_77 : decode b_X14_numberEnd 77 = .ok (.bipush 10, 2) := by decide +kernel
theorem d_X14_numberEnd_79 : decode b_X14_numberEnd 79 = .ok (.if_icmp .le 9, 3) := by decide +kernel
theorem d_X14_numberEnd_82 : decode b_X14_numberEnd 82 = .ok (.aload_n 0, 1) := by decide +kernel
theorem d_X14_numberEnd_83 : decode b_X14_numberEnd 83 = .ok (.iload_n 1, 1) := by decide +kernel
theorem d_X14_numberEnd_84 : decode b_X14_numberEnd 84 = .ok (.invokevirtual 234, 3) := by decide +kernel
theorem d_X14_numberEnd_87 : decode b_X14_numberEnd 87 = .ok (.ireturn, 1) := by decide +kernel
theorem d_X14_numberEnd_88 : decode b_X14_numberEnd 88 = .ok (.aload_n 0, 1) := by decide +kernel
theorem d_X14_numberEnd_89 : decode b_X14_numberEnd 89 = .ok (.iconst 3, 1) := by decide +kernel
theorem d_X14_numberEnd_90 : decode b_X14_numberEnd 90 = .ok (.iload_n 1, 1) := by decide +kernel
theorem d_X14_numberEnd_91 : decode b_X14_numberEnd 91 = .ok (.iload_n 3, 1) := by decide +kernel
theorem d_X14_numberEnd_92 : decode b_X14_numberEnd 92 = .ok (.iload_n 2, 1) := by decide +kernel
theorem d_X14_numberEnd_93 : decode b_X14_numberEnd 93 = .ok (.iload 4, 2) := by decide +kernel
theorem d_X14_numberEnd_95 : decode b_X14_numberEnd 95 = .ok (.invokevirtual 217, 3) := by decide +kernel
theorem d_X14_numberEnd_98 : decode b_X14_numberEnd 98 = .ok (.iload_n 3, 1) := by decide +kernel
theorem d_X14_numberEnd_99 : decode b_X14_numberEnd 99 = .ok (.ireturn, 1) := by decide +kernel
theorem d_X14_numberEnd_100 : decode b_X14_numberEnd 100 = .ok (.iload_n 1, 1) := by decide +kernel
theorem d_X14_numberEnd_101 : decode b_X14_numberEnd 101 = .ok (.istore_n 3, 1) := by decide +kernel
theorem d_X14_numberEnd_102 : decode b_X14_numberEnd 102 = .ok (.lconst 0, 1) := by decide +kernel
theorem d_X14_numberEnd_103 : decode b_X14_numberEnd 103 = .ok (.lstore 4, 2) := by decide +kernel
theorem d_X14_numberEnd_105 : decode b_X14_numberEnd 105 = .ok (.aload_n 0, 1) := by decide +kernel
theorem d_X14_numberEnd_106 : decode b_X14_numberEnd 106 = .ok (.iload_n 3, 1) := by decide +kernel
theorem d_X14_numberEnd_107 : decode b_X14_numberEnd 107 = .ok (.invokevirtual 209, 3) := by decide +kernel
theorem d_X14_numberEnd_110 : decode b_X14_numberEnd 110 = .ok (.invokestatic 243, 3) := by decide +kernel
theorem d_X14_numberEnd_113 : decode b_X14_numberEnd 113 = .ok (.ifCond .eq 37, 3) := by decide +kernel
theorem d_X14_numberEnd_116 : decode b_X14_numberEnd 116 = .ok (.lload 4, 2) := by decide +kernel
theorem d_X14_numberEnd_118 : decode b_X14_numberEnd 118 = .ok (.ldc2_w 277, 3) := by decide +kernel
theorem d_X14_numberEnd_121 : decode b_X14_numberEnd 121 = .ok (.lcmp, 1) := by decide +kernel
theorem d_X14_numberEnd_122 : decode b_X14_numberEnd 122 = .ok (.ifCond .gt 22, 3) := by decide +kernel
theorem d_X14_numberEnd_125 : decode b_X14_numberEnd 125 = .ok (.ldc2_w 279, 3) := by decide +kernel
theorem d_X14_numberEnd_128 : decode b_X14_numberEnd 128 = .ok (.lload 4, 2) := by decide +kernel
theorem d_X14_numberEnd_130 : decode b_X14_numberEnd 130 = .ok (.lmul, 1) := by decide +kernel
theorem d_X14_numberEnd_131 : decode b_X14_numberEnd 131 = .ok (.aload_n 0, 1) := by decide +kernel
theorem d_X14_numberEnd_132 : decode b_X14_numberEnd 132 = .ok (.iload_n 3, 1) := by decide +kernel
theorem d_X14_numberEnd_133 : decode b_X14_numberEnd 133 = .ok (.invokevirtual 209, 3) := by decide +kernel
theorem d_X14_numberEnd_136 : decode b_X14_numberEnd 136 = .ok (.i2l, 1) := by decide +kernel
theorem d_X14_numberEnd_137 : decode b_X14_numberEnd 137 = .ok (.ladd, 1) := by decide +kernel
theorem d_X14_numberEnd_138 : decode b_X14_numberEnd 138 = .ok (.ldc2_w 281, 3) := by decide +kernel
theorem d_X14_numberEnd_141 : decode b_X14_numberEnd 141 = .ok (.lsub, 1) := by decide +kernel
theorem d_X14_numberEnd_142 : decode b_X14_numberEnd 142 = .ok (.lstore 4, 2) := by decide +kernel
theorem d_X14_numberEnd_144 : decode b_X14_numberEnd 144 = .ok (.iinc 3 1, 3) := by decide +kernel
theorem d_X14_numberEnd_147 : decode b_X14_numberEnd 147 = .ok (.goto (-42), 3) := by decide +kernel
theorem d_X14_numberEnd_150 : decode b_X14_numberEnd 150 = .ok (.lload 4, 2) := by decide +kernel
theorem d_X14_numberEnd_152 : decode b_X14_numberEnd 152 = .ok (.ldc2_w 277, 3) := by decide +kernel
theorem d_X14_numberEnd_155 : decode b_X14_numberEnd 155 = .ok (.lcmp, 1) := by decide +kernel
theorem d_X14_numberEnd_156 : decode b_X14_numberEnd 156 = .ok (.ifCond .le 9, 3) := by decide +kernel
theorem d_X14_numberEnd_159 : decode b_X14_numberEnd 159 = .ok (.aload_n 0, 1) := by decide +kernel
theorem d_X14_numberEnd_160 : decode b_X14_numberEnd 160 = .ok (.iload_n 1, 1) := by decide +kernel
theorem d_X14_numberEnd_161 : decode b_X14_numberEnd 161 = .ok (.invokevirtual 234, 3) := by decide +kernel
theorem d_X14_numberEnd_164 : decode b_X14_numberEnd 164 = .ok (.ireturn, 1) := by decide +kernel
theorem d_X14_numberEnd_165 : decode b_X14_numberEnd 165 = .ok (.aload_n 0, 1) := by decide +kernel
theorem d_X14_numberEnd_166 : decode b_X14_numberEnd 166 = .ok (.iconst 3, 1) := by decide +kernel
theorem d_X14_numberEnd_167 : decode b_X14_numberEnd 167 = .ok (.iload_n 1, 1) := by decide +kernel
theorem d_X14_numberEnd_168 : decode b_X14_numberEnd 168 = .ok (.iload_n 3, 1) := by decide +kernel
theorem d_X14_numberEnd_169 : decode b_X14_numberEnd 169 = .ok (.iload_n 2, 1) := by decide +kernel
theorem d_X14_numberEnd_170 : decode b_X14_numberEnd 170 = .ok (.lload 4, 2) := by decide +kernel
theorem d_X14_numberEnd_172 : decode b_X14_numberEnd 172 = .ok (.l2i, 1) := by decide +kernel
theorem d_X14_numberEnd_173 : decode b_X14_numberEnd 173 = .ok (.invokevirtual 217, 3) := by decide +kernel
theorem d_X14_numberEnd_176 : decode b_X14_numberEnd 176 = .ok (.iload_n 3, 1) := by decide +kernel
theorem d_X14_numberEnd_177 : decode b_X14_numberEnd 177 = .ok (.ireturn, 1) := by decide +kernel
theorem d_X14_objects_0 : decode b_X14_objects 0 = .ok (.aload_n 0, 1) := by decide +kernel
theorem d_X14_objects_1 : decode b_X14_objects 1 = .ok (.getfield 327, 3) := by decide +kernel
theorem d_X14_objects_4 : decode b_X14_objects 4 = .ok (.ireturn, 1) := by decide +kernel
theorem d_X14_one_0_0 : decode b_X14_one_0 0 = .ok (.aload_n 0, 1) := by decide +kernel
theorem d_X14_one_0_1 : decode b_X14_one_0 1 = .ok (.iload_n 1, 1) := by decide +kernel
theorem d_X14_one_0_2 : decode b_X14_one_0 2 = .ok (.invokevirtual 209, 3) := by decide +kernel
theorem d_X14_one_0_5 : decode b_X14_one_0 5 = .ok (.istore_n 3, 1) := by decide +kernel
theorem d_X14_one_0_6 : decode b_X14_one_0 6 = .ok (.iload_n 3, 1) := by decide +kernel
theorem d_X14_one_0_7 : decode b_X14_one_0 7 = .ok (.invokestatic 237, 3) := by decide +kernel
theorem d_X14_one_0_10 : decode b_X14_one_0 10 = .ok (.ifCond .eq 10, 3) := by decide +kernel
theorem d_X14_one_0_13 : decode b_X14_one_0 13 = .ok (.aload_n 0, 1) := by decide +kernel
theorem d_X14_one_0_14 : decode b_X14_one_0 14 = .ok (.iload_n 1, 1) := by decide +kernel
theorem d_X14_one_0_15 : decode b_X14_one_0 15 = .ok (.iload_n 2, 1) := by decide +kernel
theorem d_X14_one_0_16 : decode b_X14_one_0 16 = .ok (.invokevirtual 240, 3) := by decide +kernel
theorem d_X14_one_0_19 : decode b_X14_one_0 19 = .ok (.ireturn, 1) := by decide +kernel
theorem d_X14_one_0_20 : decode b_X14_one_0 20 = .ok (.iload_n 3, 1) := by decide +kernel
theorem d_X14_one_0_21 : decode b_X14_one_0 21 = .ok (.invokestatic 243, 3) := by decide +kernel
theorem d_X14_one_0_24 : decode b_X14_one_0 24 = .ok (.ifCond .eq 10, 3) := by decide +kernel
theorem d_X14_one_0_27 : decode b_X14_one_0 27 = .ok (.aload_n 0, 1) := by decide +kernel
theorem d_X14_one_0_28 : decode b_X14_one_0 28 = .ok (.iload_n 1, 1) := by decide +kernel
theorem d_X14_one_0_29 : decode b_X14_one_0 29 = .ok (.iload_n 2, 1) := by decide +kernel
theorem d_X14_one_0_30 : decode b_X14_one_0 30 = .ok (.invokevirtual 246, 3) := by decide +kernel
theorem d_X14_one_0_33 : decode b_X14_one_0 33 = .ok (.ireturn, 1) := by decide +kernel
theorem d_X14_one_0_34 : decode b_X14_one_0 34 = .ok (.iload_n 3, 1) := by decide +kernel
theorem d_X14_one_0_35 : decode b_X14_one_0 35 = .ok (.bipush 39, 2) := by decide +kernel
theorem d_X14_one_0_37 : decode b_X14_one_0 37 = .ok (.if_icmp .ne 10, 3) := by decide +kernel
theorem d_X14_one_0_40 : decode b_X14_one_0 40 = .ok (.aload_n 0, 1) := by decide +kernel
theorem d_X14_one_0_41 : decode b_X14_one_0 41 = .ok (.iload_n 1, 1) := by decide +kernel
theorem d_X14_one_0_42 : decode b_X14_one_0 42 = .ok (.iload_n 2, 1) := by decide +kernel
theorem d_X14_one_0_43 : decode b_X14_one_0 43 = .ok (.invokevirtual 249, 3) := by decide +kernel
theorem d_X14_one_0_46 : decode b_X14_one_0 46 = .ok (.ireturn, 1) := by decide +kernel
theorem d_X14_one_0_47 : decode b_X14_one_0 47 = .ok (.iload_n 3, 1) := by decide +kernel
theorem d_X14_one_0_48 : decode b_X14_one_0 48 = .ok (.bipush 34, 2) := by decide +kernel
theorem d_X14_one_0_50 : decode b_X14_one_0 50 = .ok (.if_icmp .ne 10, 3) := by decide +kernel
theorem d_X14_one_0_53 : decode b_X14_one_0 53 = .ok (.aload_n 0, 1) := by decide +kernel
theorem d_X14_one_0_54 : decode b_X14_one_0 54 = .ok (.iload_n 1, 1) := by decide +kernel
theorem d_X14_one_0_55 : decode b_X14_one_0 55 = .ok (.iload_n 2, 1) := by decide +kernel
theorem d_X14_one_0_56 : decode b_X14_one_0 56 = .ok (.invokevirtual 252, 3) := by decide +kernel
theorem d_X14_one_0_59 : decode b_X14_one_0 59 = .ok (.ireturn, 1) := by decide +kernel
theorem d_X14_one_0_60 : decode b_X14_one_0 60 = .ok (.aload_n 0, 1) := by decide +kernel
theorem d_X14_one_0_61 : decode b_X14_one_0 61 = .ok (.iload_n 1, 1) := by decide +kernel
theorem d_X14_one_0_62 : decode b_X14_one_0 62 = .ok (.iload_n 2, 1) := by decide +kernel
theorem d_X14_one_0_63 : decode b_X14_one_0 63 = .ok (.invokevirtual 255, 3) := by decide +kernel
theorem d_X14_one_0_66 : decode b_X14_one_0 66 = .ok (.ireturn, 1) := by decide +kernel
theorem d_X14_one_1_0 : decode b_X14_one_1 0 = .ok (.aload_n 0, 1) := by decide +kernel
theorem d_X14_one_1_1 : decode b_X14_one_1 1 = .ok (.getfield 315, 3) := by decide +kernel
theorem d_X14_one_1_4 : decode b_X14_one_1 4 = .ok (.istore 5, 2) := by decide +kernel
theorem d_X14_one_1_6 : decode b_X14_one_1 6 = .ok (.aload_n 0, 1) := by decide +kernel
theorem d_X14_one_1_7 : decode b_X14_one_1 7 = .ok (.iconst 1, 1) := by decide +kernel
theorem d_X14_one_1_8 : decode b_X14_one_1 8 = .ok (.invokevirtual 395, 3) := by decide +kernel
theorem d_X14_one_1_11 : decode b_X14_one_1 11 = .ok (.astore 6, 2) := by decide +kernel
theorem d_X14_one_1_13 : decode b_X14_one_1 13 = .ok (.aload_n 0, 1) := by decide +kernel
theorem d_X14_one_1_14 : decode b_X14_one_1 14 = .ok (.aload 6, 2) := by decide +kernel
theorem d_X14_one_1_16 : decode b_X14_one_1 16 = .ok (.invokevirtual 398, 3) := by decide +kernel
theorem d_X14_one_1_19 : decode b_X14_one_1 19 = .ok (.iload 4, 2) := by decide +kernel
theorem d_X14_one_1_21 : decode b_X14_one_1 21 = .ok (.ifCond .ne 67, 3) := by decide +kernel
theorem d_X14_one_1_24 : decode b_X14_one_1 24 = .ok (.aload_n 0, 1) := by decide +kernel
theorem d_X14_one_1_25 : decode b_X14_one_1 25 = .ok (.iload 5, 2) := by decide +kernel
theorem d_X14_one_1_27 : decode b_X14_one_1 27 = .ok (.putfield 315, 3) := by decide +kernel
theorem d_X14_one_1_30 : decode b_X14_one_1 30 = .ok (.aload_n 0, 1) := by decide +kernel
theorem d_X14_one_1_31 : decode b_X14_one_1 31 = .ok (.aload 6, 2) := by decide +kernel
theorem d_X14_one_1_33 : decode b_X14_one_1 33 = .ok (.iload_n 1, 1) := by decide +kernel
theorem d_X14_one_1_34 : decode b_X14_one_1 34 = .ok (.invokevirtual 640, 3) := by decide +kernel
theorem d_X14_one_1_37 : decode b_X14_one_1 37 = .ok (.ifCond .eq 43, 3) := by decide +kernel
theorem d_X14_one_1_40 : decode b_X14_one_1 40 = .ok (.aload_n 0, 1) := by decide +kernel
theorem d_X14_one_1_41 : decode b_X14_one_1 41 = .ok (.iload_n 2, 1) := by decide +kernel
theorem d_X14_one_1_42 : decode b_X14_one_1 42 = .ok (.aload 6, 2) := by decide +kernel
theorem d_X14_one_1_44 : decode b_X14_one_1 44 = .ok (.getfield 357, 3) := by decide +kernel
theorem d_X14_one_1_47 : decode b_X14_one_1 47 = .ok (.ifCond .eq 7, 3) := by decide +kernel
theorem d_X14_one_1_50 : decode b_X14_one_1 50 = .ok (.iconst 0, 1) := by decide +kernel
theorem d_X14_one_1_51 : decode b_X14_one_1 51 = .ok (.goto 8, 3) := by decide +kernel
theorem d_X14_one_1_54 : decode b_X14_one_1 54 = .ok (.aload 6, 2) := by decide +kernel
theorem d_X14_one_1_56 : decode b_X14_one_1 56 = .ok (.getfield 457, 3) := by decide +kernel
theorem d_X14_one_1_59 : decode b_X14_one_1 59 = .ok (.aload 6, 2) := by decide +kernel
theorem d_X14_one_1_61 : decode b_X14_one_1 61 = .ok (.getfield 454, 3) := by decide +kernel
theorem d_X14_one_1_64 : decode b_X14_one_1 64 = .ok (.iconst 2, 1) := by decide +kernel
theorem d_X14_one_1_65 : decode b_X14_one_1 65 = .ok (.if_icmp .ne 11, 3) := by decide +kernel
theorem d_X14_one_1_68 : decode b_X14_one_1 68 = .ok (.aload 6, 2) := by decide +kernel
theorem d_X14_one_1_70 : decode b_X14_one_1 70 = .ok (.getfield 467, 3) := by decide +kernel
theorem d_X14_one_1_73 : decode b_X14_one_1 73 = .ok (.goto 4, 3) := by decide +kernel
theorem d_X14_one_1_76 : decode b_X14_one_1 76 = .ok (.iconst 0, 1) := by decide +kernel
theorem d_X14_one_1_77 : decode b_X14_one_1 77 = .ok (.invokevirtual 521, 3) := by decide +kernel
theorem d_X14_one_1_80 : decode b_X14_one_1 80 = .ok (.aload_n 0, 1) := by decide +kernel
theorem d_X14_one_1_81 : decode b_X14_one_1 81 = .ok (.aload 6, 2) := by decide +kernel
theorem d_X14_one_1_83 : decode b_X14_one_1 83 = .ok (.iload_n 1, 1) := by decide +kernel
theorem d_X14_one_1_84 : decode b_X14_one_1 84 = .ok (.invokevirtual 640, 3) := by decide +kernel
theorem d_X14_one_1_87 : decode b_X14_one_1 87 = .ok (.ireturn, 1) := by decide +kernel
theorem d_X14_one_1_88 : decode b_X14_one_1 88 = .ok (.iload_n 3, 1) := by decide +kernel
theorem d_X14_one_1_89 : decode b_X14_one_1 89 = .ok (.ifCond .lt 19, 3) := by decide +kernel
theorem d_X14_one_1_92 : decode b_X14_one_1 92 = .ok (.aload_n 0, 1) := by decide +kernel
theorem d_X14_one_1_93 : decode b_X14_one_1 93 = .ok (.getfield 117, 3) := by decide +kernel
theorem d_X14_one_1_96 : decode b_X14_one_1 96 = .ok (.iload_n 3, 1) := by decide +kernel
theorem d_X14_one_1_97 : decode b_X14_one_1 97 = .ok (.iaload, 1) := by decide +kernel
theorem d_X14_one_1_98 : decode b_X14_one_1 98 = .ok (.ifCond .ge 10, 3) := by decide +kernel
theorem d_X14_one_1_101 : decode b_X14_one_1 101 = .ok (.aload_n 0, 1) := by decide +kernel
theorem d_X14_one_1_102 : decode b_X14_one_1 102 = .ok (.bipush 7, 2) := by decide +kernel
theorem d_X14_one_1_104 : decode b_X14_one_1 104 = .ok (.iload_n 3, 1) := by decide +kernel
theorem d_X14_one_1_105 : decode b_X14_one_1 105 = .ok (.invokevirtual 322, 3) := by decide +kernel
theorem d_X14_one_1_108 : decode b_X14_one_1 108 = .ok (.iload_n 3, 1) := by decide +kernel
theorem d_X14_one_1_109 : decode b_X14_one_1 109 = .ok (.ifCond .lt 18, 3) := by decide +kernel
theorem d_X14_one_1_112 : decode b_X14_one_1 112 = .ok (.aload_n 0, 1) := by decide +kernel
theorem d_X14_one_1_113 : decode b_X14_one_1 113 = .ok (.getfield 117, 3) := by decide +kernel
theorem d_X14_one_1_116 : decode b_X14_one_1 116 = .ok (.iload_n 3, 1) := by decide +kernel
theorem d_X14_one_1_117 : decode b_X14_one_1 117 = .ok (.iaload, 1) := by decide +kernel
theorem d_X14_one_1_118 : decode b_X14_one_1 118 = .ok (.ifCond .ge 9, 3) := by decide +kernel
theorem d_X14_one_1_121 : decode b_X14_one_1 121 = .ok (.aload_n 0, 1) := by decide +kernel
theorem d_X14_one_1_122 : decode b_X14_one_1 122 = .ok (.bipush 10, 2) := by decide +kernel
theorem d_X14_one_1_124 : decode b_X14_one_1 124 = .ok (.invokevirtual 318, 3) := by decide +kernel
theorem d_X14_one_1_127 : decode b_X14_one_1 127 = .ok (.aload 6, 2) := by decide +kernel
theorem d_X14_one_1_129 : decode b_X14_one_1 129 = .ok (.iload_n 1, 1) := by decide +kernel
theorem d_X14_one_1_130 : decode b_X14_one_1 130 = .ok (.invokestatic 402, 3) := by decide +kernel
theorem d_X14_one_1_133 : decode b_X14_one_1 133 = .ok (.ireturn, 1) := by decide +kernel
theorem d_X14_one_2_0 : decode b_X14_one_2 0 = .ok (.aload_n 0, 1) := by decide +kernel
theorem d_X14_one_2_1 : decode b_X14_one_2 1 = .ok (.iload_n 1, 1) := by decide +kernel
theorem d_X14_one_2_2 : decode b_X14_one_2 2 = .ok (.bipush 41, 2) := by decide +kernel
theorem d_X14_one_2_4 : decode b_X14_one_2 4 = .ok (.if_icmp .ne 10, 3) := by decide +kernel
theorem d_X14_one_2_7 : decode b_X14_one_2 7 = .ok (.aload_n 2, 1) := by decide +kernel
theorem d_X14_one_2_8 : decode b_X14_one_2 8 = .ok (.invokestatic 431, 3) := by decide +kernel
theorem d_X14_one_2_11 : decode b_X14_one_2 11 = .ok (.goto 7, 3) := by decide +kernel
theorem d_X14_one_2_14 : decode b_X14_one_2 14 = .ok (.aload_n 2, 1) := by decide +kernel
theorem d_X14_one_2_15 : decode b_X14_one_2 15 = .ok (.invokestatic 406, 3) := by decide +kernel
theorem d_X14_one_2_18 : decode b_X14_one_2 18 = .ok (.iload_n 3, 1) := by decide +kernel
theorem d_X14_one_2_19 : decode b_X14_one_2 19 = .ok (.invokevirtual 410, 3) := by decide +kernel
theorem d_X14_one_2_22 : decode b_X14_one_2 22 = .ok (.aload_n 0, 1) := by decide +kernel
theorem d_X14_one_2_23 : decode b_X14_one_2 23 = .ok (.iconst 0, 1) := by decide +kernel
theorem d_X14_one_2_24 : decode b_X14_one_2 24 = .ok (.aload_n 2, 1) := by decide +kernel
theorem d_X14_one_2_25 : decode b_X14_one_2 25 = .ok (.aload_n 2, 1) := by decide +kernel
theorem d_X14_one_2_26 : decode b_X14_one_2 26 = .ok (.iload_n 3, 1) := by decide +kernel
theorem d_X14_one_2_27 : decode b_X14_one_2 27 = .ok (.invokevirtual 414, 3) := by decide +kernel
theorem d_X14_one_2_30 : decode b_X14_one_2 30 = .ok (.astore 4, 2) := by decide +kernel
theorem d_X14_one_2_32 : decode b_X14_one_2 32 = .ok (.aload_n 0, 1) := by decide +kernel
theorem d_X14_one_2_33 : decode b_X14_one_2 33 = .ok (.iload_n 1, 1) := by decide +kernel
theorem d_X14_one_2_34 : decode b_X14_one_2 34 = .ok (.bipush 41, 2) := by decide +kernel
theorem d_X14_one_2_36 : decode b_X14_one_2 36 = .ok (.if_icmp .ne 8, 3) := by decide +kernel
theorem d_X14_one_2_39 : decode b_X14_one_2 39 = .ok (.bipush 14, 2) := by decide +kernel
theorem d_X14_one_2_41 : decode b_X14_one_2 41 = .ok (.goto 16, 3) := by decide +kernel
theorem d_X14_one_2_44 : decode b_X14_one_2 44 = .ok (.iload_n 1, 1) := by decide +kernel
theorem d_X14_one_2_45 : decode b_X14_one_2 45 = .ok (.bipush 37, 2) := by decide +kernel
theorem d_X14_one_2_47 : decode b_X14_one_2 47 = .ok (.if_icmp .ne 8, 3) := by decide +kernel
theorem d_X14_one_2_50 : decode b_X14_one_2 50 = .ok (.bipush 12, 2) := by decide +kernel
theorem d_X14_one_2_52 : decode b_X14_one_2 52 = .ok (.goto 5, 3) := by decide +kernel
theorem d_X14_one_2_55 : decode b_X14_one_2 55 = .ok (.bipush 13, 2) := by decide +kernel
theorem d_X14_one_2_57 : decode b_X14_one_2 57 = .ok (.invokevirtual 318, 3) := by decide +kernel
theorem d_X14_one_2_60 : decode b_X14_one_2 60 = .ok (.aload_n 2, 1) := by decide +kernel
theorem d_X14_one_2_61 : decode b_X14_one_2 61 = .ok (.getfield 454, 3) := by decide +kernel
theorem d_X14_one_2_64 : decode b_X14_one_2 64 = .ok (.iconst 1, 1) := by decide +kernel
theorem d_X14_one_2_65 : decode b_X14_one_2 65 = .ok (.if_icmp .ne 20, 3) := by decide +kernel
theorem d_X14_one_2_68 : decode b_X14_one_2 68 = .ok (.aload_n 2, 1) := by decide +kernel
theorem d_X14_one_2_69 : decode b_X14_one_2 69 = .ok (.invokestatic 406, 3) := by decide +kernel
theorem d_X14_one_2_72 : decode b_X14_one_2 72 = .ok (.ifCond .eq 13, 3) := by decide +kernel
theorem d_X14_one_2_75 : decode b_X14_one_2 75 = .ok (.aload 4, 2) := by decide +kernel
theorem d_X14_one_2_77 : decode b_X14_one_2 77 = .ok (.getfield 371, 3) := by decide +kernel
theorem d_X14_one_2_80 : decode b_X14_one_2 80 = .ok (.bipush 60, 2) := by decide +kernel
theorem d_X14_one_2_82 : decode b_X14_one_2 82 = .ok (.if_icmp .le 6, 3) := by decide +kernel
theorem d_X14_one_2_85 : decode b_X14_one_2 85 = .ok (.aload 4, 2) := by decide +kernel
theorem d_X14_one_2_87 : decode b_X14_one_2 87 = .ok (.areturn, 1) := by decide +kernel
theorem d_X14_one_2_88 : decode b_X14_one_2 88 = .ok (.aload 4, 2) := by decide +kernel
theorem d_X14_one_2_90 : decode b_X14_one_2 90 = .ok (.iload_n 1, 1) := by decide +kernel
theorem d_X14_one_2_91 : decode b_X14_one_2 91 = .ok (.bipush 41, 2) := by decide +kernel
theorem d_X14_one_2_93 : decode b_X14_one_2 93 = .ok (.if_icmp .ne 18, 3) := by decide +kernel
theorem d_X14_one_2_96 : decode b_X14_one_2 96 = .ok (.aload_n 2, 1) := by decide +kernel
theorem d_X14_one_2_97 : decode b_X14_one_2 97 = .ok (.getfield 457, 3) := by decide +kernel
theorem d_X14_one_2_100 : decode b_X14_one_2 100 = .ok (.ifCond .ne 7, 3) := by decide +kernel
theorem d_X14_one_2_103 : decode b_X14_one_2 103 = .ok (.iconst 1, 1) := by decide +kernel
theorem d_X14_one_2_104 : decode b_X14_one_2 104 = .ok (.goto 27, 3) := by decide +kernel
theorem d_X14_one_2_107 : decode b_X14_one_2 107 = .ok (.iconst 0, 1) := by decide +kernel
theorem d_X14_one_2_108 : decode b_X14_one_2 108 = .ok (.goto 23, 3) := by decide +kernel
theorem d_X14_one_2_111 : decode b_X14_one_2 111 = .ok (.iload_n 1, 1) := by decide +kernel
theorem d_X14_one_2_112 : decode b_X14_one_2 112 = .ok (.bipush 37, 2) := by decide +kernel
theorem d_X14_one_2_114 : decode b_X14_one_2 114 = .ok (.if_icmp .ne 11, 3) := by decide +kernel
theorem d_X14_one_2_117 : decode b_X14_one_2 117 = .ok (.aload_n 2, 1) := by decide +kernel
theorem d_X14_one_2_118 : decode b_X14_one_2 118 = .ok (.getfield 457, 3) := by decide +kernel
theorem d_X14_one_2_121 : decode b_X14_one_2 121 = .ok (.ineg, 1) := by decide +kernel
theorem d_X14_one_2_122 : decode b_X14_one_2 122 = .ok (.goto 9, 3) := by decide +kernel
theorem d_X14_one_2_125 : decode b_X14_one_2 125 = .ok (.aload_n 2, 1) := by decide +kernel
theorem d_X14_one_2_126 : decode b_X14_one_2 126 = .ok (.getfield 457, 3) := by decide +kernel
theorem d_X14_one_2_129 : decode b_X14_one_2 129 = .ok (.iconst (-1), 1) := by decide +kernel
theorem d_X14_one_2_130 : decode b_X14_one_2 130 = .ok (.ixor, 1) := by decide +kernel
theorem d_X14_one_2_131 : decode b_X14_one_2 131 = .ok (.invokevirtual 464, 3) := by decide +kernel
theorem d_X14_one_2_134 : decode b_X14_one_2 134 = .ok (.areturn, 1) := by decide +kernel
theorem d_X14_oneInitial_0 : decode b_X14_oneInitial 0 = .ok (.aload_n 0, 1) := by decide +kernel
theorem d_X14_oneInitial_1 : decode b_X14_oneInitial 1 = .ok (.bipush 22, 2) := by decide +kernel
theorem d_X14_oneInitial_3 : decode b_X14_oneInitial 3 = .ok (.invokevirtual 308, 3) := by decide +kernel
theorem d_X14_oneInitial_6 : decode b_X14_oneInitial 6 = .ok (.ifCond .eq 15, 3) := by decide +kernel
theorem d_X14_oneInitial_9 : decode b_X14_oneInitial 9 = .ok (.aload_n 0, 1) := by decide +kernel
theorem d_X14_oneInitial_10 : decode b_X14_oneInitial 10 = .ok (.iconst (-1), 1) := by decide +kernel
theorem d_X14_oneInitial_11 : decode b_X14_oneInitial 11 = .ok (.iload_n 1, 1) := by decide +kernel
theorem d_X14_oneInitial_12 : decode b_X14_oneInitial 12 = .ok (.iconst 0, 1) := by decide +kernel
theorem d_X14_oneInitial_13 : decode b_X14_oneInitial 13 = .ok (.iload_n 2, 1) := by decide +kernel
theorem d_X14_oneInitial_14 : decode b_X14_oneInitial 14 = .ok (.iload_n 3, 1) := by decide +kernel
theorem d_X14_oneInitial_15 : decode b_X14_oneInitial 15 = .ok (.invokevirtual 634, 3) := by decide +kernel
theorem d_X14_oneInitial_18 : decode b_X14_oneInitial 18 = .ok (.pop, 1) := by decide +kernel
theorem d_X14_oneInitial_19 : decode b_X14_oneInitial 19 = .ok (.iconst 0, 1) := by decide +kernel
theorem d_X14_oneInitial_20 : decode b_X14_oneInitial 20 = .ok (.ireturn, 1) := by decide +kernel
theorem d_X14_oneInitial_21 : decode b_X14_oneInitial 21 = .ok (.aload_n 0, 1) := by decide +kernel
theorem d_X14_oneInitial_22 : decode b_X14_oneInitial 22 = .ok (.iload_n 1, 1) := by decide +kernel
theorem d_X14_oneInitial_23 : decode b_X14_oneInitial 23 = .ok (.iload_n 3, 1) := by decide +kernel
theorem d_X14_oneInitial_24 : decode b_X14_oneInitial 24 = .ok (.ifCond .ne 7, 3) := by decide +kernel
theorem d_X14_oneInitial_27 : decode b_X14_oneInitial 27 = .ok (.iload_n 2, 1) := by decide +kernel
theorem d_X14_oneInitial_28 : decode b_X14_oneInitial 28 = .ok (.ifCond .ge 7, 3) := by decide +kernel
theorem d_X14_oneInitial_31 : decode b_X14_oneInitial 31 = .ok (.iconst (-1), 1) := by decide +kernel
theorem d_X14_oneInitial_32 : decode b_X14_oneInitial 32 = .ok (.goto 9, 3) := by decide +kernel
theorem d_X14_oneInitial_35 : decode b_X14_oneInitial 35 = .ok (.aload_n 0, 1) := by decide +kernel
theorem d_X14_oneInitial_36 : decode b_X14_oneInitial 36 = .ok (.getfield 70, 3) := by decide +kernel
theorem d_X14_oneInitial_39 : decode b_X14_oneInitial 39 = .ok (.iload_n 2, 1) := by decide +kernel
theorem d_X14_oneInitial_40 : decode b_X14_oneInitial 40 = .ok (.iaload, 1) := by decide +kernel
theorem d_X14_oneInitial_41 : decode b_X14_oneInitial 41 = .ok (.iload_n 2, 1) := by decide +kernel
theorem d_X14_oneInitial_42 : decode b_X14_oneInitial 42 = .ok (.iload_n 3, 1) := by decide +kernel
theorem d_X14_oneInitial_43 : decode b_X14_oneInitial 43 = .ok (.invokevirtual 638, 3) := by decide +kernel
theorem d_X14_oneInitial_46 : decode b_X14_oneInitial 46 = .ok (.ireturn, 1) := by decide +kernel
theorem d_X14_open_0 : decode b_X14_open 0 = .ok (.aload_n 0, 1) := by decide +kernel
theorem d_X14_open_1 : decode b_X14_open 1 = .ok (.iload_n 1, 1) := by decide +kernel
theorem d_X14_open_2 : decode b_X14_open 2 = .ok (.iconst (-1), 1) := by decide +kernel
theorem d_X14_open_3 : decode b_X14_open 3 = .ok (.invokevirtual 322, 3) := by decide +kernel
theorem d_X14_open_6 : decode b_X14_open 6 = .ok (.aload_n 0, 1) := by decide +kernel
theorem d_X14_open_7 : decode b_X14_open 7 = .ok (.getfield 315, 3) := by decide +kernel
theorem d_X14_open_10 : decode b_X14_open 10 = .ok (.iconst 1, 1) := by decide +kernel
theorem d_X14_open_11 : decode b_X14_open 11 = .ok (.isub, 1) := by decide +kernel
theorem d_X14_open_12 : decode b_X14_open 12 = .ok (.ireturn, 1) := by decide +kernel
theorem d_X14_out_0 : decode b_X14_out 0 = .ok (.iload_n 1, 1) := by decide +kernel
theorem d_X14_out_1 : decode b_X14_out 1 = .ok (.ifCond .lt 24, 3) := by decide +kernel
theorem d_X14_out_4 : decode b_X14_out 4 = .ok (.iload_n 1, 1) := by decide +kernel
theorem d_X14_out_5 : decode b_X14_out 5 = .ok (.aload_n 0, 1) := by decide +kernel
theorem d_X14_out_6 : decode b_X14_out 6 = .ok (.getfield 753, 3) := by decide +kernel
theorem d_X14_out_9 : decode b_X14_out 9 = .ok (.if_icmp .ge 16, 3) := by decide +kernel
theorem d_X14_out_12 : decode b_X14_out 12 = .ok (.aload_n 0, 1) := by decide +kernel
theorem d_X14_out_13 : decode b_X14_out 13 = .ok (.getfield 191, 3) := by decide +kernel
theorem d_X14_out_16 : decode b_X14_out 16 = .ok (.iload_n 1, 1) := by decide +kernel
theorem d_X14_out_17 : decode b_X14_out 17 = .ok (.baload, 1) := by decide +kernel
theorem d_X14_out_18 : decode b_X14_out 18 = .ok (.sipush 255, 3) := by decide +kernel
theorem d_X14_out_21 : decode b_X14_out 21 = .ok (.iand, 1) := by decide +kernel
theorem d_X14_out_22 : decode b_X14_out 22 = .ok (.goto 4, 3) := by decide +kernel
theorem d_X14_out_25 : decode b_X14_out 25 = .ok (.iconst (-1), 1) := by decide +kernel
theorem d_X14_out_26 : decode b_X14_out 26 = .ok (.ireturn, 1) := by decide +kernel
theorem d_X14_parametersOf_0 : decode b_X14_parametersOf 0 = .ok (.aload_n 0, 1) := by decide +kernel
theorem d_X14_parametersOf_1 : decode b_X14_parametersOf 1 = .ok (.getfield 194, 3) := by decide +kernel
theorem d_X14_parametersOf_4 : decode b_X14_parametersOf 4 = .ok (.iload_n 1, 1) := by decide +kernel
theorem d_X14_parametersOf_5 : decode b_X14_parametersOf 5 = .ok (.iaload, 1) := by decide +kernel
theorem d_X14_parametersOf_6 : decode b_X14_parametersOf 6 = .ok (.ireturn, 1) := by decide +kernel
theorem d_X14_peek_0 : decode b_X14_peek 0 = .ok (.aload_n 0, 1) := by decide +kernel
theorem d_X14_peek_1 : decode b_X14_peek 1 = .ok (.getfield 744, 3) := by decide +kernel
theorem d_X14_peek_4 : decode b_X14_peek 4 = .ok (.ifCond .eq 22, 3) := by decide +kernel
theorem d_X14_peek_7 : decode b_X14_peek 7 = .ok (.iload_n 1, 1) := by decide +kernel
theorem d_X14_peek_8 : decode b_X14_peek 8 = .ok (.ifCond .lt 18, 3) := by decide +kernel
theorem d_X14_peek_11 : decode b_X14_peek 11 = .ok (.iload_n 1, 1) := by decide +kernel
theorem d_X14_peek_12 : decode b_X14_peek 12 = .ok (.ldc 168, 2) := by decide +kernel
theorem d_X14_peek_14 : decode b_X14_peek 14 = .ok (.if_icmp .ge 12, 3) := by decide +kernel
theorem d_X14_peek_17 : decode b_X14_peek 17 = .ok (.aload_n 0, 1) := by decide +kernel
theorem d_X14_peek_18 : decode b_X14_peek 18 = .ok (.getfield 169, 3) := by decide +kernel
theorem d_X14_peek_21 : decode b_X14_peek 21 = .ok (.iload_n 1, 1) := by decide +kernel
theorem d_X14_peek_22 : decode b_X14_peek 22 = .ok (.iaload, 1) := by decide +kernel
theorem d_X14_peek_23 : decode b_X14_peek 23 = .ok (.goto 4, 3) := by decide +kernel
theorem d_X14_peek_26 : decode b_X14_peek 26 = .ok (.iconst 0, 1) := by decide +kernel
theorem d_X14_peek_27 : decode b_X14_peek 27 = .ok (.ireturn, 1) := by decide +kernel
theorem d_X14_pick_0 : decode b_X14_pick 0 = .ok (.aload_n 0, 1) := by decide +kernel
theorem d_X14_pick_1 : decode b_X14_pick 1 = .ok (.iload_n 1, 1) := by decide +kernel
theorem d_X14_pick_2 : decode b_X14_pick 2 = .ok (.invokevirtual 680, 3) := by decide +kernel
theorem d_X14_pick_5 : decode b_X14_pick 5 = .ok (.ifCond .ne 5, 3) := by decide +kernel
theorem d_X14_pick_8 : decode b_X14_pick 8 = .ok (.iconst (-1), 1) := by decide +kernel
theorem d_X14_pick_9 : decode b_X14_pick 9 = .ok (.ireturn, 1) := by decide +kernel
theorem d_X14_pick_10 : decode b_X14_pick 10 = .ok (.iconst 0, 1) := by decide +kernel
theorem d_X14_pick_11 : decode b_X14_pick 11 = .ok (.istore_n 2, 1) := by decide +kernel
theorem d_X14_pick_12 : decode b_X14_pick 12 = .ok (.iload_n 2, 1) := by decide +kernel
theorem d_X14_pick_13 : decode b_X14_pick 13 = .ok (.aload_n 0, 1) := by decide +kernel
theorem d_X14_pick_14 : decode b_X14_pick 14 = .ok (.getfield 689, 3) := by decide +kernel
theorem d_X14_pick_17 : decode b_X14_pick 17 = .ok (.if_icmp .ge 21, 3) := by decide +kernel
theorem d_X14_pick_20 : decode b_X14_pick 20 = .ok (.aload_n 0, 1) := by decide +kernel
theorem d_X14_pick_21 : decode b_X14_pick 21 = .ok (.getfield 141, 3) := by decide +kernel
theorem d_X14_pick_24 : decode b_X14_pick 24 = .ok (.iload_n 2, 1) := by decide +kernel
theorem d_X14_pick_25 : decode b_X14_pick 25 = .ok (.iaload, 1) := by decide +kernel
theorem d_X14_pick_26 : decode b_X14_pick 26 = .ok (.iload_n 1, 1) := by decide +kernel
theorem d_X14_pick_27 : decode b_X14_pick 27 = .ok (.if_icmp .ne 5, 3) := by decide +kernel
theorem d_X14_pick_30 : decode b_X14_pick 30 = .ok (.iconst (-1), 1) := by decide +kernel
theorem d_X14_pick_31 : decode b_X14_pick 31 = .ok (.ireturn, 1) := by decide +kernel
theorem d_X14_pick_32 : decode b_X14_pick 32 = .ok (.iinc 2 1, 3) := by decide +kernel
theorem d_X14_pick_35 : decode b_X14_pick 35 = .ok (.goto (-23), 3) := by decide +kernel
theorem d_X14_pick_38 : decode b_X14_pick 38 = .ok (.aload_n 0, 1) := by decide +kernel
theorem d_X14_pick_39 : decode b_X14_pick 39 = .ok (.getfield 141, 3) := by decide +kernel
theorem d_X14_pick_42 : decode b_X14_pick 42 = .ok (.aload_n 0, 1) := by decide +kernel
theorem d_X14_pick_43 : decode b_X14_pick 43 = .ok (.getfield 689, 3) := by decide +kernel
theorem d_X14_pick_46 : decode b_X14_pick 46 = .ok (.iload_n 1, 1) := by decide +kernel
theorem d_X14_pick_47 : decode b_X14_pick 47 = .ok (.iastore, 1) := by decide +kernel
theorem d_X14_pick_48 : decode b_X14_pick 48 = .ok (.aload_n 0, 1) := by decide +kernel
theorem d_X14_pick_49 : decode b_X14_pick 49 = .ok (.dup, 1) := by decide +kernel
theorem d_X14_pick_50 : decode b_X14_pick 50 = .ok (.getfield 689, 3) := by decide +kernel
theorem d_X14_pick_53 : decode b_X14_pick 53 = .ok (.iconst 1, 1) := by decide +kernel
theorem d_X14_pick_54 : decode b_X14_pick 54 = .ok (.iadd, 1) := by decide +kernel
theorem d_X14_pick_55 : decode b_X14_pick 55 = .ok (.putfield 689, 3) := by decide +kernel
theorem d_X14_pick_58 : decode b_X14_pick 58 = .ok (.aload_n 0, 1) := by decide +kernel
theorem d_X14_pick_59 : decode b_X14_pick 59 = .ok (.getfield 689, 3) := by decide +kernel
theorem d_X14_pick_62 : decode b_X14_pick 62 = .ok (.ireturn, 1) := by decide +kernel
theorem d_X14_place_0 : decode b_X14_place 0 = .ok (.aload_n 0, 1) := by decide +kernel
theorem d_X14_place_1 : decode b_X14_place 1 = .ok (.getfield 36, 3) := by decide +kernel
theorem d_X14_place_4 : decode b_X14_place 4 = .ok (.ireturn, 1) := by decide +kernel
theorem d_X14_plain_0 : decode b_X14_plain 0 = .ok (.aload_n 0, 1) := by decide +kernel
theorem d_X14_plain_1 : decode b_X14_plain 1 = .ok (.iconst 1, 1) := by decide +kernel
theorem d_X14_plain_2 : decode b_X14_plain 2 = .ok (.invokevirtual 395, 3) := by decide +kernel
theorem d_X14_plain_5 : decode b_X14_plain 5 = .ok (.astore_n 1, 1) := by decide +kernel
theorem d_X14_plain_6 : decode b_X14_plain 6 = .ok (.aload_n 0, 1) := by decide +kernel
theorem d_X14_plain_7 : decode b_X14_plain 7 = .ok (.aload_n 1, 1) := by decide +kernel
theorem d_X14_plain_8 : decode b_X14_plain 8 = .ok (.iconst 0, 1) := by decide +kernel
theorem d_X14_plain_9 : decode b_X14_plain 9 = .ok (.invokevirtual 533, 3) := by decide +kernel
theorem d_X14_plain_12 : decode b_X14_plain 12 = .ok (.return_, 1) := by decide +kernel
theorem d_X14_pointed_0 : decode b_X14_pointed 0 = .ok (.aload_n 1, 1) := by decide +kernel
theorem d_X14_pointed_1 : decode b_X14_pointed 1 = .ok (.getfield 361, 3) := by decide +kernel
theorem d_X14_pointed_4 : decode b_X14_pointed 4 = .ok (.ifCond .eq 23, 3) := by decide +kernel
theorem d_X14_pointed_7 : decode b_X14_pointed 7 = .ok (.aload_n 1, 1) := by decide +kernel
theorem d_X14_pointed_8 : decode b_X14_pointed 8 = .ok (.getfield 352, 3) := by decide +kernel
theorem d_X14_pointed_11 : decode b_X14_pointed 11 = .ok (.ifCond .lt 16, 3) := by decide +kernel
theorem d_X14_pointed_14 : decode b_X14_pointed 14 = .ok (.aload_n 1, 1) := by decide +kernel
theorem d_X14_pointed_15 : decode b_X14_pointed 15 = .ok (.getfield 352, 3) := by decide +kernel
theorem d_X14_pointed_18 : decode b_X14_pointed 18 = .ok (.bipush 9, 2) := by decide +kernel
theorem d_X14_pointed_20 : decode b_X14_pointed 20 = .ok (.if_icmp .ge 7, 3) := by decide +kernel
theorem d_X14_pointed_23 : decode b_X14_pointed 23 = .ok (.iconst 1, 1) := by decide +kernel
theorem d_X14_pointed_24 : decode b_X14_pointed 24 = .ok (.goto 4, 3) := by decide +kernel
theorem d_X14_pointed_27 : decode b_X14_pointed 27 = .ok (.iconst 0, 1) := by decide +kernel
theorem d_X14_pointed_28 : decode b_X14_pointed 28 = .ok (.istore_n 3, 1) := by decide +kernel
theorem d_X14_pointed_29 : decode b_X14_pointed 29 = .ok (.aload_n 0, 1) := by decide +kernel
theorem d_X14_pointed_30 : decode b_X14_pointed 30 = .ok (.iload_n 3, 1) := by decide +kernel
theorem d_X14_pointed_31 : decode b_X14_pointed 31 = .ok (.iload_n 2, 1) := by decide +kernel
theorem d_X14_pointed_32 : decode b_X14_pointed 32 = .ok (.invokevirtual 410, 3) := by decide +kernel
theorem d_X14_pointed_35 : decode b_X14_pointed 35 = .ok (.aload_n 0, 1) := by decide +kernel
theorem d_X14_pointed_36 : decode b_X14_pointed 36 = .ok (.iload_n 3, 1) := by decide +kernel
theorem d_X14_pointed_37 : decode b_X14_pointed 37 = .ok (.ifCond .eq 12, 3) := by decide +kernel
theorem d_X14_pointed_40 : decode b_X14_pointed 40 = .ok (.aload_n 1, 1) := by decide +kernel
theorem d_X14_pointed_41 : decode b_X14_pointed 41 = .ok (.getfield 352, 3) := by decide +kernel
theorem d_X14_pointed_44 : decode b_X14_pointed 44 = .ok (.iconst 1, 1) := by decide +kernel
theorem d_X14_pointed_45 : decode b_X14_pointed 45 = .ok (.iadd, 1) := by decide +kernel
theorem d_X14_pointed_46 : decode b_X14_pointed 46 = .ok (.goto 5, 3) := by decide +kernel
theorem d_X14_pointed_49 : decode b_X14_pointed 49 = .ok (.bipush (-2), 2) := by decide +kernel
theorem d_X14_pointed_51 : decode b_X14_pointed 51 = .ok (.aload_n 1, 1) := by decide +kernel
theorem d_X14_pointed_52 : decode b_X14_pointed 52 = .ok (.aload_n 1, 1) := by decide +kernel
theorem d_X14_pointed_53 : decode b_X14_pointed 53 = .ok (.iload_n 2, 1) := by decide +kernel
theorem d_X14_pointed_54 : decode b_X14_pointed 54 = .ok (.invokevirtual 414, 3) := by decide +kernel
theorem d_X14_pointed_57 : decode b_X14_pointed 57 = .ok (.astore 4, 2) := by decide +kernel
theorem d_X14_pointed_59 : decode b_X14_pointed 59 = .ok (.aload_n 1, 1) := by decide +kernel
theorem d_X14_pointed_60 : decode b_X14_pointed 60 = .ok (.getfield 361, 3) := by decide +kernel
theorem d_X14_pointed_63 : decode b_X14_pointed 63 = .ok (.iconst 1, 1) := by decide +kernel
theorem d_X14_pointed_64 : decode b_X14_pointed 64 = .ok (.if_icmp .ne 22, 3) := by decide +kernel
theorem d_X14_pointed_67 : decode b_X14_pointed 67 = .ok (.aload_n 0, 1) := by decide +kernel
theorem d_X14_pointed_68 : decode b_X14_pointed 68 = .ok (.getfield 120, 3) := by decide +kernel
theorem d_X14_pointed_71 : decode b_X14_pointed 71 = .ok (.aload_n 1, 1) := by decide +kernel
theorem d_X14_pointed_72 : decode b_X14_pointed 72 = .ok (.getfield 364, 3) := by decide +kernel
theorem d_X14_pointed_75 : decode b_X14_pointed 75 = .ok (.iconst 1, 1) := by decide +kernel
theorem d_X14_pointed_76 : decode b_X14_pointed 76 = .ok (.bastore, 1) := by decide +kernel
theorem d_X14_pointed_77 : decode b_X14_pointed 77 = .ok (.aload_n 0, 1) := by decide +kernel
theorem d_X14_pointed_78 : decode b_X14_pointed 78 = .ok (.iconst 4, 1) := by decide +kernel
theorem d_X14_pointed_79 : decode b_X14_pointed 79 = .ok (.aload_n 1, 1) := by decide +kernel
theorem d_X14_pointed_80 : decode b_X14_pointed 80 = .ok (.getfield 364, 3) := by decide +kernel
theorem d_X14_pointed_83 : decode b_X14_pointed 83 = .ok (.invokevirtual 322, 3) := by decide +kernel
theorem d_X14_pointed_86 : decode b_X14_pointed 86 = .ok (.aload_n 1, 1) := by decide +kernel
theorem d_X14_pointed_87 : decode b_X14_pointed 87 = .ok (.getfield 361, 3) := by decide +kernel
theorem d_X14_pointed_90 : decode b_X14_pointed 90 = .ok (.iconst 2, 1) := by decide +kernel
theorem d_X14_pointed_91 : decode b_X14_pointed 91 = .ok (.if_icmp .eq 6, 3) := by decide +kernel
theorem d_X14_pointed_94 : decode b_X14_pointed 94 = .ok (.aload 4, 2) := by decide +kernel
theorem d_X14_pointed_96 : decode b_X14_pointed 96 = .ok (.areturn, 1) := by decide +kernel
theorem d_X14_pointed_97 : decode b_X14_pointed 97 = .ok (.aload_n 0, 1) := by decide +kernel
theorem d_X14_pointed_98 : decode b_X14_pointed 98 = .ok (.iconst 1, 1) := by decide +kernel
theorem d_X14_pointed_99 : decode b_X14_pointed 99 = .ok (.aload_n 1, 1) := by decide +kernel
theorem d_X14_pointed_100 : decode b_X14_pointed 100 = .ok (.getfield 364, 3) := by decide +kernel
theorem d_X14_pointed_103 : decode b_X14_pointed 103 = .ok (.invokevirtual 322, 3) := by decide +kernel
theorem d_X14_pointed_106 : decode b_X14_pointed 106 = .ok (.aload 4, 2) := by decide +kernel
theorem d_X14_pointed_108 : decode b_X14_pointed 108 = .ok (.getfield 371, 3) := by decide +kernel
theorem d_X14_pointed_111 : decode b_X14_pointed 111 = .ok (.bipush 60, 2) := by decide +kernel
theorem d_X14_pointed_113 : decode b_X14_pointed 113 = .ok (.if_icmp .le 8, 3) := by decide +kernel
theorem d_X14_pointed_116 : decode b_X14_pointed 116 = .ok (.aload 4, 2) := by decide +kernel
theorem d_X14_pointed_118 : decode b_X14_pointed 118 = .ok (.goto 15, 3) := by decide +kernel
theorem d_X14_pointed_121 : decode b_X14_pointed 121 = .ok (.aload 4, 2) := by decide +kernel
theorem d_X14_pointed_123 : decode b_X14_pointed 123 = .ok (.aload_n 1, 1) := by decide +kernel
theorem d_X14_pointed_124 : decode b_X14_pointed 124 = .ok (.getfield 364, 3) := by decide +kernel
theorem d_X14_pointed_127 : decode b_X14_pointed 127 = .ok (.iconst 1, 1) := by decide +kernel
theorem d_X14_pointed_128 : decode b_X14_pointed 128 = .ok (.iadd, 1) := by decide +kernel
theorem d_X14_pointed_129 : decode b_X14_pointed 129 = .ok (.iconst 0, 1) := by decide +kernel
theorem d_X14_pointed_130 : decode b_X14_pointed 130 = .ok (.invokevirtual 470, 3) := by decide +kernel
theorem d_X14_pointed_133 : decode b_X14_pointed 133 = .ok (.areturn, 1) := by decide +kernel
theorem d_X14_pointedTo_0 : decode b_X14_pointedTo 0 = .ok (.aload_n 0, 1) := by decide +kernel
theorem d_X14_pointedTo_1 : decode b_X14_pointedTo 1 = .ok (.aload_n 1, 1) := by decide +kernel
theorem d_X14_pointedTo_2 : decode b_X14_pointedTo 2 = .ok (.invokestatic 434, 3) := by decide +kernel
theorem d_X14_pointedTo_5 : decode b_X14_pointedTo 5 = .ok (.iload_n 2, 1) := by decide +kernel
theorem d_X14_pointedTo_6 : decode b_X14_pointedTo 6 = .ok (.invokevirtual 410, 3) := by decide +kernel
theorem d_X14_pointedTo_9 : decode b_X14_pointedTo 9 = .ok (.aload_n 0, 1) := by decide +kernel
theorem d_X14_pointedTo_10 : decode b_X14_pointedTo 10 = .ok (.aload_n 1, 1) := by decide +kernel
theorem d_X14_pointedTo_11 : decode b_X14_pointedTo 11 = .ok (.invokestatic 434, 3) := by decide +kernel
theorem d_X14_pointedTo_14 : decode b_X14_pointedTo 14 = .ok (.ifCond .eq 12, 3) := by decide +kernel
theorem d_X14_pointedTo_17 : decode b_X14_pointedTo 17 = .ok (.aload_n 1, 1) := by decide +kernel
theorem d_X14_pointedTo_18 : decode b_X14_pointedTo 18 = .ok (.getfield 352, 3) := by decide +kernel
theorem d_X14_pointedTo_21 : decode b_X14_pointedTo 21 = .ok (.iconst 1, 1) := by decide +kernel
theorem d_X14_pointedTo_22 : decode b_X14_pointedTo 22 = .ok (.isub, 1) := by decide +kernel
theorem d_X14_pointedTo_23 : decode b_X14_pointedTo 23 = .ok (.goto 5, 3) := by decide +kernel
theorem d_X14_pointedTo_26 : decode b_X14_pointedTo 26 = .ok (.bipush (-2), 2) := by decide +kernel
theorem d_X14_pointedTo_28 : decode b_X14_pointedTo 28 = .ok (.aload_n 1, 1) := by decide +kernel
theorem d_X14_pointedTo_29 : decode b_X14_pointedTo 29 = .ok (.aload_n 1, 1) := by decide +kernel
theorem d_X14_pointedTo_30 : decode b_X14_pointedTo 30 = .ok (.iload_n 2, 1) := by decide +kernel
theorem d_X14_pointedTo_31 : decode b_X14_pointedTo 31 = .ok (.invokevirtual 414, 3) := by decide +kernel
theorem d_X14_pointedTo_34 : decode b_X14_pointedTo 34 = .ok (.astore_n 3, 1) := by decide +kernel
theorem d_X14_pointedTo_35 : decode b_X14_pointedTo 35 = .ok (.aload_n 3, 1) := by decide +kernel
theorem d_X14_pointedTo_36 : decode b_X14_pointedTo 36 = .ok (.iconst 3, 1) := by decide +kernel
theorem d_X14_pointedTo_37 : decode b_X14_pointedTo 37 = .ok (.putfield 361, 3) := by decide +kernel
theorem d_X14_pointedTo_40 : decode b_X14_pointedTo 40 = .ok (.aload_n 3, 1) := by decide +kernel
theorem d_X14_pointedTo_41 : decode b_X14_pointedTo 41 = .ok (.iload_n 2, 1) := by decide +kernel
theorem d_X14_pointedTo_42 : decode b_X14_pointedTo 42 = .ok (.putfield 367, 3) := by decide +kernel
theorem d_X14_pointedTo_45 : decode b_X14_pointedTo 45 = .ok (.aload_n 3, 1) := by decide +kernel
theorem d_X14_pointedTo_46 : decode b_X14_pointedTo 46 = .ok (.areturn, 1) := by decide +kernel
theorem d_X14_pop_0 : decode b_X14_pop 0 = .ok (.aload_n 0, 1) := by decide +kernel
theorem d_X14_pop_1 : decode b_X14_pop 1 = .ok (.dup, 1) := by decide +kernel
theorem d_X14_pop_2 : decode b_X14_pop 2 = .ok (.getfield 768, 3) := by decide +kernel
theorem d_X14_pop_5 : decode b_X14_pop 5 = .ok (.iconst 1, 1) := by decide +kernel
theorem d_X14_pop_6 : decode b_X14_pop 6 = .ok (.isub, 1) := by decide +kernel
theorem d_X14_pop_7 : decode b_X14_pop 7 = .ok (.putfield 768, 3) := by decide +kernel
theorem d_X14_pop_10 : decode b_X14_pop 10 = .ok (.aload_n 0, 1) := by decide +kernel
theorem d_X14_pop_11 : decode b_X14_pop 11 = .ok (.getfield 173, 3) := by decide +kernel
theorem d_X14_pop_14 : decode b_X14_pop 14 = .ok (.aload_n 0, 1) := by decide +kernel
theorem d_X14_pop_15 : decode b_X14_pop 15 = .ok (.getfield 768, 3) := by decide +kernel
theorem d_X14_pop_18 : decode b_X14_pop 18 = .ok (.iaload, 1) := by decide +kernel
theorem d_X14_pop_19 : decode b_X14_pop 19 = .ok (.ireturn, 1) := by decide +kernel
theorem d_X14_primary_0 : decode b_X14_primary 0 = .ok (.aload_n 0, 1) := by decide +kernel
theorem d_X14_primary_1 : decode b_X14_primary 1 = .ok (.getfield 288, 3) := by decide +kernel
theorem d_X14_primary_4 : decode b_X14_primary 4 = .ok (.istore_n 2, 1) := by decide +kernel
theorem d_X14_primary_5 : decode b_X14_primary 5 = .ok (.aload_n 0, 1) := by decide +kernel
theorem d_X14_primary_6 : decode b_X14_primary 6 = .ok (.getfield 13, 3) := by decide +kernel
theorem d_X14_primary_9 : decode b_X14_primary 9 = .ok (.aload_n 0, 1) := by decide +kernel
theorem d_X14_primary_10 : decode b_X14_primary 10 = .ok (.getfield 288, 3) := by decide +kernel
theorem d_X14_primary_13 : decode b_X14_primary 13 = .ok (.iaload, 1) := by decide +kernel
theorem d_X14_primary_14 : decode b_X14_primary 14 = .ok (.iconst 3, 1) := by decide +kernel
theorem d_X14_primary_15 : decode b_X14_primary 15 = .ok (.if_icmp .ne 62, 3) := by decide +kernel
theorem d_X14_primary_18 : decode b_X14_primary 18 = .ok (.aload_n 0, 1) := by decide +kernel
theorem d_X14_primary_19 : decode b_X14_primary 19 = .ok (.dup, 1) := by decide +kernel
theorem d_X14_primary_20 : decode b_X14_primary 20 = .ok (.getfield 288, 3) := by decide +kernel
theorem d_X14_primary_23 : decode b_X14_primary 23 = .ok (.iconst 1, 1) := by decide +kernel
theorem d_X14_primary_24 : decode b_X14_primary 24 = .ok (.iadd, 1) := by decide +kernel
theorem d_X14_primary_25 : decode b_X14_primary 25 = .ok (.putfield 288, 3) := by decide +kernel
theorem d_X14_primary_28 : decode b_X14_primary 28 = .ok (.aload_n 0, 1) := by decide +kernel
theorem d_X14_primary_29 : decode b_X14_primary 29 = .ok (.iconst 0, 1) := by decide +kernel
theorem d_X14_primary_30 : decode b_X14_primary 30 = .ok (.aload_n 0, 1) := by decide +kernel
theorem d_X14_primary_31 : decode b_X14_primary 31 = .ok (.getfield 26, 3) := by decide +kernel
theorem d_X14_primary_34 : decode b_X14_primary 34 = .ok (.iload_n 2, 1) := by decide +kernel
theorem d_X14_primary_35 : decode b_X14_primary 35 = .ok (.iaload, 1) := by decide +kernel
theorem d_X14_primary_36 : decode b_X14_primary 36 = .ok (.invokevirtual 322, 3) := by decide +kernel
theorem d_X14_primary_39 : decode b_X14_primary 39 = .ok (.new 353, 3) := by decide +kernel
theorem d_X14_primary_42 : decode b_X14_primary 42 = .ok (.dup, 1) := by decide +kernel
theorem d_X14_primary_43 : decode b_X14_primary 43 = .ok (.iconst 0, 1) := by decide +kernel
theorem d_X14_primary_44 : decode b_X14_primary 44 = .ok (.invokespecial 369, 3) := by decide +kernel
theorem d_X14_primary_47 : decode b_X14_primary 47 = .ok (.aload_n 0, 1) := by decide +kernel
theorem d_X14_primary_48 : decode b_X14_primary 48 = .ok (.getfield 26, 3) := by decide +kernel
theorem d_X14_primary_51 : decode b_X14_primary 51 = .ok (.iload_n 2, 1) := by decide +kernel
theorem d_X14_primary_52 : decode b_X14_primary 52 = .ok (.iaload, 1) := by decide +kernel
theorem d_X14_primary_53 : decode b_X14_primary 53 = .ok (.invokevirtual 464, 3) := by decide +kernel
theorem d_X14_primary_56 : decode b_X14_primary 56 = .ok (.astore_n 3, 1) := by decide +kernel
theorem d_X14_primary_57 : decode b_X14_primary 57 = .ok (.aload_n 3, 1) := by decide +kernel
theorem d_X14_primary_58 : decode b_X14_primary 58 = .ok (.aload_n 0, 1) := by decide +kernel
theorem d_X14_primary_59 : decode b_X14_primary 59 = .ok (.getfield 26, 3) := by decide +kernel
theorem d_X14_primary_62 : decode b_X14_primary 62 = .ok (.iload_n 2, 1) := by decide +kernel
theorem d_X14_primary_63 : decode b_X14_primary 63 = .ok (.iaload, 1) := by decide +kernel
theorem d_X14_primary_64 : decode b_X14_primary 64 = .ok (.ifCond .ne 7, 3) := by decide +kernel
theorem d_X14_primary_67 : decode b_X14_primary 67 = .ok (.iconst 1, 1) := by decide +kernel
theorem d_X14_primary_68 : decode b_X14_primary 68 = .ok (.goto 4, 3) := by decide +kernel
theorem d_X14_primary_71 : decode b_X14_primary 71 = .ok (.iconst 0, 1) := by decide +kernel
theorem d_X14_primary_72 : decode b_X14_primary 72 = .ok (.putfield 357, 3) := by decide +kernel
theorem d_X14_primary_75 : decode b_X14_primary 75 = .ok (.aload_n 3, 1) := by decide +kernel
theorem d_X14_primary_76 : decode b_X14_primary 76 = .ok (.areturn, 1) := by decide +kernel
theorem d_X14_primary_77 : decode b_X14_primary 77 = .ok (.aload_n 0, 1) := by decide +kernel
theorem d_X14_primary_78 : decode b_X14_primary 78 = .ok (.getfield 13, 3) := by decide +kernel
theorem d_X14_primary_81 : decode b_X14_primary 81 = .ok (.aload_n 0, 1) := by decide +kernel
theorem d_X14_primary_82 : decode b_X14_primary 82 = .ok (.getfield 288, 3) := by decide +kernel
theorem d_X14_primary_85 : decode b_X14_primary 85 = .ok (.iaload, 1) := by decide +kernel
theorem d_X14_primary_86 : decode b_X14_primary 86 = .ok (.iconst 4, 1) := by decide +kernel
theorem d_X14_primary_87 : decode b_X14_primary 87 = .ok (.if_icmp .ne 19, 3) := by decide +kernel
theorem d_X14_primary_90 : decode b_X14_primary 90 = .ok (.aload_n 0, 1) := by decide +kernel
theorem d_X14_primary_91 : decode b_X14_primary 91 = .ok (.dup, 1) := by decide +kernel
theorem d_X14_primary_92 : decode b_X14_primary 92 = .ok (.getfield 288, 3) := by decide +kernel
theorem d_X14_primary_95 : decode b_X14_primary 95 = .ok (.iconst 1, 1) := by decide +kernel
theorem d_X14_primary_96 : decode b_X14_primary 96 = .ok (.iadd, 1) := by decide +kernel
theorem d_X14_primary_97 : decode b_X14_primary 97 = .ok (.putfield 288, 3) := by decide +kernel
theorem d_X14_primary_100 : decode b_X14_primary 100 = .ok (.aload_n 0, 1) := by decide +kernel
theorem d_X14_primary_101 : decode b_X14_primary 101 = .ok (.iload_n 2, 1) := by decide +kernel
theorem d_X14_primary_102 : decode b_X14_primary 102 = .ok (.invokevirtual 506, 3) := by decide +kernel
theorem d_X14_primary_105 : decode b_X14_primary 105 = .ok (.areturn, 1) := by decide +kernel
theorem d_X14_primary_106 : decode b_X14_primary 106 = .ok (.aload_n 0, 1) := by decide +kernel
theorem d_X14_primary_107 : decode b_X14_primary 107 = .ok (.getfield 13, 3) := by decide +kernel
theorem d_X14_primary_110 : decode b_X14_primary 110 = .ok (.aload_n 0, 1) := by decide +kernel
theorem d_X14_primary_111 : decode b_X14_primary 111 = .ok (.getfield 288, 3) := by decide +kernel
theorem d_X14_primary_114 : decode b_X14_primary 114 = .ok (.iaload, 1) := by decide +kernel
theorem d_X14_primary_115 : decode b_X14_primary 115 = .ok (.iconst 2, 1) := by decide +kernel
theorem d_X14_primary_116 : decode b_X14_primary 116 = .ok (.if_icmp .ne 37, 3) := by decide +kernel
theorem d_X14_primary_119 : decode b_X14_primary 119 = .ok (.aload_n 0, 1) := by decide +kernel
theorem d_X14_primary_120 : decode b_X14_primary 120 = .ok (.dup, 1) := by decide +kernel
theorem d_X14_primary_121 : decode b_X14_primary 121 = .ok (.getfield 288, 3) := by decide +kernel
theorem d_X14_primary_124 : decode b_X14_primary 124 = .ok (.iconst 1, 1) := by decide +kernel
theorem d_X14_primary_125 : decode b_X14_primary 125 = .ok (.iadd, 1) := by decide +kernel
theorem d_X14_primary_126 : decode b_X14_primary 126 = .ok (.putfield 288, 3) := by decide +kernel
theorem d_X14_primary_129 : decode b_X14_primary 129 = .ok (.aload_n 0, 1) := by decide +kernel
theorem d_X14_primary_130 : decode b_X14_primary 130 = .ok (.bipush 20, 2) := by decide +kernel
theorem d_X14_primary_132 : decode b_X14_primary 132 = .ok (.invokevirtual 308, 3) := by decide +kernel
theorem d_X14_primary_135 : decode b_X14_primary 135 = .ok (.ifCond .eq 12, 3) := by decide +kernel
theorem d_X14_primary_138 : decode b_X14_primary 138 = .ok (.aload_n 0, 1) := by decide +kernel
theorem d_X14_primary_139 : decode b_X14_primary 139 = .ok (.iload_n 2, 1) := by decide +kernel
theorem d_X14_primary_140 : decode b_X14_primary 140 = .ok (.iload_n 1, 1) := by decide +kernel
theorem d_X14_primary_141 : decode b_X14_primary 141 = .ok (.invokevirtual 509, 3) := by decide +kernel
theorem d_X14_primary_144 : decode b_X14_primary 144 = .ok (.goto 8, 3) := by decide +kernel
theorem d_X14_primary_147 : decode b_X14_primary 147 = .ok (.aload_n 0, 1) := by decide +kernel
theorem d_X14_primary_148 : decode b_X14_primary 148 = .ok (.iload_n 2, 1) := by decide +kernel
theorem d_X14_primary_149 : decode b_X14_primary 149 = .ok (.invokevirtual 512, 3) := by decide +kernel
theorem d_X14_primary_152 : decode b_X14_primary 152 = .ok (.areturn, 1) := by decide +kernel
theorem d_X14_primary_153 : decode b_X14_primary 153 = .ok (.aload_n 0, 1) := by decide +kernel
theorem d_X14_primary_154 : decode b_X14_primary 154 = .ok (.bipush 20, 2) := by decide +kernel
theorem d_X14_primary_156 : decode b_X14_primary 156 = .ok (.invokevirtual 308, 3) := by decide +kernel
theorem d_X14_primary_159 : decode b_X14_primary 159 = .ok (.ifCond .ne 8, 3) := by decide +kernel
theorem d_X14_primary_162 : decode b_X14_primary 162 = .ok (.aload_n 0, 1) := by decide +kernel
theorem d_X14_primary_163 : decode b_X14_primary 163 = .ok (.invokevirtual 311, 3) := by decide +kernel
theorem d_X14_primary_166 : decode b_X14_primary 166 = .ok (.athrow, 1) := by decide +kernel
theorem d_X14_primary_167 : decode b_X14_primary 167 = .ok (.aload_n 0, 1) := by decide +kernel
theorem d_X14_primary_168 : decode b_X14_primary 168 = .ok (.iload_n 1, 1) := by decide +kernel
theorem d_X14_primary_169 : decode b_X14_primary 169 = .ok (.invokevirtual 389, 3) := by decide +kernel
theorem d_X14_primary_172 : decode b_X14_primary 172 = .ok (.istore_n 3, 1) := by decide +kernel
theorem d_X14_primary_173 : decode b_X14_primary 173 = .ok (.aload_n 0, 1) := by decide +kernel
theorem d_X14_primary_174 : decode b_X14_primary 174 = .ok (.dup, 1) := by decide +kernel
theorem d_X14_primary_175 : decode b_X14_primary 175 = .ok (.getfield 288, 3) := by decide +kernel
theorem d_X14_primary_178 : decode b_X14_primary 178 = .ok (.iconst 1, 1) := by decide +kernel
theorem d_X14_primary_179 : decode b_X14_primary 179 = .ok (.iadd, 1) := by decide +kernel
theorem d_X14_primary_180 : decode b_X14_primary 180 = .ok (.putfield 288, 3) := by decide +kernel
theorem d_X14_primary_183 : decode b_X14_primary 183 = .ok (.aload_n 0, 1) := by decide +kernel
theorem d_X14_primary_184 : decode b_X14_primary 184 = .ok (.iload_n 3, 1) := by decide +kernel
theorem d_X14_primary_185 : decode b_X14_primary 185 = .ok (.invokevirtual 395, 3) := by decide +kernel
theorem d_X14_primary_188 : decode b_X14_primary 188 = .ok (.astore 4, 2) := by decide +kernel
theorem d_X14_primary_190 : decode b_X14_primary 190 = .ok (.aload_n 0, 1) := by decide +kernel
theorem d_X14_primary_191 : decode b_X14_primary 191 = .ok (.bipush 21, 2) := by decide +kernel
theorem d_X14_primary_193 : decode b_X14_primary 193 = .ok (.invokevirtual 497, 3) := by decide +kernel
theorem d_X14_primary_196 : decode b_X14_primary 196 = .ok (.aload 4, 2) := by decide +kernel
theorem d_X14_primary_198 : decode b_X14_primary 198 = .ok (.areturn, 1) := by decide +kernel
theorem d_X14_print_0 : decode b_X14_print 0 = .ok (.iload_n 1, 1) := by decide +kernel
theorem d_X14_print_1 : decode b_X14_print 1 = .ok (.i2l, 1) := by decide +kernel
theorem d_X14_print_2 : decode b_X14_print 2 = .ok (.lstore_n 3, 1) := by decide +kernel
theorem d_X14_print_3 : decode b_X14_print 3 = .ok (.lload_n 3, 1) := by decide +kernel
theorem d_X14_print_4 : decode b_X14_print 4 = .ok (.lconst 0, 1) := by decide +kernel
theorem d_X14_print_5 : decode b_X14_print 5 = .ok (.lcmp, 1) := by decide +kernel
theorem d_X14_print_6 : decode b_X14_print 6 = .ok (.ifCond .ge 13, 3) := by decide +kernel
theorem d_X14_print_9 : decode b_X14_print 9 = .ok (.aload_n 0, 1) := by decide +kernel
theorem d_X14_print_10 : decode b_X14_print 10 = .ok (.bipush 45, 2) := by decide +kernel
theorem d_X14_print_12 : decode b_X14_print 12 = .ok (.iload_n 2, 1) := by decide +kernel
theorem d_X14_print_13 : decode b_X14_print 13 = .ok (.invokevirtual 825, 3) := by decide +kernel
theorem d_X14_print_16 : decode b_X14_print 16 = .ok (.lload_n 3, 1) := by decide +kernel
theorem d_X14_print_17 : decode b_X14_print 17 = .ok (.lneg, 1) := by decide +kernel
theorem d_X14_print_18 : decode b_X14_print 18 = .ok (.lstore_n 3, 1) := by decide +kernel
theorem d_X14_print_19 : decode b_X14_print 19 = .ok (.lconst 1, 1) := by decide +kernel
theorem d_X14_print_20 : decode b_X14_print 20 = .ok (.lstore 5, 2) := by decide +kernel
theorem d_X14_print_22 : decode b_X14_print 22 = .ok (.lload_n 3, 1) := by decide +kernel
theorem d_X14_print_23 : decode b_X14_print 23 = .ok (.lload 5, 2) := by decide +kernel
theorem d_X14_print_25 : decode b_X14_print 25 = .ok (.ldiv, 1) := by decide +kernel
theorem d_X14_print_26 : decode b_X14_print 26 = .ok (.ldc2_w 279, 3) := by decide +kernel
theorem d_X14_print_29 : decode b_X14_print 29 = .ok (.lcmp, 1) := by decide +kernel
theorem d_X14_print_30 : decode b_X14_print 30 = .ok (.ifCond .lt 14, 3) := by decide +kernel
theorem d_X14_print_33 : decode b_X14_print 33 = .ok (.lload 5, 2) := by decide +kernel
theorem d_X14_print_35 : decode b_X14_print 35 = .ok (.ldc2_w 279, 3) := by decide +kernel
theorem d_X14_print_38 : decode b_X14_print 38 = .ok (.lmul, 1) := by decide +kernel
theorem d_X14_print_39 : decode b_X14_print 39 = .ok (.lstore 5, 2) := by decide +kernel
theorem d_X14_print_41 : decode b_X14_print 41 = .ok (.goto (-19), 3) := by decide +kernel
theorem d_X14_print_44 : decode b_X14_print 44 = .ok (.lload 5, 2) := by decide +kernel
theorem d_X14_print_46 : decode b_X14_print 46 = .ok (.lconst 0, 1) := by decide +kernel
theorem d_X14_print_47 : decode b_X14_print 47 = .ok (.lcmp, 1) := by decide +kernel
theorem d_X14_print_48 : decode b_X14_print 48 = .ok (.ifCond .le 32, 3) := by decide +kernel
theorem d_X14_print_51 : decode b_X14_print 51 = .ok (.aload_n 0, 1) := by decide +kernel
theorem d_X14_print_52 : decode b_X14_print 52 = .ok (.ldc2_w 281, 3) := by decide +kernel
theorem d_X14_print_55 : decode b_X14_print 55 = .ok (.lload_n 3, 1) := by decide +kernel
theorem d_X14_print_56 : decode b_X14_print 56 = .ok (.lload 5, 2) := by decide +kernel
theorem d_X14_print_58 : decode b_X14_print 58 = .ok (.ldiv, 1) := by decide +kernel
theorem d_X14_print_59 : decode b_X14_print 59 = .ok (.ldc2_w 279, 3) := by decide +kernel
theorem d_X14_print_62 : decode b_X14_print 62 = .ok (.lrem, 1) := by decide +kernel
theorem d_X14_print_63 : decode b_X14_print 63 = .ok (.ladd, 1) := by decide +kernel
theorem d_X14_print_64 : decode b_X14_print 64 = .ok (.l2i, 1) := by decide +kernel
theorem d_X14_print_65 : decode b_X14_print 65 = .ok (.iload_n 2, 1) := by decide +kernel
theorem d_X14_print_66 : decode b_X14_print 66 = .ok (.invokevirtual 825, 3) := by decide +kernel
theorem d_X14_print_69 : decode b_X14_print 69 = .ok (.lload 5, 2) := by decide +kernel
theorem d_X14_print_71 : decode b_X14_print 71 = .ok (.ldc2_w 279, 3) := by decide +kernel
theorem d_X14_print_74 : decode b_X14_print 74 = .ok (.ldiv, 1) := by decide +kernel
theorem d_X14_print_75 : decode b_X14_print 75 = .ok (.lstore 5, 2) := by decide +kernel
theorem d_X14_print_77 : decode b_X14_print 77 = .ok (.goto (-33), 3) := by decide +kernel
theorem d_X14_print_80 : decode b_X14_print 80 = .ok (.return_, 1) := by decide +kernel
theorem d_X14_push_0 : decode b_X14_push 0 = .ok (.aload_n 0, 1) := by decide +kernel
theorem d_X14_push_1 : decode b_X14_push 1 = .ok (.getfield 173, 3) := by decide +kernel
theorem d_X14_push_4 : decode b_X14_push 4 = .ok (.aload_n 0, 1) := by decide +kernel
theorem d_X14_push_5 : decode b_X14_push 5 = .ok (.getfield 768, 3) := by decide +kernel
theorem d_X14_push_8 : decode b_X14_push 8 = .ok (.iload_n 1, 1) := by decide +kernel
theorem d_X14_push_9 : decode b_X14_push 9 = .ok (.iastore, 1) := by decide +kernel
theorem d_X14_push_10 : decode b_X14_push 10 = .ok (.aload_n 0, 1) := by decide +kernel
theorem d_X14_push_11 : decode b_X14_push 11 = .ok (.dup, 1) := by decide +kernel
theorem d_X14_push_12 : decode b_X14_push 12 = .ok (.getfield 768, 3) := by decide +kernel
theorem d_X14_push_15 : decode b_X14_push 15 = .ok (.iconst 1, 1) := by decide +kernel
theorem d_X14_push_16 : decode b_X14_push 16 = .ok (.iadd, 1) := by decide +kernel
theorem d_X14_push_17 : decode b_X14_push 17 = .ok (.putfield 768, 3) := by decide +kernel
theorem d_X14_push_20 : decode b_X14_push 20 = .ok (.return_, 1) := by decide +kernel
theorem d_X14_put_0_0 : decode b_X14_put_0 0 = .ok (.aload_n 0, 1) := by decide +kernel
theorem d_X14_put_0_1 : decode b_X14_put_0 1 = .ok (.getfield 315, 3) := by decide +kernel
theorem d_X14_put_0_4 : decode b_X14_put_0 4 = .ok (.iconst 4, 1) := by decide +kernel
theorem d_X14_put_0_5 : decode b_X14_put_0 5 = .ok (.iadd, 1) := by decide +kernel
theorem d_X14_put_0_6 : decode b_X14_put_0 6 = .ok (.aload_n 0, 1) := by decide +kernel
theorem d_X14_put_0_7 : decode b_X14_put_0 7 = .ok (.getfield 41, 3) := by decide +kernel
theorem d_X14_put_0_10 : decode b_X14_put_0 10 = .ok (.arraylength, 1) := by decide +kernel
theorem d_X14_put_0_11 : decode b_X14_put_0 11 = .ok (.if_icmp .lt 43, 3) := by decide +kernel
theorem d_X14_put_0_14 : decode b_X14_put_0 14 = .ok (.iconst 2, 1) := by decide +kernel
theorem d_X14_put_0_15 : decode b_X14_put_0 15 = .ok (.aload_n 0, 1) := by decide +kernel
theorem d_X14_put_0_16 : decode b_X14_put_0 16 = .ok (.getfield 41, 3) := by decide +kernel
theorem d_X14_put_0_19 : decode b_X14_put_0 19 = .ok (.arraylength, 1) := by decide +kernel
theorem d_X14_put_0_20 : decode b_X14_put_0 20 = .ok (.imul, 1) := by decide +kernel
theorem d_X14_put_0_21 : decode b_X14_put_0 21 = .ok (.newarray .int, 2) := by decide +kernel
theorem d_X14_put_0_23 : decode b_X14_put_0 23 = .ok (.astore_n 2, 1) := by decide +kernel
theorem d_X14_put_0_24 : decode b_X14_put_0 24 = .ok (.iconst 0, 1) := by decide +kernel
theorem d_X14_put_0_25 : decode b_X14_put_0 25 = .ok (.istore_n 3, 1) := by decide +kernel
theorem d_X14_put_0_26 : decode b_X14_put_0 26 = .ok (.iload_n 3, 1) := by decide +kernel
theorem d_X14_put_0_27 : decode b_X14_put_0 27 = .ok (.aload_n 0, 1) := by decide +kernel
theorem d_X14_put_0_28 : decode b_X14_put_0 28 = .ok (.getfield 315, 3) := by decide +kernel
theorem d_X14_put_0_31 : decode b_X14_put_0 31 = .ok (.if_icmp .ge 18, 3) := by decide +kernel
theorem d_X14_put_0_34 : decode b_X14_put_0 34 = .ok (.aload_n 2, 1) := by decide +kernel
theorem d_X14_put_0_35 : decode b_X14_put_0 35 = .ok (.iload_n 3, 1) := by decide +kernel
theorem d_X14_put_0_36 : decode b_X14_put_0 36 = .ok (.aload_n 0, 1) := by decide +kernel
theorem d_X14_put_0_37 : decode b_X14_put_0 37 = .ok (.getfield 41, 3) := by decide +kernel
theorem d_X14_put_0_40 : decode b_X14_put_0 40 = .ok (.iload_n 3, 1) := by decide +kernel
theorem d_X14_put_0_41 : decode b_X14_put_0 41 = .ok (.iaload, 1) := by decide +kernel
theorem d_X14_put_0_42 : decode b_X14_put_0 42 = .ok (.iastore, 1) := by decide +kernel
theorem d_X14_put_0_43 : decode b_X14_put_0 43 = .ok (.iinc 3 1, 3) := by decide +kernel
theorem d_X14_put_0_46 : decode b_X14_put_0 46 = .ok (.goto (-20), 3) := by decide +kernel
theorem d_X14_put_0_49 : decode b_X14_put_0 49 = .ok (.aload_n 0, 1) := by decide +kernel
theorem d_X14_put_0_50 : decode b_X14_put_0 50 = .ok (.aload_n 2, 1) := by decide +kernel
theorem d_X14_put_0_51 : decode b_X14_put_0 51 = .ok (.putfield 41, 3) := by decide +kernel
theorem d_X14_put_0_54 : decode b_X14_put_0 54 = .ok (.aload_n 0, 1) := by decide +kernel
theorem d_X14_put_0_55 : decode b_X14_put_0 55 = .ok (.getfield 41, 3) := by decide +kernel
theorem d_X14_put_0_58 : decode b_X14_put_0 58 = .ok (.aload_n 0, 1) := by decide +kernel
theorem d_X14_put_0_59 : decode b_X14_put_0 59 = .ok (.getfield 315, 3) := by decide +kernel
theorem d_X14_put_0_62 : decode b_X14_put_0 62 = .ok (.iload_n 1, 1) := by decide +kernel
theorem d_X14_put_0_63 : decode b_X14_put_0 63 = .ok (.iastore, 1) := by decide +kernel
theorem d_X14_put_0_64 : decode b_X14_put_0 64 = .ok (.aload_n 0, 1) := by decide +kernel
theorem d_X14_put_0_65 : decode b_X14_put_0 65 = .ok (.dup, 1) := by decide +kernel
theorem d_X14_put_0_66 : decode b_X14_put_0 66 = .ok (.getfield 315, 3) := by decide +kernel
theorem d_X14_put_0_69 : decode b_X14_put_0 69 = .ok (.iconst 1, 1) := by decide +kernel
theorem d_X14_put_0_70 : decode b_X14_put_0 70 = .ok (.iadd, 1) := by decide +kernel
theorem d_X14_put_0_71 : decode b_X14_put_0 71 = .ok (.putfield 315, 3) := by decide +kernel
theorem d_X14_put_0_74 : decode b_X14_put_0 74 = .ok (.return_, 1) := by decide +kernel
theorem d_X14_put_1_0 : decode b_X14_put_1 0 = .ok (.aload_n 0, 1) := by decide +kernel
theorem d_X14_put_1_1 : decode b_X14_put_1 1 = .ok (.iload_n 1, 1) := by decide +kernel
theorem d_X14_put_1_2 : decode b_X14_put_1 2 = .ok (.invokevirtual 318, 3) := by decide +kernel
theorem d_X14_put_1_5 : decode b_X14_put_1 5 = .ok (.aload_n 0, 1) := by decide +kernel
theorem d_X14_put_1_6 : decode b_X14_put_1 6 = .ok (.iload_n 2, 1) := by decide +kernel
theorem d_X14_put_1_7 : decode b_X14_put_1 7 = .ok (.invokevirtual 318, 3) := by decide +kernel
theorem d_X14_put_1_10 : decode b_X14_put_1 10 = .ok (.return_, 1) := by decide +kernel
theorem d_X14_put_2_0 : decode b_X14_put_2 0 = .ok (.aload_n 0, 1) := by decide +kernel
theorem d_X14_put_2_1 : decode b_X14_put_2 1 = .ok (.iload_n 1, 1) := by decide +kernel
theorem d_X14_put_2_2 : decode b_X14_put_2 2 = .ok (.iload_n 2, 1) := by decide +kernel
theorem d_X14_put_2_3 : decode b_X14_put_2 3 = .ok (.invokevirtual 322, 3) := by decide +kernel
theorem d_X14_put_2_6 : decode b_X14_put_2 6 = .ok (.aload_n 0, 1) := by decide +kernel
theorem d_X14_put_2_7 : decode b_X14_put_2 7 = .ok (.iload_n 3, 1) := by decide +kernel
theorem d_X14_put_2_8 : decode b_X14_put_2 8 = .ok (.invokevirtual 318, 3) := by decide +kernel
theorem d_X14_put_2_11 : decode b_X14_put_2 11 = .ok (.return_, 1) := by decide +kernel
theorem d_X14_rank_0 : decode b_X14_rank 0 = .ok (.iload_n 0, 1) := by decide +kernel
theorem d_X14_rank_1 : decode b_X14_rank 1 = .ok (.bipush 10, 2) := by decide +kernel
theorem d_X14_rank_3 : decode b_X14_rank 3 = .ok (.if_icmp .ne 5, 3) := by decide +kernel
theorem d_X14_rank_6 : decode b_X14_rank 6 = .ok (.iconst 1, 1) := by decide +kernel
theorem d_X14_rank_7 : decode b_X14_rank 7 = .ok (.ireturn, 1) := by decide +kernel
theorem d_X14_rank_8 : decode b_X14_rank 8 = .ok (.iload_n 0, 1) := by decide +kernel
theorem d_X14_rank_9 : decode b_X14_rank 9 = .ok (.bipush 11, 2) := by decide +kernel
theorem d_X14_rank_11 : decode b_X14_rank 11 = .ok (.if_icmp .ne 5, 3) := by decide +kernel
theorem d_X14_rank_14 : decode b_X14_rank 14 = .ok (.iconst 2, 1) := by decide +kernel
theorem d_X14_rank_15 : decode b_X14_rank 15 = .ok (.ireturn, 1) := by decide +kernel
theorem d_X14_rank_16 : decode b_X14_rank 16 = .ok (.iload_n 0, 1) := by decide +kernel
theorem d_X14_rank_17 : decode b_X14_rank 17 = .ok (.bipush 31, 2) := by decide +kernel
theorem d_X14_rank_19 : decode b_X14_rank 19 = .ok (.if_icmp .ne 5, 3) := by decide +kernel
theorem d_X14_rank_22 : decode b_X14_rank 22 = .ok (.iconst 3, 1) := by decide +kernel
theorem d_X14_rank_23 : decode b_X14_rank 23 = .ok (.ireturn, 1) := by decide +kernel
theorem d_X14_rank_24 : decode b_X14_rank 24 = .ok (.iload_n 0, 1) := by decide +kernel
theorem d_X14_rank_25 : decode b_X14_rank 25 = .ok (.bipush 32, 2) := by decide +kernel
theorem d_X14_rank_27 : decode b_X14_rank 27 = .ok (.if_icmp .ne 5, 3) := by decide +kernel
theorem d_X14_rank_30 : decode b_X14_rank 30 = .ok (.iconst 4, 1) := by decide +kernel
theorem d_X14_rank_31 : decode b_X14_rank 31 = .ok (.ireturn, 1) := by decide +kernel
theorem d_X14_rank_32 : decode b_X14_rank 32 = .ok (.iload_n 0, 1) := by decide +kernel
theorem d_X14_rank_33 : decode b_X14_rank 33 = .ok (.bipush 33, 2) := by decide +kernel
theorem d_X14_rank_35 : decode b_X14_rank 35 = .ok (.if_icmp .ne 5, 3) := by decide +kernel
theorem d_X14_rank_38 : decode b_X14_rank 38 = .ok (.iconst 5, 1) := by decide +kernel
theorem d_X14_rank_39 : decode b_X14_rank 39 = .ok (.ireturn, 1) := by decide +kernel
theorem d_X14_rank_40 : decode b_X14_rank 40 = .ok (.iload_n 0, 1) := by decide +kernel
theorem d_X14_rank_41 : decode b_X14_rank 41 = .ok (.bipush 12, 2) := by decide +kernel
theorem d_X14_rank_43 : decode b_X14_rank 43 = .ok (.if_icmp .eq 9, 3) := by decide +kernel
theorem d_X14_rank_46 : decode b_X14_rank 46 = .ok (.iload_n 0, 1) := by decide +kernel
theorem d_X14_rank_47 : decode b_X14_rank 47 = .ok (.bipush 13, 2) := by decide +kernel
theorem d_X14_rank_49 : decode b_X14_rank 49 = .ok (.if_icmp .ne 6, 3) := by decide +kernel
theorem d_X14_rank_52 : decode b_X14_rank 52 = .ok (.bipush 6, 2) := by decide +kernel
theorem d_X14_rank_54 : decode b_X14_rank 54 = .ok (.ireturn, 1) := by decide +kernel
theorem d_X14_rank_55 : decode b_X14_rank 55 = .ok (.iload_n 0, 1) := by decide +kernel
theorem d_X14_rank_56 : decode b_X14_rank 56 = .ok (.bipush 14, 2) := by decide +kernel
theorem d_X14_rank_58 : decode b_X14_rank 58 = .ok (.if_icmp .eq 21, 3) := by decide +kernel
theorem d_X14_rank_61 : decode b_X14_rank 61 = .ok (.iload_n 0, 1) := by decide +kernel
theorem d_X14_rank_62 : decode b_X14_rank 62 = .ok (.bipush 15, 2) := by decide +kernel
theorem d_X14_rank_64 : decode b_X14_rank 64 = .ok (.if_icmp .eq 15, 3) := by decide +kernel
theorem d_X14_rank_67 : decode b_X14_rank 67 = .ok (.iload_n 0, 1) := by decide +kernel
theorem d_X14_rank_68 : decode b_X14_rank 68 = .ok (.bipush 34, 2) := by decide +kernel
theorem d_X14_rank_70 : decode b_X14_rank 70 = .ok (.if_icmp .eq 9, 3) := by decide +kernel
theorem d_X14_rank_73 : decode b_X14_rank 73 = .ok (.iload_n 0, 1) := by decide +kernel
theorem d_X14_rank_74 : decode b_X14_rank 74 = .ok (.bipush 35, 2) := by decide +kernel
theorem d_X14_rank_76 : decode b_X14_rank 76 = .ok (.if_icmp .ne 6, 3) := by decide +kernel
theorem d_X14_rank_79 : decode b_X14_rank 79 = .ok (.bipush 7, 2) := by decide +kernel
theorem d_X14_rank_81 : decode b_X14_rank 81 = .ok (.ireturn, 1) := by decide +kernel
theorem d_X14_rank_82 : decode b_X14_rank 82 = .ok (.iload_n 0, 1) := by decide +kernel
theorem d_X14_rank_83 : decode b_X14_rank 83 = .ok (.bipush 16, 2) := by decide +kernel
theorem d_X14_rank_85 : decode b_X14_rank 85 = .ok (.if_icmp .eq 9, 3) := by decide +kernel
theorem d_X14_rank_88 : decode b_X14_rank 88 = .ok (.iload_n 0, 1) := by decide +kernel
theorem d_X14_rank_89 : decode b_X14_rank 89 = .ok (.bipush 17, 2) := by decide +kernel
theorem d_X14_rank_91 : decode b_X14_rank 91 = .ok (.if_icmp .ne 6, 3) := by decide +kernel
theorem d_X14_rank_94 : decode b_X14_rank 94 = .ok (.bipush 8, 2) := by decide +kernel
theorem d_X14_rank_96 : decode b_X14_rank 96 = .ok (.ireturn, 1) := by decide +kernel
theorem d_X14_rank_97 : decode b_X14_rank 97 = .ok (.iload_n 0, 1) := by decide +kernel
theorem d_X14_rank_98 : decode b_X14_rank 98 = .ok (.bipush 36, 2) := by decide +kernel
theorem d_X14_rank_100 : decode b_X14_rank 100 = .ok (.if_icmp .eq 9, 3) := by decide +kernel
theorem d_X14_rank_103 : decode b_X14_rank 103 = .ok (.iload_n 0, 1) := by decide +kernel
theorem d_X14_rank_104 : decode b_X14_rank 104 = .ok (.bipush 37, 2) := by decide +kernel
theorem d_X14_rank_106 : decode b_X14_rank 106 = .ok (.if_icmp .ne 6, 3) := by decide +kernel
theorem d_X14_rank_109 : decode b_X14_rank 109 = .ok (.bipush 9, 2) := by decide +kernel
theorem d_X14_rank_111 : decode b_X14_rank 111 = .ok (.ireturn, 1) := by decide +kernel
theorem d_X14_rank_112 : decode b_X14_rank 112 = .ok (.iload_n 0, 1) := by decide +kernel
theorem d_X14_rank_113 : decode b_X14_rank 113 = .ok (.bipush 38, 2) := by decide +kernel
theorem d_X14_rank_115 : decode b_X14_rank 115 = .ok (.if_icmp .eq 15, 3) := by decide +kernel
theorem d_X14_rank_118 : decode b_X14_rank 118 = .ok (.iload_n 0, 1) := by decide +kernel
theorem d_X14_rank_119 : decode b_X14_rank 119 = .ok (.bipush 39, 2) := by decide +kernel
theorem d_X14_rank_121 : decode b_X14_rank 121 = .ok (.if_icmp .eq 9, 3) := by decide +kernel
theorem d_X14_rank_124 : decode b_X14_rank 124 = .ok (.iload_n 0, 1) := by decide +kernel
theorem d_X14_rank_125 : decode b_X14_rank 125 = .ok (.bipush 40, 2) := by decide +kernel
theorem d_X14_rank_127 : decode b_X14_rank 127 = .ok (.if_icmp .ne 8, 3) := by decide +kernel
theorem d_X14_rank_130 : decode b_X14_rank 130 = .ok (.bipush 10, 2) := by decide +kernel
theorem d_X14_rank_132 : decode b_X14_rank 132 = .ok (.goto 4, 3) := by decide +kernel
theorem d_X14_rank_135 : decode b_X14_rank 135 = .ok (.iconst 0, 1) := by decide +kernel
theorem d_X14_rank_136 : decode b_X14_rank 136 = .ok (.ireturn, 1) := by decide +kernel
theorem d_X14_read_0_0 : decode b_X14_read_0 0 = .ok (.aload_n 0, 1) := by decide +kernel
theorem d_X14_read_0_1 : decode b_X14_read_0 1 = .ok (.invokevirtual 671, 3) := by decide +kernel
theorem d_X14_read_0_4 : decode b_X14_read_0 4 = .ok (.aload_n 0, 1) := by decide +kernel
theorem d_X14_read_0_5 : decode b_X14_read_0 5 = .ok (.iconst 0, 1) := by decide +kernel
theorem d_X14_read_0_6 : decode b_X14_read_0 6 = .ok (.putfield 288, 3) := by decide +kernel
theorem d_X14_read_0_9 : decode b_X14_read_0 9 = .ok (.aload_n 0, 1) := by decide +kernel
theorem d_X14_read_0_10 : decode b_X14_read_0 10 = .ok (.getfield 13, 3) := by decide +kernel
theorem d_X14_read_0_13 : decode b_X14_read_0 13 = .ok (.aload_n 0, 1) := by decide +kernel
theorem d_X14_read_0_14 : decode b_X14_read_0 14 = .ok (.getfield 288, 3) := by decide +kernel
theorem d_X14_read_0_17 : decode b_X14_read_0 17 = .ok (.iaload, 1) := by decide +kernel
theorem d_X14_read_0_18 : decode b_X14_read_0 18 = .ok (.ifCond .eq 28, 3) := by decide +kernel
theorem d_X14_read_0_21 : decode b_X14_read_0 21 = .ok (.aload_n 0, 1) := by decide +kernel
theorem d_X14_read_0_22 : decode b_X14_read_0 22 = .ok (.getfield 13, 3) := by decide +kernel
theorem d_X14_read_0_25 : decode b_X14_read_0 25 = .ok (.aload_n 0, 1) := by decide +kernel
theorem d_X14_read_0_26 : decode b_X14_read_0 26 = .ok (.getfield 288, 3) := by decide +kernel
theorem d_X14_read_0_29 : decode b_X14_read_0 29 = .ok (.iaload, 1) := by decide +kernel
theorem d_X14_read_0_30 : decode b_X14_read_0 30 = .ok (.iconst 1, 1) := by decide +kernel
theorem d_X14_read_0_31 : decode b_X14_read_0 31 = .ok (.if_icmp .ne 8, 3) := by decide +kernel
theorem d_X14_read_0_34 : decode b_X14_read_0 34 = .ok (.aload_n 0, 1) := by decide +kernel
theorem d_X14_read_0_35 : decode b_X14_read_0 35 = .ok (.invokevirtual 311, 3) := by decide +kernel
theorem d_X14_read_0_38 : decode b_X14_read_0 38 = .ok (.athrow, 1) := by decide +kernel
theorem d_X14_read_0_39 : decode b_X14_read_0 39 = .ok (.aload_n 0, 1) := by decide +kernel
theorem d_X14_read_0_40 : decode b_X14_read_0 40 = .ok (.invokevirtual 674, 3) := by decide +kernel
theorem d_X14_read_0_43 : decode b_X14_read_0 43 = .ok (.goto (-34), 3) := by decide +kernel
theorem d_X14_read_0_46 : decode b_X14_read_0 46 = .ok (.goto 7, 3) := by decide +kernel
theorem d_X14_read_0_49 : decode b_X14_read_0 49 = .ok (.astore_n 1, 1) := by decide +kernel
theorem d_X14_read_0_50 : decode b_X14_read_0 50 = .ok (.bipush (-21), 2) := by decide +kernel
theorem d_X14_read_0_52 : decode b_X14_read_0 52 = .ok (.ireturn, 1) := by decide +kernel
theorem d_X14_read_0_53 : decode b_X14_read_0 53 = .ok (.aload_n 0, 1) := by decide +kernel
theorem d_X14_read_0_54 : decode b_X14_read_0 54 = .ok (.invokevirtual 677, 3) := by decide +kernel
theorem d_X14_read_0_57 : decode b_X14_read_0 57 = .ok (.aload_n 0, 1) := by decide +kernel
theorem d_X14_read_0_58 : decode b_X14_read_0 58 = .ok (.getfield 295, 3) := by decide +kernel
theorem d_X14_read_0_61 : decode b_X14_read_0 61 = .ok (.ifCond .ne 5, 3) := by decide +kernel
theorem d_X14_read_0_64 : decode b_X14_read_0 64 = .ok (.iconst 0, 1) := by decide +kernel
theorem d_X14_read_0_65 : decode b_X14_read_0 65 = .ok (.ireturn, 1) := by decide +kernel
theorem d_X14_read_0_66 : decode b_X14_read_0 66 = .ok (.aload_n 0, 1) := by decide +kernel
theorem d_X14_read_0_67 : decode b_X14_read_0 67 = .ok (.aload_n 0, 1) := by decide +kernel
theorem d_X14_read_0_68 : decode b_X14_read_0 68 = .ok (.getfield 301, 3) := by decide +kernel
theorem d_X14_read_0_71 : decode b_X14_read_0 71 = .ok (.putfield 36, 3) := by decide +kernel
theorem d_X14_read_0_74 : decode b_X14_read_0 74 = .ok (.bipush (-20), 2) := by decide +kernel
theorem d_X14_read_0_76 : decode b_X14_read_0 76 = .ok (.aload_n 0, 1) := by decide +kernel
theorem d_X14_read_0_77 : decode b_X14_read_0 77 = .ok (.getfield 295, 3) := by decide +kernel
theorem d_X14_read_0_80 : decode b_X14_read_0 80 = .ok (.isub, 1) := by decide +kernel
theorem d_X14_read_0_81 : decode b_X14_read_0 81 = .ok (.ireturn, 1) := by decide +kernel
theorem d_X14_read_1_0 : decode b_X14_read_1 0 = .ok (.aload_n 1, 1) := by decide +kernel
theorem d_X14_read_1_1 : decode b_X14_read_1 1 = .ok (.getfield 361, 3) := by decide +kernel
theorem d_X14_read_1_4 : decode b_X14_read_1 4 = .ok (.iconst 1, 1) := by decide +kernel
theorem d_X14_read_1_5 : decode b_X14_read_1 5 = .ok (.if_icmp .ne 12, 3) := by decide +kernel
theorem d_X14_read_1_8 : decode b_X14_read_1 8 = .ok (.aload_n 0, 1) := by decide +kernel
theorem d_X14_read_1_9 : decode b_X14_read_1 9 = .ok (.iconst 3, 1) := by decide +kernel
theorem d_X14_read_1_10 : decode b_X14_read_1 10 = .ok (.aload_n 1, 1) := by decide +kernel
theorem d_X14_read_1_11 : decode b_X14_read_1 11 = .ok (.getfield 364, 3) := by decide +kernel
theorem d_X14_read_1_14 : decode b_X14_read_1 14 = .ok (.invokevirtual 322, 3) := by decide +kernel
theorem d_X14_read_1_17 : decode b_X14_read_1 17 = .ok (.aload_n 1, 1) := by decide +kernel
theorem d_X14_read_1_18 : decode b_X14_read_1 18 = .ok (.getfield 361, 3) := by decide +kernel
theorem d_X14_read_1_21 : decode b_X14_read_1 21 = .ok (.iconst 2, 1) := by decide +kernel
theorem d_X14_read_1_22 : decode b_X14_read_1 22 = .ok (.if_icmp .ne 12, 3) := by decide +kernel
theorem d_X14_read_1_25 : decode b_X14_read_1 25 = .ok (.aload_n 0, 1) := by decide +kernel
theorem d_X14_read_1_26 : decode b_X14_read_1 26 = .ok (.iconst 1, 1) := by decide +kernel
theorem d_X14_read_1_27 : decode b_X14_read_1 27 = .ok (.aload_n 1, 1) := by decide +kernel
theorem d_X14_read_1_28 : decode b_X14_read_1 28 = .ok (.getfield 364, 3) := by decide +kernel
theorem d_X14_read_1_31 : decode b_X14_read_1 31 = .ok (.invokevirtual 322, 3) := by decide +kernel
theorem d_X14_read_1_34 : decode b_X14_read_1 34 = .ok (.aload_n 1, 1) := by decide +kernel
theorem d_X14_read_1_35 : decode b_X14_read_1 35 = .ok (.getfield 361, 3) := by decide +kernel
theorem d_X14_read_1_38 : decode b_X14_read_1 38 = .ok (.iconst 2, 1) := by decide +kernel
theorem d_X14_read_1_39 : decode b_X14_read_1 39 = .ok (.if_icmp .lt 17, 3) := by decide +kernel
theorem d_X14_read_1_42 : decode b_X14_read_1 42 = .ok (.aload_n 0, 1) := by decide +kernel
theorem d_X14_read_1_43 : decode b_X14_read_1 43 = .ok (.iconst 5, 1) := by decide +kernel
theorem d_X14_read_1_44 : decode b_X14_read_1 44 = .ok (.aload_n 0, 1) := by decide +kernel
theorem d_X14_read_1_45 : decode b_X14_read_1 45 = .ok (.getfield 23, 3) := by decide +kernel
theorem d_X14_read_1_48 : decode b_X14_read_1 48 = .ok (.aload_n 1, 1) := by decide +kernel
theorem d_X14_read_1_49 : decode b_X14_read_1 49 = .ok (.getfield 367, 3) := by decide +kernel
theorem d_X14_read_1_52 : decode b_X14_read_1 52 = .ok (.iaload, 1) := by decide +kernel
theorem d_X14_read_1_53 : decode b_X14_read_1 53 = .ok (.invokevirtual 322, 3) := by decide +kernel
theorem d_X14_read_1_56 : decode b_X14_read_1 56 = .ok (.aload_n 1, 1) := by decide +kernel
theorem d_X14_read_1_57 : decode b_X14_read_1 57 = .ok (.iconst 0, 1) := by decide +kernel
theorem d_X14_read_1_58 : decode b_X14_read_1 58 = .ok (.putfield 361, 3) := by decide +kernel
theorem d_X14_read_1_61 : decode b_X14_read_1 61 = .ok (.return_, 1) := by decide +kernel
theorem d_X14_read_2_0 : decode b_X14_read_2 0 = .ok (.aload_n 1, 1) := by decide +kernel
theorem d_X14_read_2_1 : decode b_X14_read_2 1 = .ok (.getfield 352, 3) := by decide +kernel
theorem d_X14_read_2_4 : decode b_X14_read_2 4 = .ok (.iconst (-1), 1) := by decide +kernel
theorem d_X14_read_2_5 : decode b_X14_read_2 5 = .ok (.if_icmp .ne 4, 3) := by decide +kernel
theorem d_X14_read_2_8 : decode b_X14_read_2 8 = .ok (.return_, 1) := by decide +kernel
theorem d_X14_read_2_9 : decode b_X14_read_2 9 = .ok (.aload_n 0, 1) := by decide +kernel
theorem d_X14_read_2_10 : decode b_X14_read_2 10 = .ok (.aload_n 1, 1) := by decide +kernel
theorem d_X14_read_2_11 : decode b_X14_read_2 11 = .ok (.invokevirtual 398, 3) := by decide +kernel
theorem d_X14_read_2_14 : decode b_X14_read_2 14 = .ok (.iload_n 2, 1) := by decide +kernel
theorem d_X14_read_2_15 : decode b_X14_read_2 15 = .ok (.ifCond .ne 9, 3) := by decide +kernel
theorem d_X14_read_2_18 : decode b_X14_read_2 18 = .ok (.aload_n 0, 1) := by decide +kernel
theorem d_X14_read_2_19 : decode b_X14_read_2 19 = .ok (.bipush 10, 2) := by decide +kernel
theorem d_X14_read_2_21 : decode b_X14_read_2 21 = .ok (.invokevirtual 318, 3) := by decide +kernel
theorem d_X14_read_2_24 : decode b_X14_read_2 24 = .ok (.return_, 1) := by decide +kernel
theorem d_X14_remarkEnd_0 : decode b_X14_remarkEnd 0 = .ok (.iload_n 1, 1) := by decide +kernel
theorem d_X14_remarkEnd_1 : decode b_X14_remarkEnd 1 = .ok (.iconst 2, 1) := by decide +kernel
theorem d_X14_remarkEnd_2 : decode b_X14_remarkEnd 2 = .ok (.iadd, 1) := by decide +kernel
theorem d_X14_remarkEnd_3 : decode b_X14_remarkEnd 3 = .ok (.istore_n 3, 1) := by decide +kernel
theorem d_X14_remarkEnd_4 : decode b_X14_remarkEnd 4 = .ok (.iload_n 3, 1) := by decide +kernel
theorem d_X14_remarkEnd_5 : decode b_X14_remarkEnd 5 = .ok (.aload_n 0, 1) := by decide +kernel
theorem d_X14_remarkEnd_6 : decode b_X14_remarkEnd 6 = .ok (.getfield 203, 3) := by decide +kernel
theorem d_X14_remarkEnd_9 : decode b_X14_remarkEnd 9 = .ok (.if_icmp .ge 48, 3) := by decide +kernel
theorem d_X14_remarkEnd_12 : decode b_X14_remarkEnd 12 = .ok (.aload_n 0, 1) := by decide +kernel
theorem d_X14_remarkEnd_13 : decode b_X14_remarkEnd 13 = .ok (.iload_n 3, 1) := by decide +kernel
theorem d_X14_remarkEnd_14 : decode b_X14_remarkEnd 14 = .ok (.invokevirtual 209, 3) := by decide +kernel
theorem d_X14_remarkEnd_17 : decode b_X14_remarkEnd 17 = .ok (.bipush 42, 2) := by decide +kernel
theorem d_X14_remarkEnd_19 : decode b_X14_remarkEnd 19 = .ok (.if_icmp .ne 15, 3) := by decide +kernel
theorem d_X14_remarkEnd_22 : decode b_X14_remarkEnd 22 = .ok (.aload_n 0, 1) := by decide +kernel
theorem d_X14_remarkEnd_23 : decode b_X14_remarkEnd 23 = .ok (.iload_n 3, 1) := by decide +kernel
theorem d_X14_remarkEnd_24 : decode b_X14_remarkEnd 24 = .ok (.iconst 1, 1) := by decide +kernel
theorem d_X14_remarkEnd_25 : decode b_X14_remarkEnd 25 = .ok (.iadd, 1) := by decide +kernel
theorem d_X14_remarkEnd_26 : decode b_X14_remarkEnd 26 = .ok (.invokevirtual 209, 3) := by decide +kernel
theorem d_X14_remarkEnd_29 : decode b_X14_remarkEnd 29 = .ok (.bipush 47, 2) := by decide +kernel
theorem d_X14_remarkEnd_31 : decode b_X14_remarkEnd 31 = .ok (.if_icmp .eq 26, 3) := by decide +kernel
theorem d_X14_remarkEnd_34 : decode b_X14_remarkEnd 34 = .ok (.aload_n 0, 1) := by decide +kernel
theorem d_X14_remarkEnd_35 : decode b_X14_remarkEnd 35 = .ok (.iload_n 3, 1) := by decide +kernel
theorem d_X14_remarkEnd_36 : decode b_X14_remarkEnd 36 = .ok (.invokevirtual 209, 3) := by decide +kernel
theorem d_X14_remarkEnd_39 : decode b_X14_remarkEnd 39 = .ok (.invokestatic 213, 3) := by decide +kernel
theorem d_X14_remarkEnd_42 : decode b_X14_remarkEnd 42 = .ok (.ifCond .ne 9, 3) := by decide +kernel
theorem d_X14_remarkEnd_45 : decode b_X14_remarkEnd 45 = .ok (.aload_n 0, 1) := by decide +kernel
theorem d_X14_remarkEnd_46 : decode b_X14_remarkEnd 46 = .ok (.iload_n 3, 1) := by decide +kernel
theorem d_X14_remarkEnd_47 : decode b_X14_remarkEnd 47 = .ok (.invokevirtual 234, 3) := by decide +kernel
theorem d_X14_remarkEnd_50 : decode b_X14_remarkEnd 50 = .ok (.ireturn, 1) := by decide +kernel
theorem d_X14_remarkEnd_51 : decode b_X14_remarkEnd 51 = .ok (.iinc 3 1, 3) := by decide +kernel
theorem d_X14_remarkEnd_54 : decode b_X14_remarkEnd 54 = .ok (.goto (-50), 3) := by decide +kernel
theorem d_X14_remarkEnd_57 : decode b_X14_remarkEnd 57 = .ok (.iload_n 3, 1) := by decide +kernel
theorem d_X14_remarkEnd_58 : decode b_X14_remarkEnd 58 = .ok (.aload_n 0, 1) := by decide +kernel
theorem d_X14_remarkEnd_59 : decode b_X14_remarkEnd 59 = .ok (.getfield 203, 3) := by decide +kernel
theorem d_X14_remarkEnd_62 : decode b_X14_remarkEnd 62 = .ok (.if_icmp .ge 9, 3) := by decide +kernel
theorem d_X14_remarkEnd_65 : decode b_X14_remarkEnd 65 = .ok (.iload_n 3, 1) := by decide +kernel
theorem d_X14_remarkEnd_66 : decode b_X14_remarkEnd 66 = .ok (.iconst 2, 1) := by decide +kernel
theorem d_X14_remarkEnd_67 : decode b_X14_remarkEnd 67 = .ok (.iadd, 1) := by decide +kernel
theorem d_X14_remarkEnd_68 : decode b_X14_remarkEnd 68 = .ok (.goto 8, 3) := by decide +kernel
theorem d_X14_remarkEnd_71 : decode b_X14_remarkEnd 71 = .ok (.aload_n 0, 1) := by decide +kernel
theorem d_X14_remarkEnd_72 : decode b_X14_remarkEnd 72 = .ok (.iload_n 1, 1) := by decide +kernel
theorem d_X14_remarkEnd_73 : decode b_X14_remarkEnd 73 = .ok (.invokevirtual 234, 3) := by decide +kernel
theorem d_X14_remarkEnd_76 : decode b_X14_remarkEnd 76 = .ok (.ireturn, 1) := by decide +kernel
theorem d_X14_result_0 : decode b_X14_result 0 = .ok (.aload_n 0, 1) := by decide +kernel
theorem d_X14_result_1 : decode b_X14_result 1 = .ok (.getfield 759, 3) := by decide +kernel
theorem d_X14_result_4 : decode b_X14_result 4 = .ok (.ireturn, 1) := by decide +kernel
theorem d_X14_returnStatement_0 : decode b_X14_returnStatement 0 = .ok (.aload_n 0, 1) := by decide +kernel
theorem d_X14_returnStatement_1 : decode b_X14_returnStatement 1 = .ok (.dup, 1) := by decide +kernel
theorem d_X14_returnStatement_2 : decode b_X14_returnStatement 2 = .ok (.getfield 288, 3) := by decide +kernel
theorem d_X14_returnStatement_5 : decode b_X14_returnStatement 5 = .ok (.iconst 1, 1) := by decide +kernel
theorem d_X14_returnStatement_6 : decode b_X14_returnStatement 6 = .ok (.iadd, 1) := by decide +kernel
theorem d_X14_returnStatement_7 : decode b_X14_returnStatement 7 = .ok (.putfield 288, 3) := by decide +kernel
theorem d_X14_returnStatement_10 : decode b_X14_returnStatement 10 = .ok (.aload_n 0, 1) := by decide +kernel
theorem d_X14_returnStatement_11 : decode b_X14_returnStatement 11 = .ok (.bipush 27, 2) := by decide +kernel
theorem d_X14_returnStatement_13 : decode b_X14_returnStatement 13 = .ok (.invokevirtual 308, 3) := by decide +kernel
theorem d_X14_returnStatement_16 : decode b_X14_returnStatement 16 = .ok (.ifCond .eq 21, 3) := by decide +kernel
theorem d_X14_returnStatement_19 : decode b_X14_returnStatement 19 = .ok (.aload_n 0, 1) := by decide +kernel
theorem d_X14_returnStatement_20 : decode b_X14_returnStatement 20 = .ok (.aload_n 0, 1) := by decide +kernel
theorem d_X14_returnStatement_21 : decode b_X14_returnStatement 21 = .ok (.getfield 588, 3) := by decide +kernel
theorem d_X14_returnStatement_24 : decode b_X14_returnStatement 24 = .ok (.iload_n 1, 1) := by decide +kernel
theorem d_X14_returnStatement_25 : decode b_X14_returnStatement 25 = .ok (.invokevirtual 410, 3) := by decide +kernel
theorem d_X14_returnStatement_28 : decode b_X14_returnStatement 28 = .ok (.aload_n 0, 1) := by decide +kernel
theorem d_X14_returnStatement_29 : decode b_X14_returnStatement 29 = .ok (.bipush 20, 2) := by decide +kernel
theorem d_X14_returnStatement_31 : decode b_X14_returnStatement 31 = .ok (.invokevirtual 318, 3) := by decide +kernel
theorem d_X14_returnStatement_34 : decode b_X14_returnStatement 34 = .ok (.goto 48, 3) := by decide +kernel
theorem d_X14_returnStatement_37 : decode b_X14_returnStatement 37 = .ok (.aload_n 0, 1) := by decide +kernel
theorem d_X14_returnStatement_38 : decode b_X14_returnStatement 38 = .ok (.iconst 1, 1) := by decide +kernel
theorem d_X14_returnStatement_39 : decode b_X14_returnStatement 39 = .ok (.invokevirtual 395, 3) := by decide +kernel
theorem d_X14_returnStatement_42 : decode b_X14_returnStatement 42 = .ok (.astore_n 2, 1) := by decide +kernel
theorem d_X14_returnStatement_43 : decode b_X14_returnStatement 43 = .ok (.aload_n 0, 1) := by decide +kernel
theorem d_X14_returnStatement_44 : decode b_X14_returnStatement 44 = .ok (.aload_n 2, 1) := by decide +kernel
theorem d_X14_returnStatement_45 : decode b_X14_returnStatement 45 = .ok (.invokevirtual 398, 3) := by decide +kernel
theorem d_X14_returnStatement_48 : decode b_X14_returnStatement 48 = .ok (.aload_n 0, 1) := by decide +kernel
theorem d_X14_returnStatement_49 : decode b_X14_returnStatement 49 = .ok (.aload_n 0, 1) := by decide +kernel
theorem d_X14_returnStatement_50 : decode b_X14_returnStatement 50 = .ok (.getfield 588, 3) := by decide +kernel
theorem d_X14_returnStatement_53 : decode b_X14_returnStatement 53 = .ok (.ifCond .ne 18, 3) := by decide +kernel
theorem d_X14_returnStatement_56 : decode b_X14_returnStatement 56 = .ok (.aload_n 2, 1) := by decide +kernel
theorem d_X14_returnStatement_57 : decode b_X14_returnStatement 57 = .ok (.aload_n 0, 1) := by decide +kernel
theorem d_X14_returnStatement_58 : decode b_X14_returnStatement 58 = .ok (.getfield 591, 3) := by decide +kernel
theorem d_X14_returnStatement_61 : decode b_X14_returnStatement 61 = .ok (.invokestatic 402, 3) := by decide +kernel
theorem d_X14_returnStatement_64 : decode b_X14_returnStatement 64 = .ok (.ifCond .eq 7, 3) := by decide +kernel
theorem d_X14_returnStatement_67 : decode b_X14_returnStatement 67 = .ok (.iconst 1, 1) := by decide +kernel
theorem d_X14_returnStatement_68 : decode b_X14_returnStatement 68 = .ok (.goto 4, 3) := by decide +kernel
theorem d_X14_returnStatement_71 : decode b_X14_returnStatement 71 = .ok (.iconst 0, 1) := by decide +kernel
theorem d_X14_returnStatement_72 : decode b_X14_returnStatement 72 = .ok (.iload_n 1, 1) := by decide +kernel
theorem d_X14_returnStatement_73 : decode b_X14_returnStatement 73 = .ok (.invokevirtual 410, 3) := by decide +kernel
theorem d_X14_returnStatement_76 : decode b_X14_returnStatement 76 = .ok (.aload_n 0, 1) := by decide +kernel
theorem d_X14_returnStatement_77 : decode b_X14_returnStatement 77 = .ok (.bipush 21, 2) := by decide +kernel
theorem d_X14_returnStatement_79 : decode b_X14_returnStatement 79 = .ok (.invokevirtual 318, 3) := by decide +kernel
theorem d_X14_returnStatement_82 : decode b_X14_returnStatement 82 = .ok (.aload_n 0, 1) := by decide +kernel
theorem d_X14_returnStatement_83 : decode b_X14_returnStatement 83 = .ok (.bipush 27, 2) := by decide +kernel
theorem d_X14_returnStatement_85 : decode b_X14_returnStatement 85 = .ok (.invokevirtual 497, 3) := by decide +kernel
theorem d_X14_returnStatement_88 : decode b_X14_returnStatement 88 = .ok (.return_, 1) := by decide +kernel
theorem d_X14_rowInitial_0 : decode b_X14_rowInitial 0 = .ok (.aload_n 0, 1) := by decide +kernel
theorem d_X14_rowInitial_1 : decode b_X14_rowInitial 1 = .ok (.getfield 13, 3) := by decide +kernel
theorem d_X14_rowInitial_4 : decode b_X14_rowInitial 4 = .ok (.aload_n 0, 1) := by decide +kernel
theorem d_X14_rowInitial_5 : decode b_X14_rowInitial 5 = .ok (.getfield 288, 3) := by decide +kernel
theorem d_X14_rowInitial_8 : decode b_X14_rowInitial 8 = .ok (.iaload, 1) := by decide +kernel
theorem d_X14_rowInitial_9 : decode b_X14_rowInitial 9 = .ok (.iconst 4, 1) := by decide +kernel
theorem d_X14_rowInitial_10 : decode b_X14_rowInitial 10 = .ok (.if_icmp .ne 82, 3) := by decide +kernel
theorem d_X14_rowInitial_13 : decode b_X14_rowInitial 13 = .ok (.aload_n 0, 1) := by decide +kernel
theorem d_X14_rowInitial_14 : decode b_X14_rowInitial 14 = .ok (.getfield 13, 3) := by decide +kernel
theorem d_X14_rowInitial_17 : decode b_X14_rowInitial 17 = .ok (.aload_n 0, 1) := by decide +kernel
theorem d_X14_rowInitial_18 : decode b_X14_rowInitial 18 = .ok (.getfield 288, 3) := by decide +kernel
theorem d_X14_rowInitial_21 : decode b_X14_rowInitial 21 = .ok (.iconst 1, 1) := by decide +kernel
theorem d_X14_rowInitial_22 : decode b_X14_rowInitial 22 = .ok (.iadd, 1) := by decide +kernel
theorem d_X14_rowInitial_23 : decode b_X14_rowInitial 23 = .ok (.iaload, 1) := by decide +kernel
theorem d_X14_rowInitial_24 : decode b_X14_rowInitial 24 = .ok (.bipush 58, 2) := by decide +kernel
theorem d_X14_rowInitial_26 : decode b_X14_rowInitial 26 = .ok (.if_icmp .eq 19, 3) := by decide +kernel
theorem d_X14_rowInitial_29 : decode b_X14_rowInitial 29 = .ok (.aload_n 0, 1) := by decide +kernel
theorem d_X14_rowInitial_30 : decode b_X14_rowInitial 30 = .ok (.getfield 13, 3) := by decide +kernel
theorem d_X14_rowInitial_33 : decode b_X14_rowInitial 33 = .ok (.aload_n 0, 1) := by decide +kernel
theorem d_X14_rowInitial_34 : decode b_X14_rowInitial 34 = .ok (.getfield 288, 3) := by decide +kernel
theorem d_X14_rowInitial_37 : decode b_X14_rowInitial 37 = .ok (.iconst 1, 1) := by decide +kernel
theorem d_X14_rowInitial_38 : decode b_X14_rowInitial 38 = .ok (.iadd, 1) := by decide +kernel
theorem d_X14_rowInitial_39 : decode b_X14_rowInitial 39 = .ok (.iaload, 1) := by decide +kernel
theorem d_X14_rowInitial_40 : decode b_X14_rowInitial 40 = .ok (.bipush 59, 2) := by decide +kernel
theorem d_X14_rowInitial_42 : decode b_X14_rowInitial 42 = .ok (.if_icmp .ne 50, 3) := by decide +kernel
theorem d_X14_rowInitial_45 : decode b_X14_rowInitial 45 = .ok (.aload_n 0, 1) := by decide +kernel
theorem d_X14_rowInitial_46 : decode b_X14_rowInitial 46 = .ok (.getfield 288, 3) := by decide +kernel
theorem d_X14_rowInitial_49 : decode b_X14_rowInitial 49 = .ok (.istore 5, 2) := by decide +kernel
theorem d_X14_rowInitial_51 : decode b_X14_rowInitial 51 = .ok (.aload_n 0, 1) := by decide +kernel
theorem d_X14_rowInitial_52 : decode b_X14_rowInitial 52 = .ok (.dup, 1) := by decide +kernel
theorem d_X14_rowInitial_53 : decode b_X14_rowInitial 53 = .ok (.getfield 288, 3) := by decide +kernel
theorem d_X14_rowInitial_56 : decode b_X14_rowInitial 56 = .ok (.iconst 1, 1) := by decide +kernel
theorem d_X14_rowInitial_57 : decode b_X14_rowInitial 57 = .ok (.iadd, 1) := by decide +kernel
theorem d_X14_rowInitial_58 : decode b_X14_rowInitial 58 = .ok (.putfield 288, 3) := by decide +kernel
theorem d_X14_rowInitial_61 : decode b_X14_rowInitial 61 = .ok (.aload_n 0, 1) := by decide +kernel
theorem d_X14_rowInitial_62 : decode b_X14_rowInitial 62 = .ok (.iload 5, 2) := by decide +kernel
theorem d_X14_rowInitial_64 : decode b_X14_rowInitial 64 = .ok (.iload_n 2, 1) := by decide +kernel
theorem d_X14_rowInitial_65 : decode b_X14_rowInitial 65 = .ok (.iload_n 3, 1) := by decide +kernel
theorem d_X14_rowInitial_66 : decode b_X14_rowInitial 66 = .ok (.iload 4, 2) := by decide +kernel
theorem d_X14_rowInitial_68 : decode b_X14_rowInitial 68 = .ok (.invokevirtual 643, 3) := by decide +kernel
theorem d_X14_rowInitial_71 : decode b_X14_rowInitial 71 = .ok (.iload_n 1, 1) := by decide +kernel
theorem d_X14_rowInitial_72 : decode b_X14_rowInitial 72 = .ok (.ifCond .ne 18, 3) := by decide +kernel
theorem d_X14_rowInitial_75 : decode b_X14_rowInitial 75 = .ok (.aload_n 0, 1) := by decide +kernel
theorem d_X14_rowInitial_76 : decode b_X14_rowInitial 76 = .ok (.getfield 26, 3) := by decide +kernel
theorem d_X14_rowInitial_79 : decode b_X14_rowInitial 79 = .ok (.iload 5, 2) := by decide +kernel
theorem d_X14_rowInitial_81 : decode b_X14_rowInitial 81 = .ok (.iaload, 1) := by decide +kernel
