theorem d_X14_expect_18 : decode b_X14_expect 18 = .ok (.iconst 1, 1) := by decide +kernel
theorem d_X14_expect_19 : decode b_X14_expect 19 = .ok (.iadd, 1) := by decide +kernel
theorem d_X14_expect_20 : decode b_X14_expect 20 = .ok (.putfield 288, 3) := by decide +kernel
theorem d_X14_expect_23 : decode b_X14_expect 23 = .ok (.return_, 1) := by decide +kernel
theorem d_X14_is_0 : decode b_X14_is 0 = .ok (.aload_n 0, 1) := by decide +kernel
theorem d_X14_is_1 : decode b_X14_is 1 = .ok (.getfield 13, 3) := by decide +kernel
theorem d_X14_is_4 : decode b_X14_is 4 = .ok (.aload_n 0, 1) := by decide +kernel
theorem d_X14_is_5 : decode b_X14_is 5 = .ok (.getfield 288, 3) := by decide +kernel
theorem d_X14_is_8 : decode b_X14_is 8 = .ok (.iaload, 1) := by decide +kernel
theorem d_X14_is_9 : decode b_X14_is 9 = .ok (.bipush 32, 2) := by decide +kernel
theorem d_X14_is_11 : decode b_X14_is 11 = .ok (.iload_n 1, 1) := by decide +kernel
theorem d_X14_is_12 : decode b_X14_is 12 = .ok (.iadd, 1) := by decide +kernel
theorem d_X14_is_13 : decode b_X14_is 13 = .ok (.if_icmp .ne 7, 3) := by decide +kernel
theorem d_X14_is_16 : decode b_X14_is 16 = .ok (.iconst 1, 1) := by decide +kernel
theorem d_X14_is_17 : decode b_X14_is 17 = .ok (.goto 4, 3) := by decide +kernel
theorem d_X14_is_20 : decode b_X14_is 20 = .ok (.iconst 0, 1) := by decide +kernel
theorem d_X14_is_21 : decode b_X14_is 21 = .ok (.ireturn, 1) := by decide +kernel
theorem d_X14_accept_0 : decode b_X14_accept 0 = .ok (.aload_n 0, 1) := by decide +kernel
theorem d_X14_accept_1 : decode b_X14_accept 1 = .ok (.iload_n 1, 1) := by decide +kernel
theorem d_X14_accept_2 : decode b_X14_accept 2 = .ok (.invokevirtual 308, 3) := by decide +kernel
theorem d_X14_accept_5 : decode b_X14_accept 5 = .ok (.ifCond .ne 5, 3) := by decide +kernel
theorem d_X14_accept_8 : decode b_X14_accept 8 = .ok (.iconst 0, 1) := by decide +kernel
theorem d_X14_accept_9 : decode b_X14_accept 9 = .ok (.ireturn, 1) := by decide +kernel
theorem d_X14_accept_10 : decode b_X14_accept 10 = .ok (.aload_n 0, 1) := by decide +kernel
theorem d_X14_accept_11 : decode b_X14_accept 11 = .ok (.dup, 1) := by decide +kernel
theorem d_X14_accept_12 : decode b_X14_accept 12 = .ok (.getfield 288, 3) := by decide +kernel
theorem d_X14_accept_15 : decode b_X14_accept 15 = .ok (.iconst 1, 1) := by decide +kernel
theorem d_X14_accept_16 : decode b_X14_accept 16 = .ok (.iadd, 1) := by decide +kernel
theorem d_X14_accept_17 : decode b_X14_accept 17 = .ok (.putfield 288, 3) := by decide +kernel
theorem d_X14_accept_20 : decode b_X14_accept 20 = .ok (.iconst 1, 1) := by decide +kernel
theorem d_X14_accept_21 : decode b_X14_accept 21 = .ok (.ireturn, 1) := by decide +kernel
theorem d_X14_stars_0 : decode b_X14_stars 0 = .ok (.iconst 0, 1) := by decide +kernel
theorem d_X14_stars_1 : decode b_X14_stars 1 = .ok (.istore_n 1, 1) := by decide +kernel
theorem d_X14_stars_2 : decode b_X14_stars 2 = .ok (.aload_n 0, 1) := by decide +kernel
theorem d_X14_stars_3 : decode b_X14_stars 3 = .ok (.bipush 38, 2) := by decide +kernel
theorem d_X14_stars_5 : decode b_X14_stars 5 = .ok (.invokevirtual 308, 3) := by decide +kernel
theorem d_X14_stars_8 : decode b_X14_stars 8 = .ok (.ifCond .eq 29, 3) := by decide +kernel
theorem d_X14_stars_11 : decode b_X14_stars 11 = .ok (.iload_n 1, 1) := by decide +kernel
theorem d_X14_stars_12 : decode b_X14_stars 12 = .ok (.iconst 5, 1) := by decide +kernel
theorem d_X14_stars_13 : decode b_X14_stars 13 = .ok (.if_icmp .ne 8, 3) := by decide +kernel
theorem d_X14_stars_16 : decode b_X14_stars 16 = .ok (.aload_n 0, 1) := by decide +kernel
theorem d_X14_stars_17 : decode b_X14_stars 17 = .ok (.invokevirtual 311, 3) := by decide +kernel
theorem d_X14_stars_20 : decode b_X14_stars 20 = .ok (.athrow, 1) := by decide +kernel
theorem d_X14_stars_21 : decode b_X14_stars 21 = .ok (.iinc 1 1, 3) := by decide +kernel
theorem d_X14_stars_24 : decode b_X14_stars 24 = .ok (.aload_n 0, 1) := by decide +kernel
theorem d_X14_stars_25 : decode b_X14_stars 25 = .ok (.dup, 1) := by decide +kernel
theorem d_X14_stars_26 : decode b_X14_stars 26 = .ok (.getfield 288, 3) := by decide +kernel
theorem d_X14_stars_29 : decode b_X14_stars 29 = .ok (.iconst 1, 1) := by decide +kernel
theorem d_X14_stars_30 : decode b_X14_stars 30 = .ok (.iadd, 1) := by decide +kernel
theorem d_X14_stars_31 : decode b_X14_stars 31 = .ok (.putfield 288, 3) := by decide +kernel
theorem d_X14_stars_34 : decode b_X14_stars 34 = .ok (.goto (-32), 3) := by decide +kernel
theorem d_X14_stars_37 : decode b_X14_stars 37 = .ok (.iload_n 1, 1) := by decide +kernel
theorem d_X14_stars_38 : decode b_X14_stars 38 = .ok (.ireturn, 1) := by decide +kernel
theorem d_X14_entity_0 : decode b_X14_entity 0 = .ok (.aload_n 0, 1) := by decide +kernel
theorem d_X14_entity_1 : decode b_X14_entity 1 = .ok (.getfield 86, 3) := by decide +kernel
theorem d_X14_entity_4 : decode b_X14_entity 4 = .ok (.aload_n 0, 1) := by decide +kernel
theorem d_X14_entity_5 : decode b_X14_entity 5 = .ok (.getfield 327, 3) := by decide +kernel
theorem d_X14_entity_8 : decode b_X14_entity 8 = .ok (.iaload, 1) := by decide +kernel
theorem d_X14_entity_9 : decode b_X14_entity 9 = .ok (.istore_n 2, 1) := by decide +kernel
theorem d_X14_entity_10 : decode b_X14_entity 10 = .ok (.iload_n 2, 1) := by decide +kernel
theorem d_X14_entity_11 : decode b_X14_entity 11 = .ok (.aload_n 0, 1) := by decide +kernel
theorem d_X14_entity_12 : decode b_X14_entity 12 = .ok (.getfield 330, 3) := by decide +kernel
theorem d_X14_entity_15 : decode b_X14_entity 15 = .ok (.if_icmp .ge 20, 3) := by decide +kernel
theorem d_X14_entity_18 : decode b_X14_entity 18 = .ok (.aload_n 0, 1) := by decide +kernel
theorem d_X14_entity_19 : decode b_X14_entity 19 = .ok (.iload_n 2, 1) := by decide +kernel
theorem d_X14_entity_20 : decode b_X14_entity 20 = .ok (.iload_n 1, 1) := by decide +kernel
theorem d_X14_entity_21 : decode b_X14_entity 21 = .ok (.invokevirtual 333, 3) := by decide +kernel
theorem d_X14_entity_24 : decode b_X14_entity 24 = .ok (.ifCond .eq 5, 3) := by decide +kernel
theorem d_X14_entity_27 : decode b_X14_entity 27 = .ok (.iload_n 2, 1) := by decide +kernel
theorem d_X14_entity_28 : decode b_X14_entity 28 = .ok (.ireturn, 1) := by decide +kernel
theorem d_X14_entity_29 : decode b_X14_entity 29 = .ok (.iinc 2 1, 3) := by decide +kernel
theorem d_X14_entity_32 : decode b_X14_entity 32 = .ok (.goto (-22), 3) := by decide +kernel
theorem d_X14_entity_35 : decode b_X14_entity 35 = .ok (.iconst (-1), 1) := by decide +kernel
theorem d_X14_entity_36 : decode b_X14_entity 36 = .ok (.ireturn, 1) := by decide +kernel
theorem d_X14_isNamed_0 : decode b_X14_isNamed 0 = .ok (.aload_n 0, 1) := by decide +kernel
theorem d_X14_isNamed_1 : decode b_X14_isNamed 1 = .ok (.getfield 20, 3) := by decide +kernel
theorem d_X14_isNamed_4 : decode b_X14_isNamed 4 = .ok (.iload_n 2, 1) := by decide +kernel
theorem d_X14_isNamed_5 : decode b_X14_isNamed 5 = .ok (.iaload, 1) := by decide +kernel
theorem d_X14_isNamed_6 : decode b_X14_isNamed 6 = .ok (.aload_n 0, 1) := by decide +kernel
theorem d_X14_isNamed_7 : decode b_X14_isNamed 7 = .ok (.getfield 17, 3) := by decide +kernel
theorem d_X14_isNamed_10 : decode b_X14_isNamed 10 = .ok (.iload_n 2, 1) := by decide +kernel
theorem d_X14_isNamed_11 : decode b_X14_isNamed 11 = .ok (.iaload, 1) := by decide +kernel
theorem d_X14_isNamed_12 : decode b_X14_isNamed 12 = .ok (.isub, 1) := by decide +kernel
theorem d_X14_isNamed_13 : decode b_X14_isNamed 13 = .ok (.istore_n 3, 1) := by decide +kernel
theorem d_X14_isNamed_14 : decode b_X14_isNamed 14 = .ok (.aload_n 0, 1) := by decide +kernel
theorem d_X14_isNamed_15 : decode b_X14_isNamed 15 = .ok (.getfield 76, 3) := by decide +kernel
theorem d_X14_isNamed_18 : decode b_X14_isNamed 18 = .ok (.iload_n 1, 1) := by decide +kernel
theorem d_X14_isNamed_19 : decode b_X14_isNamed 19 = .ok (.iaload, 1) := by decide +kernel
theorem d_X14_isNamed_20 : decode b_X14_isNamed 20 = .ok (.iload_n 3, 1) := by decide +kernel
theorem d_X14_isNamed_21 : decode b_X14_isNamed 21 = .ok (.if_icmp .eq 5, 3) := by decide +kernel
theorem d_X14_isNamed_24 : decode b_X14_isNamed 24 = .ok (.iconst 0, 1) := by decide +kernel
theorem d_X14_isNamed_25 : decode b_X14_isNamed 25 = .ok (.ireturn, 1) := by decide +kernel
theorem d_X14_isNamed_26 : decode b_X14_isNamed 26 = .ok (.iconst 0, 1) := by decide +kernel
theorem d_X14_isNamed_27 : decode b_X14_isNamed 27 = .ok (.istore 4, 2) := by decide +kernel
theorem d_X14_isNamed_29 : decode b_X14_isNamed 29 = .ok (.iload 4, 2) := by decide +kernel
theorem d_X14_isNamed_31 : decode b_X14_isNamed 31 = .ok (.iload_n 3, 1) := by decide +kernel
theorem d_X14_isNamed_32 : decode b_X14_isNamed 32 = .ok (.if_icmp .ge 42, 3) := by decide +kernel
theorem d_X14_isNamed_35 : decode b_X14_isNamed 35 = .ok (.aload_n 0, 1) := by decide +kernel
theorem d_X14_isNamed_36 : decode b_X14_isNamed 36 = .ok (.getfield 80, 3) := by decide +kernel
theorem d_X14_isNamed_39 : decode b_X14_isNamed 39 = .ok (.aload_n 0, 1) := by decide +kernel
theorem d_X14_isNamed_40 : decode b_X14_isNamed 40 = .ok (.getfield 73, 3) := by decide +kernel
theorem d_X14_isNamed_43 : decode b_X14_isNamed 43 = .ok (.iload_n 1, 1) := by decide +kernel
theorem d_X14_isNamed_44 : decode b_X14_isNamed 44 = .ok (.iaload, 1) := by decide +kernel
theorem d_X14_isNamed_45 : decode b_X14_isNamed 45 = .ok (.iload 4, 2) := by decide +kernel
theorem d_X14_isNamed_47 : decode b_X14_isNamed 47 = .ok (.iadd, 1) := by decide +kernel
theorem d_X14_isNamed_48 : decode b_X14_isNamed 48 = .ok (.baload, 1) := by decide +kernel
theorem d_X14_isNamed_49 : decode b_X14_isNamed 49 = .ok (.aload_n 0, 1) := by decide +kernel
theorem d_X14_isNamed_50 : decode b_X14_isNamed 50 = .ok (.getfield 9, 3) := by decide +kernel
theorem d_X14_isNamed_53 : decode b_X14_isNamed 53 = .ok (.aload_n 0, 1) := by decide +kernel
theorem d_X14_isNamed_54 : decode b_X14_isNamed 54 = .ok (.getfield 17, 3) := by decide +kernel
theorem d_X14_isNamed_57 : decode b_X14_isNamed 57 = .ok (.iload_n 2, 1) := by decide +kernel
theorem d_X14_isNamed_58 : decode b_X14_isNamed 58 = .ok (.iaload, 1) := by decide +kernel
theorem d_X14_isNamed_59 : decode b_X14_isNamed 59 = .ok (.iload 4, 2) := by decide +kernel
theorem d_X14_isNamed_61 : decode b_X14_isNamed 61 = .ok (.iadd, 1) := by decide +kernel
theorem d_X14_isNamed_62 : decode b_X14_isNamed 62 = .ok (.baload, 1) := by decide +kernel
theorem d_X14_isNamed_63 : decode b_X14_isNamed 63 = .ok (.if_icmp .eq 5, 3) := by decide +kernel
theorem d_X14_isNamed_66 : decode b_X14_isNamed 66 = .ok (.iconst 0, 1) := by decide +kernel
theorem d_X14_isNamed_67 : decode b_X14_isNamed 67 = .ok (.ireturn, 1) := by decide +kernel
theorem d_X14_isNamed_68 : decode b_X14_isNamed 68 = .ok (.iinc 4 1, 3) := by decide +kernel
theorem d_X14_isNamed_71 : decode b_X14_isNamed 71 = .ok (.goto (-42), 3) := by decide +kernel
theorem d_X14_isNamed_74 : decode b_X14_isNamed 74 = .ok (.iconst 1, 1) := by decide +kernel
theorem d_X14_isNamed_75 : decode b_X14_isNamed 75 = .ok (.ireturn, 1) := by decide +kernel
theorem d_X14_isSameHead_0 : decode b_X14_isSameHead 0 = .ok (.aload_n 0, 1) := by decide +kernel
theorem d_X14_isSameHead_1 : decode b_X14_isSameHead 1 = .ok (.getfield 47, 3) := by decide +kernel
theorem d_X14_isSameHead_4 : decode b_X14_isSameHead 4 = .ok (.iload_n 1, 1) := by decide +kernel
theorem d_X14_isSameHead_5 : decode b_X14_isSameHead 5 = .ok (.iaload, 1) := by decide +kernel
theorem d_X14_isSameHead_6 : decode b_X14_isSameHead 6 = .ok (.iload_n 2, 1) := by decide +kernel
theorem d_X14_isSameHead_7 : decode b_X14_isSameHead 7 = .ok (.if_icmp .ne 16, 3) := by decide +kernel
theorem d_X14_isSameHead_10 : decode b_X14_isSameHead 10 = .ok (.aload_n 0, 1) := by decide +kernel
theorem d_X14_isSameHead_11 : decode b_X14_isSameHead 11 = .ok (.getfield 63, 3) := by decide +kernel
theorem d_X14_isSameHead_14 : decode b_X14_isSameHead 14 = .ok (.iload_n 1, 1) := by decide +kernel
theorem d_X14_isSameHead_15 : decode b_X14_isSameHead 15 = .ok (.iaload, 1) := by decide +kernel
theorem d_X14_isSameHead_16 : decode b_X14_isSameHead 16 = .ok (.aload_n 0, 1) := by decide +kernel
theorem d_X14_isSameHead_17 : decode b_X14_isSameHead 17 = .ok (.getfield 647, 3) := by decide +kernel
theorem d_X14_isSameHead_20 : decode b_X14_isSameHead 20 = .ok (.if_icmp .eq 5, 3) := by decide +kernel
theorem d_X14_isSameHead_23 : decode b_X14_isSameHead 23 = .ok (.iconst 0, 1) := by decide +kernel
theorem d_X14_isSameHead_24 : decode b_X14_isSameHead 24 = .ok (.ireturn, 1) := by decide +kernel
theorem d_X14_isSameHead_25 : decode b_X14_isSameHead 25 = .ok (.iconst 0, 1) := by decide +kernel
theorem d_X14_isSameHead_26 : decode b_X14_isSameHead 26 = .ok (.istore_n 3, 1) := by decide +kernel
theorem d_X14_isSameHead_27 : decode b_X14_isSameHead 27 = .ok (.iload_n 3, 1) := by decide +kernel
theorem d_X14_isSameHead_28 : decode b_X14_isSameHead 28 = .ok (.aload_n 0, 1) := by decide +kernel
theorem d_X14_isSameHead_29 : decode b_X14_isSameHead 29 = .ok (.getfield 647, 3) := by decide +kernel
theorem d_X14_isSameHead_32 : decode b_X14_isSameHead 32 = .ok (.if_icmp .ge 31, 3) := by decide +kernel
theorem d_X14_isSameHead_35 : decode b_X14_isSameHead 35 = .ok (.aload_n 0, 1) := by decide +kernel
theorem d_X14_isSameHead_36 : decode b_X14_isSameHead 36 = .ok (.getfield 67, 3) := by decide +kernel
theorem d_X14_isSameHead_39 : decode b_X14_isSameHead 39 = .ok (.bipush 8, 2) := by decide +kernel
theorem d_X14_isSameHead_41 : decode b_X14_isSameHead 41 = .ok (.iload_n 1, 1) := by decide +kernel
theorem d_X14_isSameHead_42 : decode b_X14_isSameHead 42 = .ok (.imul, 1) := by decide +kernel
theorem d_X14_isSameHead_43 : decode b_X14_isSameHead 43 = .ok (.iload_n 3, 1) := by decide +kernel
theorem d_X14_isSameHead_44 : decode b_X14_isSameHead 44 = .ok (.iadd, 1) := by decide +kernel
theorem d_X14_isSameHead_45 : decode b_X14_isSameHead 45 = .ok (.iaload, 1) := by decide +kernel
theorem d_X14_isSameHead_46 : decode b_X14_isSameHead 46 = .ok (.aload_n 0, 1) := by decide +kernel
theorem d_X14_isSameHead_47 : decode b_X14_isSameHead 47 = .ok (.getfield 132, 3) := by decide +kernel
theorem d_X14_isSameHead_50 : decode b_X14_isSameHead 50 = .ok (.iload_n 3, 1) := by decide +kernel
theorem d_X14_isSameHead_51 : decode b_X14_isSameHead 51 = .ok (.iaload, 1) := by decide +kernel
theorem d_X14_isSameHead_52 : decode b_X14_isSameHead 52 = .ok (.if_icmp .eq 5, 3) := by decide +kernel
theorem d_X14_isSameHead_55 : decode b_X14_isSameHead 55 = .ok (.iconst 0, 1) := by decide +kernel
theorem d_X14_isSameHead_56 : decode b_X14_isSameHead 56 = .ok (.ireturn, 1) := by decide +kernel
theorem d_X14_isSameHead_57 : decode b_X14_isSameHead 57 = .ok (.iinc 3 1, 3) := by decide +kernel
theorem d_X14_isSameHead_60 : decode b_X14_isSameHead 60 = .ok (.goto (-33), 3) := by decide +kernel
theorem d_X14_isSameHead_63 : decode b_X14_isSameHead 63 = .ok (.iconst 1, 1) := by decide +kernel
theorem d_X14_isSameHead_64 : decode b_X14_isSameHead 64 = .ok (.ireturn, 1) := by decide +kernel
theorem d_X14_must_0 : decode b_X14_must 0 = .ok (.iload_n 1, 1) := by decide +kernel
theorem d_X14_must_1 : decode b_X14_must 1 = .ok (.ifCond .ne 9, 3) := by decide +kernel
theorem d_X14_must_4 : decode b_X14_must 4 = .ok (.aload_n 0, 1) := by decide +kernel
theorem d_X14_must_5 : decode b_X14_must 5 = .ok (.iconst 2, 1) := by decide +kernel
theorem d_X14_must_6 : decode b_X14_must 6 = .ok (.iload_n 2, 1) := by decide +kernel
theorem d_X14_must_7 : decode b_X14_must 7 = .ok (.invokevirtual 304, 3) := by decide +kernel
theorem d_X14_must_10 : decode b_X14_must 10 = .ok (.return_, 1) := by decide +kernel
theorem d_X14_tell_0 : decode b_X14_tell 0 = .ok (.aload_n 0, 1) := by decide +kernel
theorem d_X14_tell_1 : decode b_X14_tell 1 = .ok (.getfield 295, 3) := by decide +kernel
theorem d_X14_tell_4 : decode b_X14_tell 4 = .ok (.ifCond .gt 10, 3) := by decide +kernel
theorem d_X14_tell_7 : decode b_X14_tell 7 = .ok (.aload_n 0, 1) := by decide +kernel
theorem d_X14_tell_8 : decode b_X14_tell 8 = .ok (.getfield 298, 3) := by decide +kernel
theorem d_X14_tell_11 : decode b_X14_tell 11 = .ok (.ifCond .le 4, 3) := by decide +kernel
theorem d_X14_tell_14 : decode b_X14_tell 14 = .ok (.return_, 1) := by decide +kernel
theorem d_X14_tell_15 : decode b_X14_tell 15 = .ok (.aload_n 0, 1) := by decide +kernel
theorem d_X14_tell_16 : decode b_X14_tell 16 = .ok (.iload_n 1, 1) := by decide +kernel
theorem d_X14_tell_17 : decode b_X14_tell 17 = .ok (.putfield 295, 3) := by decide +kernel
theorem d_X14_tell_20 : decode b_X14_tell 20 = .ok (.aload_n 0, 1) := by decide +kernel
theorem d_X14_tell_21 : decode b_X14_tell 21 = .ok (.aload_n 0, 1) := by decide +kernel
theorem d_X14_tell_22 : decode b_X14_tell 22 = .ok (.getfield 17, 3) := by decide +kernel
theorem d_X14_tell_25 : decode b_X14_tell 25 = .ok (.iload_n 2, 1) := by decide +kernel
theorem d_X14_tell_26 : decode b_X14_tell 26 = .ok (.iaload, 1) := by decide +kernel
theorem d_X14_tell_27 : decode b_X14_tell 27 = .ok (.putfield 301, 3) := by decide +kernel
theorem d_X14_tell_30 : decode b_X14_tell 30 = .ok (.return_, 1) := by decide +kernel
theorem d_X14_declare_0 : decode b_X14_declare 0 = .ok (.aload_n 0, 1) := by decide +kernel
theorem d_X14_declare_1 : decode b_X14_declare 1 = .ok (.getfield 330, 3) := by decide +kernel
theorem d_X14_declare_4 : decode b_X14_declare 4 = .ok (.aload_n 0, 1) := by decide +kernel
theorem d_X14_declare_5 : decode b_X14_declare 5 = .ok (.getfield 86, 3) := by decide +kernel
theorem d_X14_declare_8 : decode b_X14_declare 8 = .ok (.aload_n 0, 1) := by decide +kernel
theorem d_X14_declare_9 : decode b_X14_declare 9 = .ok (.getfield 327, 3) := by decide +kernel
theorem d_X14_declare_12 : decode b_X14_declare 12 = .ok (.iaload, 1) := by decide +kernel
theorem d_X14_declare_13 : decode b_X14_declare 13 = .ok (.isub, 1) := by decide +kernel
theorem d_X14_declare_14 : decode b_X14_declare 14 = .ok (.bipush 100, 2) := by decide +kernel
theorem d_X14_declare_16 : decode b_X14_declare 16 = .ok (.if_icmp .ne 11, 3) := by decide +kernel
theorem d_X14_declare_19 : decode b_X14_declare 19 = .ok (.aload_n 0, 1) := by decide +kernel
theorem d_X14_declare_20 : decode b_X14_declare 20 = .ok (.iconst 4, 1) := by decide +kernel
theorem d_X14_declare_21 : decode b_X14_declare 21 = .ok (.iload_n 1, 1) := by decide +kernel
theorem d_X14_declare_22 : decode b_X14_declare 22 = .ok (.invokevirtual 304, 3) := by decide +kernel
theorem d_X14_declare_25 : decode b_X14_declare 25 = .ok (.iconst (-1), 1) := by decide +kernel
theorem d_X14_declare_26 : decode b_X14_declare 26 = .ok (.ireturn, 1) := by decide +kernel
theorem d_X14_declare_27 : decode b_X14_declare 27 = .ok (.aload_n 0, 1) := by decide +kernel
theorem d_X14_declare_28 : decode b_X14_declare 28 = .ok (.getfield 330, 3) := by decide +kernel
theorem d_X14_declare_31 : decode b_X14_declare 31 = .ok (.istore_n 3, 1) := by decide +kernel
theorem d_X14_declare_32 : decode b_X14_declare 32 = .ok (.aload_n 0, 1) := by decide +kernel
theorem d_X14_declare_33 : decode b_X14_declare 33 = .ok (.dup, 1) := by decide +kernel
theorem d_X14_declare_34 : decode b_X14_declare 34 = .ok (.getfield 330, 3) := by decide +kernel
theorem d_X14_declare_37 : decode b_X14_declare 37 = .ok (.iconst 1, 1) := by decide +kernel
theorem d_X14_declare_38 : decode b_X14_declare 38 = .ok (.iadd, 1) := by decide +kernel
theorem d_X14_declare_39 : decode b_X14_declare 39 = .ok (.putfield 330, 3) := by decide +kernel
theorem d_X14_declare_42 : decode b_X14_declare 42 = .ok (.aload_n 0, 1) := by decide +kernel
theorem d_X14_declare_43 : decode b_X14_declare 43 = .ok (.getfield 44, 3) := by decide +kernel
theorem d_X14_declare_46 : decode b_X14_declare 46 = .ok (.iload_n 3, 1) := by decide +kernel
theorem d_X14_declare_47 : decode b_X14_declare 47 = .ok (.iload_n 2, 1) := by decide +kernel
theorem d_X14_declare_48 : decode b_X14_declare 48 = .ok (.iastore, 1) := by decide +kernel
theorem d_X14_declare_49 : decode b_X14_declare 49 = .ok (.aload_n 0, 1) := by decide +kernel
theorem d_X14_declare_50 : decode b_X14_declare 50 = .ok (.getfield 57, 3) := by decide +kernel
theorem d_X14_declare_53 : decode b_X14_declare 53 = .ok (.iload_n 3, 1) := by decide +kernel
theorem d_X14_declare_54 : decode b_X14_declare 54 = .ok (.iconst 0, 1) := by decide +kernel
theorem d_X14_declare_55 : decode b_X14_declare 55 = .ok (.bastore, 1) := by decide +kernel
theorem d_X14_declare_56 : decode b_X14_declare 56 = .ok (.aload_n 0, 1) := by decide +kernel
theorem d_X14_declare_57 : decode b_X14_declare 57 = .ok (.getfield 60, 3) := by decide +kernel
theorem d_X14_declare_60 : decode b_X14_declare 60 = .ok (.iload_n 3, 1) := by decide +kernel
theorem d_X14_declare_61 : decode b_X14_declare 61 = .ok (.iconst 0, 1) := by decide +kernel
theorem d_X14_declare_62 : decode b_X14_declare 62 = .ok (.bastore, 1) := by decide +kernel
theorem d_X14_declare_63 : decode b_X14_declare 63 = .ok (.aload_n 0, 1) := by decide +kernel
theorem d_X14_declare_64 : decode b_X14_declare 64 = .ok (.getfield 83, 3) := by decide +kernel
theorem d_X14_declare_67 : decode b_X14_declare 67 = .ok (.iload_n 3, 1) := by decide +kernel
theorem d_X14_declare_68 : decode b_X14_declare 68 = .ok (.aload_n 0, 1) := by decide +kernel
theorem d_X14_declare_69 : decode b_X14_declare 69 = .ok (.getfield 86, 3) := by decide +kernel
theorem d_X14_declare_72 : decode b_X14_declare 72 = .ok (.aload_n 0, 1) := by decide +kernel
theorem d_X14_declare_73 : decode b_X14_declare 73 = .ok (.getfield 327, 3) := by decide +kernel
theorem d_X14_declare_76 : decode b_X14_declare 76 = .ok (.iaload, 1) := by decide +kernel
theorem d_X14_declare_77 : decode b_X14_declare 77 = .ok (.isub, 1) := by decide +kernel
theorem d_X14_declare_78 : decode b_X14_declare 78 = .ok (.iconst (-1), 1) := by decide +kernel
theorem d_X14_declare_79 : decode b_X14_declare 79 = .ok (.iastore, 1) := by decide +kernel
theorem d_X14_declare_80 : decode b_X14_declare 80 = .ok (.aload_n 0, 1) := by decide +kernel
theorem d_X14_declare_81 : decode b_X14_declare 81 = .ok (.getfield 73, 3) := by decide +kernel
theorem d_X14_declare_84 : decode b_X14_declare 84 = .ok (.iload_n 3, 1) := by decide +kernel
theorem d_X14_declare_85 : decode b_X14_declare 85 = .ok (.aload_n 0, 1) := by decide +kernel
theorem d_X14_declare_86 : decode b_X14_declare 86 = .ok (.getfield 337, 3) := by decide +kernel
theorem d_X14_declare_89 : decode b_X14_declare 89 = .ok (.iastore, 1) := by decide +kernel
theorem d_X14_declare_90 : decode b_X14_declare 90 = .ok (.aload_n 0, 1) := by decide +kernel
theorem d_X14_declare_91 : decode b_X14_declare 91 = .ok (.getfield 76, 3) := by decide +kernel
theorem d_X14_declare_94 : decode b_X14_declare 94 = .ok (.iload_n 3, 1) := by decide +kernel
theorem d_X14_declare_95 : decode b_X14_declare 95 = .ok (.aload_n 0, 1) := by decide +kernel
theorem d_X14_declare_96 : decode b_X14_declare 96 = .ok (.getfield 20, 3) := by decide +kernel
theorem d_X14_declare_99 : decode b_X14_declare 99 = .ok (.iload_n 1, 1) := by decide +kernel
theorem d_X14_declare_100 : decode b_X14_declare 100 = .ok (.iaload, 1) := by decide +kernel
theorem d_X14_declare_101 : decode b_X14_declare 101 = .ok (.aload_n 0, 1) := by decide +kernel
theorem d_X14_declare_102 : decode b_X14_declare 102 = .ok (.getfield 17, 3) := by decide +kernel
theorem d_X14_declare_105 : decode b_X14_declare 105 = .ok (.iload_n 1, 1) := by decide +kernel
theorem d_X14_declare_106 : decode b_X14_declare 106 = .ok (.iaload, 1) := by decide +kernel
theorem d_X14_declare_107 : decode b_X14_declare 107 = .ok (.isub, 1) := by decide +kernel
theorem d_X14_declare_108 : decode b_X14_declare 108 = .ok (.iastore, 1) := by decide +kernel
theorem d_X14_declare_109 : decode b_X14_declare 109 = .ok (.aload_n 0, 1) := by decide +kernel
theorem d_X14_declare_110 : decode b_X14_declare 110 = .ok (.getfield 17, 3) := by decide +kernel
theorem d_X14_declare_113 : decode b_X14_declare 113 = .ok (.iload_n 1, 1) := by decide +kernel
theorem d_X14_declare_114 : decode b_X14_declare 114 = .ok (.iaload, 1) := by decide +kernel
theorem d_X14_declare_115 : decode b_X14_declare 115 = .ok (.istore 4, 2) := by decide +kernel
theorem d_X14_declare_117 : decode b_X14_declare 117 = .ok (.iload 4, 2) := by decide +kernel
theorem d_X14_declare_119 : decode b_X14_declare 119 = .ok (.aload_n 0, 1) := by decide +kernel
theorem d_X14_declare_120 : decode b_X14_declare 120 = .ok (.getfield 20, 3) := by decide +kernel
theorem d_X14_declare_123 : decode b_X14_declare 123 = .ok (.iload_n 1, 1) := by decide +kernel
theorem d_X14_declare_124 : decode b_X14_declare 124 = .ok (.iaload, 1) := by decide +kernel
theorem d_X14_declare_125 : decode b_X14_declare 125 = .ok (.if_icmp .ge 35, 3) := by decide +kernel
theorem d_X14_declare_128 : decode b_X14_declare 128 = .ok (.aload_n 0, 1) := by decide +kernel
theorem d_X14_declare_129 : decode b_X14_declare 129 = .ok (.getfield 80, 3) := by decide +kernel
theorem d_X14_declare_132 : decode b_X14_declare 132 = .ok (.aload_n 0, 1) := by decide +kernel
theorem d_X14_declare_133 : decode b_X14_declare 133 = .ok (.getfield 337, 3) := by decide +kernel
theorem d_X14_declare_136 : decode b_X14_declare 136 = .ok (.aload_n 0, 1) := by decide +kernel
theorem d_X14_declare_137 : decode b_X14_declare 137 = .ok (.getfield 9, 3) := by decide +kernel
theorem d_X14_declare_140 : decode b_X14_declare 140 = .ok (.iload 4, 2) := by decide +kernel
theorem d_X14_declare_142 : decode b_X14_declare 142 = .ok (.baload, 1) := by decide +kernel
theorem d_X14_declare_143 : decode b_X14_declare 143 = .ok (.bastore, 1) := by decide +kernel
theorem d_X14_declare_144 : decode b_X14_declare 144 = .ok (.aload_n 0, 1) := by decide +kernel
theorem d_X14_declare_145 : decode b_X14_declare 145 = .ok (.dup, 1) := by decide +kernel
theorem d_X14_declare_146 : decode b_X14_declare 146 = .ok (.getfield 337, 3) := by decide +kernel
theorem d_X14_declare_149 : decode b_X14_declare 149 = .ok (.iconst 1, 1) := by decide +kernel
theorem d_X14_declare_150 : decode b_X14_declare 150 = .ok (.iadd, 1) := by decide +kernel
theorem d_X14_declare_151 : decode b_X14_declare 151 = .ok (.putfield 337, 3) := by decide +kernel
theorem d_X14_declare_154 : decode b_X14_declare 154 = .ok (.iinc 4 1, 3) := by decide +kernel
theorem d_X14_declare_157 : decode b_X14_declare 157 = .ok (.goto (-40), 3) := by decide +kernel
theorem d_X14_declare_160 : decode b_X14_declare 160 = .ok (.iload_n 3, 1) := by decide +kernel
theorem d_X14_declare_161 : decode b_X14_declare 161 = .ok (.ireturn, 1) := by decide +kernel
theorem d_X14_declareLocal_0 : decode b_X14_declareLocal 0 = .ok (.aload_n 0, 1) := by decide +kernel
theorem d_X14_declareLocal_1 : decode b_X14_declareLocal 1 = .ok (.getfield 349, 3) := by decide +kernel
theorem d_X14_declareLocal_4 : decode b_X14_declareLocal 4 = .ok (.bipush 100, 2) := by decide +kernel
theorem d_X14_declareLocal_6 : decode b_X14_declareLocal 6 = .ok (.if_icmp .ne 11, 3) := by decide +kernel
theorem d_X14_declareLocal_9 : decode b_X14_declareLocal 9 = .ok (.aload_n 0, 1) := by decide +kernel
theorem d_X14_declareLocal_10 : decode b_X14_declareLocal 10 = .ok (.iconst 4, 1) := by decide +kernel
theorem d_X14_declareLocal_11 : decode b_X14_declareLocal 11 = .ok (.iload_n 1, 1) := by decide +kernel
theorem d_X14_declareLocal_12 : decode b_X14_declareLocal 12 = .ok (.invokevirtual 304, 3) := by decide +kernel
theorem d_X14_declareLocal_15 : decode b_X14_declareLocal 15 = .ok (.iconst (-1), 1) := by decide +kernel
theorem d_X14_declareLocal_16 : decode b_X14_declareLocal 16 = .ok (.ireturn, 1) := by decide +kernel
theorem d_X14_declareLocal_17 : decode b_X14_declareLocal 17 = .ok (.aload_n 0, 1) := by decide +kernel
theorem d_X14_declareLocal_18 : decode b_X14_declareLocal 18 = .ok (.getfield 114, 3) := by decide +kernel
theorem d_X14_declareLocal_21 : decode b_X14_declareLocal 21 = .ok (.aload_n 0, 1) := by decide +kernel
theorem d_X14_declareLocal_22 : decode b_X14_declareLocal 22 = .ok (.getfield 349, 3) := by decide +kernel
theorem d_X14_declareLocal_25 : decode b_X14_declareLocal 25 = .ok (.iload_n 2, 1) := by decide +kernel
theorem d_X14_declareLocal_26 : decode b_X14_declareLocal 26 = .ok (.iastore, 1) := by decide +kernel
theorem d_X14_declareLocal_27 : decode b_X14_declareLocal 27 = .ok (.aload_n 0, 1) := by decide +kernel
theorem d_X14_declareLocal_28 : decode b_X14_declareLocal 28 = .ok (.getfield 117, 3) := by decide +kernel
theorem d_X14_declareLocal_31 : decode b_X14_declareLocal 31 = .ok (.aload_n 0, 1) := by decide +kernel
theorem d_X14_declareLocal_32 : decode b_X14_declareLocal 32 = .ok (.getfield 349, 3) := by decide +kernel
theorem d_X14_declareLocal_35 : decode b_X14_declareLocal 35 = .ok (.iconst (-1), 1) := by decide +kernel
theorem d_X14_declareLocal_36 : decode b_X14_declareLocal 36 = .ok (.iastore, 1) := by decide +kernel
theorem d_X14_declareLocal_37 : decode b_X14_declareLocal 37 = .ok (.aload_n 0, 1) := by decide +kernel
theorem d_X14_declareLocal_38 : decode b_X14_declareLocal 38 = .ok (.getfield 120, 3) := by decide +kernel
theorem d_X14_declareLocal_41 : decode b_X14_declareLocal 41 = .ok (.aload_n 0, 1) := by decide +kernel
theorem d_X14_declareLocal_42 : decode b_X14_declareLocal 42 = .ok (.getfield 349, 3) := by decide +kernel
theorem d_X14_declareLocal_45 : decode b_X14_declareLocal 45 = .ok (.iconst 0, 1) := by decide +kernel
theorem d_X14_declareLocal_46 : decode b_X14_declareLocal 46 = .ok (.bastore, 1) := by decide +kernel
theorem d_X14_declareLocal_47 : decode b_X14_declareLocal 47 = .ok (.aload_n 0, 1) := by decide +kernel
theorem d_X14_declareLocal_48 : decode b_X14_declareLocal 48 = .ok (.dup, 1) := by decide +kernel
theorem d_X14_declareLocal_49 : decode b_X14_declareLocal 49 = .ok (.getfield 349, 3) := by decide +kernel
theorem d_X14_declareLocal_52 : decode b_X14_declareLocal 52 = .ok (.iconst 1, 1) := by decide +kernel
theorem d_X14_declareLocal_53 : decode b_X14_declareLocal 53 = .ok (.iadd, 1) := by decide +kernel
theorem d_X14_declareLocal_54 : decode b_X14_declareLocal 54 = .ok (.putfield 349, 3) := by decide +kernel
theorem d_X14_declareLocal_57 : decode b_X14_declareLocal 57 = .ok (.aload_n 0, 1) := by decide +kernel
theorem d_X14_declareLocal_58 : decode b_X14_declareLocal 58 = .ok (.getfield 349, 3) := by decide +kernel
theorem d_X14_declareLocal_61 : decode b_X14_declareLocal 61 = .ok (.iconst 1, 1) := by decide +kernel
theorem d_X14_declareLocal_62 : decode b_X14_declareLocal 62 = .ok (.isub, 1) := by decide +kernel
theorem d_X14_declareLocal_63 : decode b_X14_declareLocal 63 = .ok (.ireturn, 1) := by decide +kernel
theorem d_X14_isHeldHere_0 : decode b_X14_isHeldHere 0 = .ok (.aload_n 0, 1) := by decide +kernel
theorem d_X14_isHeldHere_1 : decode b_X14_isHeldHere 1 = .ok (.getfield 340, 3) := by decide +kernel
theorem d_X14_isHeldHere_4 : decode b_X14_isHeldHere 4 = .ok (.iconst 1, 1) := by decide +kernel
theorem d_X14_isHeldHere_5 : decode b_X14_isHeldHere 5 = .ok (.isub, 1) := by decide +kernel
theorem d_X14_isHeldHere_6 : decode b_X14_isHeldHere 6 = .ok (.istore_n 2, 1) := by decide +kernel
theorem d_X14_isHeldHere_7 : decode b_X14_isHeldHere 7 = .ok (.iload_n 2, 1) := by decide +kernel
theorem d_X14_isHeldHere_8 : decode b_X14_isHeldHere 8 = .ok (.ifCond .lt 38, 3) := by decide +kernel
theorem d_X14_isHeldHere_11 : decode b_X14_isHeldHere 11 = .ok (.aload_n 0, 1) := by decide +kernel
theorem d_X14_isHeldHere_12 : decode b_X14_isHeldHere 12 = .ok (.getfield 129, 3) := by decide +kernel
theorem d_X14_isHeldHere_15 : decode b_X14_isHeldHere 15 = .ok (.iload_n 2, 1) := by decide +kernel
theorem d_X14_isHeldHere_16 : decode b_X14_isHeldHere 16 = .ok (.iaload, 1) := by decide +kernel
theorem d_X14_isHeldHere_17 : decode b_X14_isHeldHere 17 = .ok (.aload_n 0, 1) := by decide +kernel
theorem d_X14_isHeldHere_18 : decode b_X14_isHeldHere 18 = .ok (.getfield 346, 3) := by decide +kernel
theorem d_X14_isHeldHere_21 : decode b_X14_isHeldHere 21 = .ok (.if_icmp .ne 25, 3) := by decide +kernel
theorem d_X14_isHeldHere_24 : decode b_X14_isHeldHere 24 = .ok (.aload_n 0, 1) := by decide +kernel
theorem d_X14_isHeldHere_25 : decode b_X14_isHeldHere 25 = .ok (.aload_n 0, 1) := by decide +kernel
theorem d_X14_isHeldHere_26 : decode b_X14_isHeldHere 26 = .ok (.getfield 123, 3) := by decide +kernel
theorem d_X14_isHeldHere_29 : decode b_X14_isHeldHere 29 = .ok (.iload_n 2, 1) := by decide +kernel
theorem d_X14_isHeldHere_30 : decode b_X14_isHeldHere 30 = .ok (.iaload, 1) := by decide +kernel
theorem d_X14_isHeldHere_31 : decode b_X14_isHeldHere 31 = .ok (.iload_n 1, 1) := by decide +kernel
theorem d_X14_isHeldHere_32 : decode b_X14_isHeldHere 32 = .ok (.invokevirtual 343, 3) := by decide +kernel
theorem d_X14_isHeldHere_35 : decode b_X14_isHeldHere 35 = .ok (.ifCond .eq 5, 3) := by decide +kernel
theorem d_X14_isHeldHere_38 : decode b_X14_isHeldHere 38 = .ok (.iconst 1, 1) := by decide +kernel
theorem d_X14_isHeldHere_39 : decode b_X14_isHeldHere 39 = .ok (.ireturn, 1) := by decide +kernel
theorem d_X14_isHeldHere_40 : decode b_X14_isHeldHere 40 = .ok (.iinc 2 (-1), 3) := by decide +kernel
theorem d_X14_isHeldHere_43 : decode b_X14_isHeldHere 43 = .ok (.goto (-36), 3) := by decide +kernel
theorem d_X14_isHeldHere_46 : decode b_X14_isHeldHere 46 = .ok (.iconst 0, 1) := by decide +kernel
theorem d_X14_isHeldHere_47 : decode b_X14_isHeldHere 47 = .ok (.ireturn, 1) := by decide +kernel
theorem d_X14_isSame_0 : decode b_X14_isSame 0 = .ok (.aload_n 0, 1) := by decide +kernel
theorem d_X14_isSame_1 : decode b_X14_isSame 1 = .ok (.getfield 20, 3) := by decide +kernel
theorem d_X14_isSame_4 : decode b_X14_isSame 4 = .ok (.iload_n 1, 1) := by decide +kernel
theorem d_X14_isSame_5 : decode b_X14_isSame 5 = .ok (.iaload, 1) := by decide +kernel
theorem d_X14_isSame_6 : decode b_X14_isSame 6 = .ok (.aload_n 0, 1) := by decide +kernel
theorem d_X14_isSame_7 : decode b_X14_isSame 7 = .ok (.getfield 17, 3) := by decide +kernel
theorem d_X14_isSame_10 : decode b_X14_isSame 10 = .ok (.iload_n 1, 1) := by decide +kernel
theorem d_X14_isSame_11 : decode b_X14_isSame 11 = .ok (.iaload, 1) := by decide +kernel
theorem d_X14_isSame_12 : decode b_X14_isSame 12 = .ok (.isub, 1) := by decide +kernel
theorem d_X14_isSame_13 : decode b_X14_isSame 13 = .ok (.istore_n 3, 1) := by decide +kernel
theorem d_X14_isSame_14 : decode b_X14_isSame 14 = .ok (.aload_n 0, 1) := by decide +kernel
theorem d_X14_isSame_15 : decode b_X14_isSame 15 = .ok (.getfield 20, 3) := by decide +kernel
theorem d_X14_isSame_18 : decode b_X14_isSame 18 = .ok (.iload_n 2, 1) := by decide +kernel
theorem d_X14_isSame_19 : decode b_X14_isSame 19 = .ok (.iaload, 1) := by decide +kernel
theorem d_X14_isSame_20 : decode b_X14_isSame 20 = .ok (.aload_n 0, 1) := by decide +kernel
theorem d_X14_isSame_21 : decode b_X14_isSame 21 = .ok (.getfield 17, 3) := by decide +kernel
theorem d_X14_isSame_24 : decode b_X14_isSame 24 = .ok (.iload_n 2, 1) := by decide +kernel
theorem d_X14_isSame_25 : decode b_X14_isSame 25 = .ok (.iaload, 1) := by decide +kernel
theorem d_X14_isSame_26 : decode b_X14_isSame 26 = .ok (.isub, 1) := by decide +kernel
theorem d_X14_isSame_27 : decode b_X14_isSame 27 = .ok (.iload_n 3, 1) := by decide +kernel
theorem d_X14_isSame_28 : decode b_X14_isSame 28 = .ok (.if_icmp .eq 5, 3) := by decide +kernel
theorem d_X14_isSame_31 : decode b_X14_isSame 31 = .ok (.iconst 0, 1) := by decide +kernel
theorem d_X14_isSame_32 : decode b_X14_isSame 32 = .ok (.ireturn, 1) := by decide +kernel
theorem d_X14_isSame_33 : decode b_X14_isSame 33 = .ok (.iconst 0, 1) := by decide +kernel
theorem d_X14_isSame_34 : decode b_X14_isSame 34 = .ok (.istore 4, 2) := by decide +kernel
theorem d_X14_isSame_36 : decode b_X14_isSame 36 = .ok (.iload 4, 2) := by decide +kernel
theorem d_X14_isSame_38 : decode b_X14_isSame 38 = .ok (.iload_n 3, 1) := by decide +kernel
theorem d_X14_isSame_39 : decode b_X14_isSame 39 = .ok (.if_icmp .ge 42, 3) := by decide +kernel
theorem d_X14_isSame_42 : decode b_X14_isSame 42 = .ok (.aload_n 0, 1) := by decide +kernel
theorem d_X14_isSame_43 : decode b_X14_isSame 43 = .ok (.getfield 9, 3) := by decide +kernel
theorem d_X14_isSame_46 : decode b_X14_isSame 46 = .ok (.aload_n 0, 1) := by decide +kernel
theorem d_X14_isSame_47 : decode b_X14_isSame 47 = .ok (.getfield 17, 3) := by decide +kernel
theorem d_X14_isSame_50 : decode b_X14_isSame 50 = .ok (.iload_n 1, 1) := by decide +kernel
theorem d_X14_isSame_51 : decode b_X14_isSame 51 = .ok (.iaload, 1) := by decide +kernel
theorem d_X14_isSame_52 : decode b_X14_isSame 52 = .ok (.iload 4, 2) := by decide +kernel
theorem d_X14_isSame_54 : decode b_X14_isSame 54 = .ok (.iadd, 1) := by decide +kernel
theorem d_X14_isSame_55 : decode b_X14_isSame 55 = .ok (.baload, 1) := by decide +kernel
theorem d_X14_isSame_56 : decode b_X14_isSame 56 = .ok (.aload_n 0, 1) := by decide +kernel
theorem d_X14_isSame_57 : decode b_X14_isSame 57 = .ok (.getfield 9, 3) := by decide +kernel
theorem d_X14_isSame_60 : decode b_X14_isSame 60 = .ok (.aload_n 0, 1) := by decide +kernel
theorem d_X14_isSame_61 : decode b_X14_isSame 61 = .ok (.getfield 17, 3) := by decide +kernel
theorem d_X14_isSame_64 : decode b_X14_isSame 64 = .ok (.iload_n 2, 1) := by decide +kernel
theorem d_X14_isSame_65 : decode b_X14_isSame 65 = .ok (.iaload, 1) := by decide +kernel
theorem d_X14_isSame_66 : decode b_X14_isSame 66 = .ok (.iload 4, 2) := by decide +kernel
theorem d_X14_isSame_68 : decode b_X14_isSame 68 = .ok (.iadd, 1) := by decide +kernel
theorem d_X14_isSame_69 : decode b_X14_isSame 69 = .ok (.baload, 1) := by decide +kernel
theorem d_X14_isSame_70 : decode b_X14_isSame 70 = .ok (.if_icmp .eq 5, 3) := by decide +kernel
theorem d_X14_isSame_73 : decode b_X14_isSame 73 = .ok (.iconst 0, 1) := by decide +kernel
theorem d_X14_isSame_74 : decode b_X14_isSame 74 = .ok (.ireturn, 1) := by decide +kernel
theorem d_X14_isSame_75 : decode b_X14_isSame 75 = .ok (.iinc 4 1, 3) := by decide +kernel
theorem d_X14_isSame_78 : decode b_X14_isSame 78 = .ok (.goto (-42), 3) := by decide +kernel
theorem d_X14_isSame_81 : decode b_X14_isSame 81 = .ok (.iconst 1, 1) := by decide +kernel
theorem d_X14_isSame_82 : decode b_X14_isSame 82 = .ok (.ireturn, 1) := by decide +kernel
theorem d_X14_hold_0 : decode b_X14_hold 0 = .ok (.aload_n 0, 1) := by decide +kernel
theorem d_X14_hold_1 : decode b_X14_hold 1 = .ok (.getfield 123, 3) := by decide +kernel
theorem d_X14_hold_4 : decode b_X14_hold 4 = .ok (.aload_n 0, 1) := by decide +kernel
theorem d_X14_hold_5 : decode b_X14_hold 5 = .ok (.getfield 340, 3) := by decide +kernel
theorem d_X14_hold_8 : decode b_X14_hold 8 = .ok (.iload_n 1, 1) := by decide +kernel
theorem d_X14_hold_9 : decode b_X14_hold 9 = .ok (.iastore, 1) := by decide +kernel
theorem d_X14_hold_10 : decode b_X14_hold 10 = .ok (.aload_n 0, 1) := by decide +kernel
theorem d_X14_hold_11 : decode b_X14_hold 11 = .ok (.getfield 126, 3) := by decide +kernel
theorem d_X14_hold_14 : decode b_X14_hold 14 = .ok (.aload_n 0, 1) := by decide +kernel
theorem d_X14_hold_15 : decode b_X14_hold 15 = .ok (.getfield 340, 3) := by decide +kernel
theorem d_X14_hold_18 : decode b_X14_hold 18 = .ok (.iload_n 2, 1) := by decide +kernel
theorem d_X14_hold_19 : decode b_X14_hold 19 = .ok (.iastore, 1) := by decide +kernel
theorem d_X14_hold_20 : decode b_X14_hold 20 = .ok (.aload_n 0, 1) := by decide +kernel
theorem d_X14_hold_21 : decode b_X14_hold 21 = .ok (.getfield 129, 3) := by decide +kernel
theorem d_X14_hold_24 : decode b_X14_hold 24 = .ok (.aload_n 0, 1) := by decide +kernel
theorem d_X14_hold_25 : decode b_X14_hold 25 = .ok (.getfield 340, 3) := by decide +kernel
theorem d_X14_hold_28 : decode b_X14_hold 28 = .ok (.aload_n 0, 1) := by decide +kernel
theorem d_X14_hold_29 : decode b_X14_hold 29 = .ok (.getfield 346, 3) := by decide +kernel
theorem d_X14_hold_32 : decode b_X14_hold 32 = .ok (.iastore, 1) := by decide +kernel
theorem d_X14_hold_33 : decode b_X14_hold 33 = .ok (.aload_n 0, 1) := by decide +kernel
theorem d_X14_hold_34 : decode b_X14_hold 34 = .ok (.dup, 1) := by decide +kernel
theorem d_X14_hold_35 : decode b_X14_hold 35 = .ok (.getfield 340, 3) := by decide +kernel
theorem d_X14_hold_38 : decode b_X14_hold 38 = .ok (.iconst 1, 1) := by decide +kernel
theorem d_X14_hold_39 : decode b_X14_hold 39 = .ok (.iadd, 1) := by decide +kernel
theorem d_X14_hold_40 : decode b_X14_hold 40 = .ok (.putfield 340, 3) := by decide +kernel
theorem d_X14_hold_43 : decode b_X14_hold 43 = .ok (.return_, 1) := by decide +kernel
theorem d_X14_bodyOf_0 : decode b_X14_bodyOf 0 = .ok (.aload_n 0, 1) := by decide +kernel
theorem d_X14_bodyOf_1 : decode b_X14_bodyOf 1 = .ok (.iload_n 1, 1) := by decide +kernel
theorem d_X14_bodyOf_2 : decode b_X14_bodyOf 2 = .ok (.iconst (-1), 1) := by decide +kernel
theorem d_X14_bodyOf_3 : decode b_X14_bodyOf 3 = .ok (.if_icmp .ne 7, 3) := by decide +kernel
theorem d_X14_bodyOf_6 : decode b_X14_bodyOf 6 = .ok (.iconst 1, 1) := by decide +kernel
theorem d_X14_bodyOf_7 : decode b_X14_bodyOf 7 = .ok (.goto 4, 3) := by decide +kernel
theorem d_X14_bodyOf_10 : decode b_X14_bodyOf 10 = .ok (.iconst 0, 1) := by decide +kernel
theorem d_X14_bodyOf_11 : decode b_X14_bodyOf 11 = .ok (.putfield 588, 3) := by decide +kernel
theorem d_X14_bodyOf_14 : decode b_X14_bodyOf 14 = .ok (.aload_n 0, 1) := by decide +kernel
theorem d_X14_bodyOf_15 : decode b_X14_bodyOf 15 = .ok (.iload_n 1, 1) := by decide +kernel
theorem d_X14_bodyOf_16 : decode b_X14_bodyOf 16 = .ok (.putfield 591, 3) := by decide +kernel
theorem d_X14_bodyOf_19 : decode b_X14_bodyOf 19 = .ok (.aload_n 0, 1) := by decide +kernel
theorem d_X14_bodyOf_20 : decode b_X14_bodyOf 20 = .ok (.iconst 0, 1) := by decide +kernel
theorem d_X14_bodyOf_21 : decode b_X14_bodyOf 21 = .ok (.putfield 573, 3) := by decide +kernel
theorem d_X14_bodyOf_24 : decode b_X14_bodyOf 24 = .ok (.aload_n 0, 1) := by decide +kernel
theorem d_X14_bodyOf_25 : decode b_X14_bodyOf 25 = .ok (.iconst (-1), 1) := by decide +kernel
theorem d_X14_bodyOf_26 : decode b_X14_bodyOf 26 = .ok (.putfield 558, 3) := by decide +kernel
theorem d_X14_bodyOf_29 : decode b_X14_bodyOf 29 = .ok (.aload_n 0, 1) := by decide +kernel
theorem d_X14_bodyOf_30 : decode b_X14_bodyOf 30 = .ok (.iconst (-1), 1) := by decide +kernel
theorem d_X14_bodyOf_31 : decode b_X14_bodyOf 31 = .ok (.putfield 576, 3) := by decide +kernel
theorem d_X14_bodyOf_34 : decode b_X14_bodyOf 34 = .ok (.aload_n 0, 1) := by decide +kernel
theorem d_X14_bodyOf_35 : decode b_X14_bodyOf 35 = .ok (.getfield 315, 3) := by decide +kernel
theorem d_X14_bodyOf_38 : decode b_X14_bodyOf 38 = .ok (.istore_n 2, 1) := by decide +kernel
theorem d_X14_bodyOf_39 : decode b_X14_bodyOf 39 = .ok (.aload_n 0, 1) := by decide +kernel
theorem d_X14_bodyOf_40 : decode b_X14_bodyOf 40 = .ok (.getfield 656, 3) := by decide +kernel
theorem d_X14_bodyOf_43 : decode b_X14_bodyOf 43 = .ok (.istore_n 3, 1) := by decide +kernel
theorem d_X14_bodyOf_44 : decode b_X14_bodyOf 44 = .ok (.aload_n 0, 1) := by decide +kernel
theorem d_X14_bodyOf_45 : decode b_X14_bodyOf 45 = .ok (.dup, 1) := by decide +kernel
theorem d_X14_bodyOf_46 : decode b_X14_bodyOf 46 = .ok (.getfield 288, 3) := by decide +kernel
theorem d_X14_bodyOf_49 : decode b_X14_bodyOf 49 = .ok (.iconst 1, 1) := by decide +kernel
theorem d_X14_bodyOf_50 : decode b_X14_bodyOf 50 = .ok (.iadd, 1) := by decide +kernel
theorem d_X14_bodyOf_51 : decode b_X14_bodyOf 51 = .ok (.putfield 288, 3) := by decide +kernel
theorem d_X14_bodyOf_54 : decode b_X14_bodyOf 54 = .ok (.aload_n 0, 1) := by decide +kernel
theorem d_X14_bodyOf_55 : decode b_X14_bodyOf 55 = .ok (.bipush 23, 2) := by decide +kernel
theorem d_X14_bodyOf_57 : decode b_X14_bodyOf 57 = .ok (.invokevirtual 308, 3) := by decide +kernel
theorem d_X14_bodyOf_60 : decode b_X14_bodyOf 60 = .ok (.ifCond .ne 11, 3) := by decide +kernel
theorem d_X14_bodyOf_63 : decode b_X14_bodyOf 63 = .ok (.aload_n 0, 1) := by decide +kernel
theorem d_X14_bodyOf_64 : decode b_X14_bodyOf 64 = .ok (.iconst 1, 1) := by decide +kernel
theorem d_X14_bodyOf_65 : decode b_X14_bodyOf 65 = .ok (.invokevirtual 536, 3) := by decide +kernel
theorem d_X14_bodyOf_68 : decode b_X14_bodyOf 68 = .ok (.goto (-14), 3) := by decide +kernel
theorem d_X14_bodyOf_71 : decode b_X14_bodyOf 71 = .ok (.aload_n 0, 1) := by decide +kernel
theorem d_X14_bodyOf_72 : decode b_X14_bodyOf 72 = .ok (.dup, 1) := by decide +kernel
theorem d_X14_bodyOf_73 : decode b_X14_bodyOf 73 = .ok (.getfield 288, 3) := by decide +kernel
theorem d_X14_bodyOf_76 : decode b_X14_bodyOf 76 = .ok (.iconst 1, 1) := by decide +kernel
theorem d_X14_bodyOf_77 : decode b_X14_bodyOf 77 = .ok (.iadd, 1) := by decide +kernel
theorem d_X14_bodyOf_78 : decode b_X14_bodyOf 78 = .ok (.putfield 288, 3) := by decide +kernel
theorem d_X14_bodyOf_81 : decode b_X14_bodyOf 81 = .ok (.aload_n 0, 1) := by decide +kernel
theorem d_X14_bodyOf_82 : decode b_X14_bodyOf 82 = .ok (.getfield 588, 3) := by decide +kernel
theorem d_X14_bodyOf_85 : decode b_X14_bodyOf 85 = .ok (.ifCond .eq 12, 3) := by decide +kernel
theorem d_X14_bodyOf_88 : decode b_X14_bodyOf 88 = .ok (.aload_n 0, 1) := by decide +kernel
theorem d_X14_bodyOf_89 : decode b_X14_bodyOf 89 = .ok (.bipush 20, 2) := by decide +kernel
theorem d_X14_bodyOf_91 : decode b_X14_bodyOf 91 = .ok (.invokevirtual 318, 3) := by decide +kernel
theorem d_X14_bodyOf_94 : decode b_X14_bodyOf 94 = .ok (.goto 15, 3) := by decide +kernel
theorem d_X14_bodyOf_97 : decode b_X14_bodyOf 97 = .ok (.aload_n 0, 1) := by decide +kernel
theorem d_X14_bodyOf_98 : decode b_X14_bodyOf 98 = .ok (.iconst 0, 1) := by decide +kernel
theorem d_X14_bodyOf_99 : decode b_X14_bodyOf 99 = .ok (.iconst 0, 1) := by decide +kernel
theorem d_X14_bodyOf_100 : decode b_X14_bodyOf 100 = .ok (.invokevirtual 322, 3) := by decide +kernel
theorem d_X14_bodyOf_103 : decode b_X14_bodyOf 103 = .ok (.aload_n 0, 1) := by decide +kernel
theorem d_X14_bodyOf_104 : decode b_X14_bodyOf 104 = .ok (.bipush 21, 2) := by decide +kernel
theorem d_X14_bodyOf_106 : decode b_X14_bodyOf 106 = .ok (.invokevirtual 318, 3) := by decide +kernel
theorem d_X14_bodyOf_109 : decode b_X14_bodyOf 109 = .ok (.aload_n 0, 1) := by decide +kernel
theorem d_X14_bodyOf_110 : decode b_X14_bodyOf 110 = .ok (.iconst 0, 1) := by decide +kernel
theorem d_X14_bodyOf_111 : decode b_X14_bodyOf 111 = .ok (.putfield 340, 3) := by decide +kernel
theorem d_X14_bodyOf_114 : decode b_X14_bodyOf 114 = .ok (.iload_n 3, 1) := by decide +kernel
theorem d_X14_bodyOf_115 : decode b_X14_bodyOf 115 = .ok (.sipush 10000, 3) := by decide +kernel
theorem d_X14_bodyOf_118 : decode b_X14_bodyOf 118 = .ok (.if_icmp .ne 4, 3) := by decide +kernel
theorem d_X14_bodyOf_121 : decode b_X14_bodyOf 121 = .ok (.return_, 1) := by decide +kernel
theorem d_X14_bodyOf_122 : decode b_X14_bodyOf 122 = .ok (.aload_n 0, 1) := by decide +kernel
theorem d_X14_bodyOf_123 : decode b_X14_bodyOf 123 = .ok (.getfield 99, 3) := by decide +kernel
theorem d_X14_bodyOf_126 : decode b_X14_bodyOf 126 = .ok (.iload_n 3, 1) := by decide +kernel
theorem d_X14_bodyOf_127 : decode b_X14_bodyOf 127 = .ok (.iload_n 2, 1) := by decide +kernel
theorem d_X14_bodyOf_128 : decode b_X14_bodyOf 128 = .ok (.iastore, 1) := by decide +kernel
theorem d_X14_bodyOf_129 : decode b_X14_bodyOf 129 = .ok (.aload_n 0, 1) := by decide +kernel
theorem d_X14_bodyOf_130 : decode b_X14_bodyOf 130 = .ok (.getfield 102, 3) := by decide +kernel
theorem d_X14_bodyOf_133 : decode b_X14_bodyOf 133 = .ok (.iload_n 3, 1) := by decide +kernel
theorem d_X14_bodyOf_134 : decode b_X14_bodyOf 134 = .ok (.aload_n 0, 1) := by decide +kernel
theorem d_X14_bodyOf_135 : decode b_X14_bodyOf 135 = .ok (.getfield 327, 3) := by decide +kernel
theorem d_X14_bodyOf_138 : decode b_X14_bodyOf 138 = .ok (.iastore, 1) := by decide +kernel
theorem d_X14_bodyOf_139 : decode b_X14_bodyOf 139 = .ok (.aload_n 0, 1) := by decide +kernel
theorem d_X14_bodyOf_140 : decode b_X14_bodyOf 140 = .ok (.getfield 105, 3) := by decide +kernel
theorem d_X14_bodyOf_143 : decode b_X14_bodyOf 143 = .ok (.iload_n 3, 1) := by decide +kernel
theorem d_X14_bodyOf_144 : decode b_X14_bodyOf 144 = .ok (.aload_n 0, 1) := by decide +kernel
theorem d_X14_bodyOf_145 : decode b_X14_bodyOf 145 = .ok (.getfield 349, 3) := by decide +kernel
theorem d_X14_bodyOf_148 : decode b_X14_bodyOf 148 = .ok (.iastore, 1) := by decide +kernel
theorem d_X14_bodyOf_149 : decode b_X14_bodyOf 149 = .ok (.aload_n 0, 1) := by decide +kernel
theorem d_X14_bodyOf_150 : decode b_X14_bodyOf 150 = .ok (.getfield 108, 3) := by decide +kernel
theorem d_X14_bodyOf_153 : decode b_X14_bodyOf 153 = .ok (.iload_n 3, 1) := by decide +kernel
theorem d_X14_bodyOf_154 : decode b_X14_bodyOf 154 = .ok (.aload_n 0, 1) := by decide +kernel
theorem d_X14_bodyOf_155 : decode b_X14_bodyOf 155 = .ok (.getfield 315, 3) := by decide +kernel
theorem d_X14_bodyOf_158 : decode b_X14_bodyOf 158 = .ok (.iastore, 1) := by decide +kernel
theorem d_X14_bodyOf_159 : decode b_X14_bodyOf 159 = .ok (.iconst 0, 1) := by decide +kernel
theorem d_X14_bodyOf_160 : decode b_X14_bodyOf 160 = .ok (.istore 4, 2) := by decide +kernel
theorem d_X14_bodyOf_162 : decode b_X14_bodyOf 162 = .ok (.iconst 0, 1) := by decide +kernel
theorem d_X14_bodyOf_163 : decode b_X14_bodyOf 163 = .ok (.istore 5, 2) := by decide +kernel
theorem d_X14_bodyOf_165 : decode b_X14_bodyOf 165 = .ok (.iload 5, 2) := by decide +kernel
theorem d_X14_bodyOf_167 : decode b_X14_bodyOf 167 = .ok (.aload_n 0, 1) := by decide +kernel
theorem d_X14_bodyOf_168 : decode b_X14_bodyOf 168 = .ok (.getfield 349, 3) := by decide +kernel
theorem d_X14_bodyOf_171 : decode b_X14_bodyOf 171 = .ok (.if_icmp .ge 83, 3) := by decide +kernel
theorem d_X14_bodyOf_174 : decode b_X14_bodyOf 174 = .ok (.aload_n 0, 1) := by decide +kernel
theorem d_X14_bodyOf_175 : decode b_X14_bodyOf 175 = .ok (.getfield 120, 3) := by decide +kernel
theorem d_X14_bodyOf_178 : decode b_X14_bodyOf 178 = .ok (.iload 5, 2) := by decide +kernel
theorem d_X14_bodyOf_180 : decode b_X14_bodyOf 180 = .ok (.baload, 1) := by decide +kernel
theorem d_X14_bodyOf_181 : decode b_X14_bodyOf 181 = .ok (.ifCond .ne 13, 3) := by decide +kernel
theorem d_X14_bodyOf_184 : decode b_X14_bodyOf 184 = .ok (.aload_n 0, 1) := by decide +kernel
theorem d_X14_bodyOf_185 : decode b_X14_bodyOf 185 = .ok (.getfield 117, 3) := by decide +kernel
theorem d_X14_bodyOf_188 : decode b_X14_bodyOf 188 = .ok (.iload 5, 2) := by decide +kernel
theorem d_X14_bodyOf_190 : decode b_X14_bodyOf 190 = .ok (.iaload, 1) := by decide +kernel
theorem d_X14_bodyOf_191 : decode b_X14_bodyOf 191 = .ok (.ifCond .lt 7, 3) := by decide +kernel
theorem d_X14_bodyOf_194 : decode b_X14_bodyOf 194 = .ok (.iconst 1, 1) := by decide +kernel
theorem d_X14_bodyOf_195 : decode b_X14_bodyOf 195 = .ok (.goto 4, 3) := by decide +kernel
theorem d_X14_bodyOf_198 : decode b_X14_bodyOf 198 = .ok (.iconst 0, 1) := by decide +kernel
theorem d_X14_bodyOf_199 : decode b_X14_bodyOf 199 = .ok (.istore 6, 2) := by decide +kernel
theorem d_X14_bodyOf_201 : decode b_X14_bodyOf 201 = .ok (.aload_n 0, 1) := by decide +kernel
theorem d_X14_bodyOf_202 : decode b_X14_bodyOf 202 = .ok (.iload 6, 2) := by decide +kernel
theorem d_X14_bodyOf_204 : decode b_X14_bodyOf 204 = .ok (.ifCond .eq 8, 3) := by decide +kernel
theorem d_X14_bodyOf_207 : decode b_X14_bodyOf 207 = .ok (.iload 4, 2) := by decide +kernel
theorem d_X14_bodyOf_209 : decode b_X14_bodyOf 209 = .ok (.goto 4, 3) := by decide +kernel
theorem d_X14_bodyOf_212 : decode b_X14_bodyOf 212 = .ok (.iconst (-1), 1) := by decide +kernel
theorem d_X14_bodyOf_213 : decode b_X14_bodyOf 213 = .ok (.aload_n 0, 1) := by decide +kernel
theorem d_X14_bodyOf_214 : decode b_X14_bodyOf 214 = .ok (.getfield 117, 3) := by decide +kernel
theorem d_X14_bodyOf_217 : decode b_X14_bodyOf 217 = .ok (.iload 5, 2) := by decide +kernel
theorem d_X14_bodyOf_219 : decode b_X14_bodyOf 219 = .ok (.iaload, 1) := by decide +kernel
theorem d_X14_bodyOf_220 : decode b_X14_bodyOf 220 = .ok (.iconst 0, 1) := by decide +kernel
theorem d_X14_bodyOf_221 : decode b_X14_bodyOf 221 = .ok (.invokestatic 374, 3) := by decide +kernel
theorem d_X14_bodyOf_224 : decode b_X14_bodyOf 224 = .ok (.invokevirtual 322, 3) := by decide +kernel
theorem d_X14_bodyOf_227 : decode b_X14_bodyOf 227 = .ok (.iload 6, 2) := by decide +kernel
theorem d_X14_bodyOf_229 : decode b_X14_bodyOf 229 = .ok (.ifCond .eq 19, 3) := by decide +kernel
theorem d_X14_bodyOf_232 : decode b_X14_bodyOf 232 = .ok (.iload 4, 2) := by decide +kernel
theorem d_X14_bodyOf_234 : decode b_X14_bodyOf 234 = .ok (.aload_n 0, 1) := by decide +kernel
theorem d_X14_bodyOf_235 : decode b_X14_bodyOf 235 = .ok (.getfield 117, 3) := by decide +kernel
theorem d_X14_bodyOf_238 : decode b_X14_bodyOf 238 = .ok (.iload 5, 2) := by decide +kernel
theorem d_X14_bodyOf_240 : decode b_X14_bodyOf 240 = .ok (.iaload, 1) := by decide +kernel
theorem d_X14_bodyOf_241 : decode b_X14_bodyOf 241 = .ok (.iconst 1, 1) := by decide +kernel
theorem d_X14_bodyOf_242 : decode b_X14_bodyOf 242 = .ok (.invokestatic 374, 3) := by decide +kernel
theorem d_X14_bodyOf_245 : decode b_X14_bodyOf 245 = .ok (.iadd, 1) := by decide +kernel
theorem d_X14_bodyOf_246 : decode b_X14_bodyOf 246 = .ok (.istore 4, 2) := by decide +kernel
theorem d_X14_bodyOf_248 : decode b_X14_bodyOf 248 = .ok (.iinc 5 1, 3) := by decide +kernel
theorem d_X14_bodyOf_251 : decode b_X14_bodyOf 251 = .ok (.goto (-86), 3) := by decide +kernel
theorem d_X14_bodyOf_254 : decode b_X14_bodyOf 254 = .ok (.aload_n 0, 1) := by decide +kernel
theorem d_X14_bodyOf_255 : decode b_X14_bodyOf 255 = .ok (.getfield 111, 3) := by decide +kernel
theorem d_X14_bodyOf_258 : decode b_X14_bodyOf 258 = .ok (.iload_n 3, 1) := by decide +kernel
theorem d_X14_bodyOf_259 : decode b_X14_bodyOf 259 = .ok (.iload 4, 2) := by decide +kernel
theorem d_X14_bodyOf_261 : decode b_X14_bodyOf 261 = .ok (.iastore, 1) := by decide +kernel
theorem d_X14_bodyOf_262 : decode b_X14_bodyOf 262 = .ok (.aload_n 0, 1) := by decide +kernel
theorem d_X14_bodyOf_263 : decode b_X14_bodyOf 263 = .ok (.getfield 194, 3) := by decide +kernel
theorem d_X14_bodyOf_266 : decode b_X14_bodyOf 266 = .ok (.iload_n 3, 1) := by decide +kernel
theorem d_X14_bodyOf_267 : decode b_X14_bodyOf 267 = .ok (.aload_n 0, 1) := by decide +kernel
theorem d_X14_bodyOf_268 : decode b_X14_bodyOf 268 = .ok (.getfield 659, 3) := by decide +kernel
theorem d_X14_bodyOf_271 : decode b_X14_bodyOf 271 = .ok (.iastore, 1) := by decide +kernel
theorem d_X14_bodyOf_272 : decode b_X14_bodyOf 272 = .ok (.aload_n 0, 1) := by decide +kernel
theorem d_X14_bodyOf_273 : decode b_X14_bodyOf 273 = .ok (.iload_n 3, 1) := by decide +kernel
theorem d_X14_bodyOf_274 : decode b_X14_bodyOf 274 = .ok (.iconst 1, 1) := by decide +kernel
theorem d_X14_bodyOf_275 : decode b_X14_bodyOf 275 = .ok (.iadd, 1) := by decide +kernel
theorem d_X14_bodyOf_276 : decode b_X14_bodyOf 276 = .ok (.putfield 656, 3) := by decide +kernel
theorem d_X14_bodyOf_279 : decode b_X14_bodyOf 279 = .ok (.return_, 1) := by decide +kernel
theorem d_X14_statement_0 : decode b_X14_statement 0 = .ok (.iload_n 1, 1) := by decide +kernel
theorem d_X14_statement_1 : decode b_X14_statement 1 = .ok (.bipush 25, 2) := by decide +kernel
theorem d_X14_statement_3 : decode b_X14_statement 3 = .ok (.if_icmp .le 8, 3) := by decide +kernel
theorem d_X14_statement_6 : decode b_X14_statement 6 = .ok (.aload_n 0, 1) := by decide +kernel
theorem d_X14_statement_7 : decode b_X14_statement 7 = .ok (.invokevirtual 311, 3) := by decide +kernel
theorem d_X14_statement_10 : decode b_X14_statement 10 = .ok (.athrow, 1) := by decide +kernel
theorem d_X14_statement_11 : decode b_X14_statement 11 = .ok (.aload_n 0, 1) := by decide +kernel
theorem d_X14_statement_12 : decode b_X14_statement 12 = .ok (.getfield 288, 3) := by decide +kernel
theorem d_X14_statement_15 : decode b_X14_statement 15 = .ok (.istore_n 2, 1) := by decide +kernel
theorem d_X14_statement_16 : decode b_X14_statement 16 = .ok (.aload_n 0, 1) := by decide +kernel
theorem d_X14_statement_17 : decode b_X14_statement 17 = .ok (.getfield 13, 3) := by decide +kernel
theorem d_X14_statement_20 : decode b_X14_statement 20 = .ok (.aload_n 0, 1) := by decide +kernel
theorem d_X14_statement_21 : decode b_X14_statement 21 = .ok (.getfield 288, 3) := by decide +kernel
theorem d_X14_statement_24 : decode b_X14_statement 24 = .ok (.iaload, 1) := by decide +kernel
theorem d_X14_statement_25 : decode b_X14_statement 25 = .ok (.tableswitch 369 5 16 #[63, 369, 369, 369, 83, 369, 164, 239, 248, 257, 257, 361], 63) := by decide +kernel
theorem d_X14_statement_88 : decode b_X14_statement 88 = .ok (.aload_n 0, 1) := by decide +kernel
theorem d_X14_statement_89 : decode b_X14_statement 89 = .ok (.dup, 1) := by decide +kernel
theorem d_X14_statement_90 : decode b_X14_statement 90 = .ok (.getfield 288, 3) := by decide +kernel
theorem d_X14_statement_93 : decode b_X14_statement 93 = .ok (.iconst 1, 1) := by decide +kernel
theorem d_X14_statement_94 : decode b_X14_statement 94 = .ok (.iadd, 1) := by decide +kernel
theorem d_X14_statement_95 : decode b_X14_statement 95 = .ok (.putfield 288, 3) := by decide +kernel
theorem d_X14_statement_98 : decode b_X14_statement 98 = .ok (.aload_n 0, 1) := by decide +kernel
theorem d_X14_statement_99 : decode b_X14_statement 99 = .ok (.iconst 0, 1) := by decide +kernel
theorem d_X14_statement_100 : decode b_X14_statement 100 = .ok (.iconst 0, 1) := by decide +kernel
theorem d_X14_statement_101 : decode b_X14_statement 101 = .ok (.iconst 1, 1) := by decide +kernel
theorem d_X14_statement_102 : decode b_X14_statement 102 = .ok (.invokevirtual 542, 3) := by decide +kernel
theorem d_X14_statement_105 : decode b_X14_statement 105 = .ok (.goto 325, 3) := by decide +kernel
theorem d_X14_statement_108 : decode b_X14_statement 108 = .ok (.aload_n 0, 1) := by decide +kernel
theorem d_X14_statement_109 : decode b_X14_statement 109 = .ok (.dup, 1) := by decide +kernel
theorem d_X14_statement_110 : decode b_X14_statement 110 = .ok (.getfield 288, 3) := by decide +kernel
theorem d_X14_statement_113 : decode b_X14_statement 113 = .ok (.iconst 1, 1) := by decide +kernel
theorem d_X14_statement_114 : decode b_X14_statement 114 = .ok (.iadd, 1) := by decide +kernel
theorem d_X14_statement_115 : decode b_X14_statement 115 = .ok (.putfield 288, 3) := by decide +kernel
theorem d_X14_statement_118 : decode b_X14_statement 118 = .ok (.aload_n 0, 1) := by decide +kernel
theorem d_X14_statement_119 : decode b_X14_statement 119 = .ok (.iload_n 2, 1) := by decide +kernel
theorem d_X14_statement_120 : decode b_X14_statement 120 = .ok (.invokevirtual 546, 3) := by decide +kernel
theorem d_X14_statement_123 : decode b_X14_statement 123 = .ok (.aload_n 0, 1) := by decide +kernel
theorem d_X14_statement_124 : decode b_X14_statement 124 = .ok (.bipush 16, 2) := by decide +kernel
theorem d_X14_statement_126 : decode b_X14_statement 126 = .ok (.invokevirtual 425, 3) := by decide +kernel
theorem d_X14_statement_129 : decode b_X14_statement 129 = .ok (.istore_n 3, 1) := by decide +kernel
theorem d_X14_statement_130 : decode b_X14_statement 130 = .ok (.aload_n 0, 1) := by decide +kernel
theorem d_X14_statement_131 : decode b_X14_statement 131 = .ok (.iload_n 1, 1) := by decide +kernel
theorem d_X14_statement_132 : decode b_X14_statement 132 = .ok (.invokevirtual 549, 3) := by decide +kernel
theorem d_X14_statement_135 : decode b_X14_statement 135 = .ok (.aload_n 0, 1) := by decide +kernel
theorem d_X14_statement_136 : decode b_X14_statement 136 = .ok (.bipush 10, 2) := by decide +kernel
theorem d_X14_statement_138 : decode b_X14_statement 138 = .ok (.invokevirtual 552, 3) := by decide +kernel
theorem d_X14_statement_141 : decode b_X14_statement 141 = .ok (.ifCond .ne 11, 3) := by decide +kernel
theorem d_X14_statement_144 : decode b_X14_statement 144 = .ok (.aload_n 0, 1) := by decide +kernel
theorem d_X14_statement_145 : decode b_X14_statement 145 = .ok (.iload_n 3, 1) := by decide +kernel
theorem d_X14_statement_146 : decode b_X14_statement 146 = .ok (.invokevirtual 428, 3) := by decide +kernel
theorem d_X14_statement_149 : decode b_X14_statement 149 = .ok (.goto 281, 3) := by decide +kernel
theorem d_X14_statement_152 : decode b_X14_statement 152 = .ok (.aload_n 0, 1) := by decide +kernel
theorem d_X14_statement_153 : decode b_X14_statement 153 = .ok (.dup, 1) := by decide +kernel
theorem d_X14_statement_154 : decode b_X14_statement 154 = .ok (.getfield 288, 3) := by decide +kernel
theorem d_X14_statement_157 : decode b_X14_statement 157 = .ok (.iconst 1, 1) := by decide +kernel
theorem d_X14_statement_158 : decode b_X14_statement 158 = .ok (.iadd, 1) := by decide +kernel
theorem d_X14_statement_159 : decode b_X14_statement 159 = .ok (.putfield 288, 3) := by decide +kernel
theorem d_X14_statement_162 : decode b_X14_statement 162 = .ok (.aload_n 0, 1) := by decide +kernel
theorem d_X14_statement_163 : decode b_X14_statement 163 = .ok (.bipush 15, 2) := by decide +kernel
theorem d_X14_statement_165 : decode b_X14_statement 165 = .ok (.invokevirtual 425, 3) := by decide +kernel
theorem d_X14_statement_168 : decode b_X14_statement 168 = .ok (.istore 4, 2) := by decide +kernel
theorem d_X14_statement_170 : decode b_X14_statement 170 = .ok (.aload_n 0, 1) := by decide +kernel
theorem d_X14_statement_171 : decode b_X14_statement 171 = .ok (.iload_n 3, 1) := by decide +kernel
theorem d_X14_statement_172 : decode b_X14_statement 172 = .ok (.invokevirtual 428, 3) := by decide +kernel
theorem d_X14_statement_175 : decode b_X14_statement 175 = .ok (.aload_n 0, 1) := by decide +kernel
theorem d_X14_statement_176 : decode b_X14_statement 176 = .ok (.iload_n 1, 1) := by decide +kernel
theorem d_X14_statement_177 : decode b_X14_statement 177 = .ok (.invokevirtual 549, 3) := by decide +kernel
theorem d_X14_statement_180 : decode b_X14_statement 180 = .ok (.aload_n 0, 1) := by decide +kernel
theorem d_X14_statement_181 : decode b_X14_statement 181 = .ok (.iload 4, 2) := by decide +kernel
theorem d_X14_statement_183 : decode b_X14_statement 183 = .ok (.invokevirtual 428, 3) := by decide +kernel
theorem d_X14_statement_186 : decode b_X14_statement 186 = .ok (.goto 244, 3) := by decide +kernel
theorem d_X14_statement_189 : decode b_X14_statement 189 = .ok (.aload_n 0, 1) := by decide +kernel
theorem d_X14_statement_190 : decode b_X14_statement 190 = .ok (.dup, 1) := by decide +kernel
theorem d_X14_statement_191 : decode b_X14_statement 191 = .ok (.getfield 288, 3) := by decide +kernel
theorem d_X14_statement_194 : decode b_X14_statement 194 = .ok (.iconst 1, 1) := by decide +kernel
theorem d_X14_statement_195 : decode b_X14_statement 195 = .ok (.iadd, 1) := by decide +kernel
theorem d_X14_statement_196 : decode b_X14_statement 196 = .ok (.putfield 288, 3) := by decide +kernel
theorem d_X14_statement_199 : decode b_X14_statement 199 = .ok (.aload_n 0, 1) := by decide +kernel
theorem d_X14_statement_200 : decode b_X14_statement 200 = .ok (.getfield 315, 3) := by decide +kernel
theorem d_X14_statement_203 : decode b_X14_statement 203 = .ok (.istore_n 3, 1) := by decide +kernel
theorem d_X14_statement_204 : decode b_X14_statement 204 = .ok (.aload_n 0, 1) := by decide +kernel
theorem d_X14_statement_205 : decode b_X14_statement 205 = .ok (.iload_n 2, 1) := by decide +kernel
theorem d_X14_statement_206 : decode b_X14_statement 206 = .ok (.invokevirtual 546, 3) := by decide +kernel
theorem d_X14_statement_209 : decode b_X14_statement 209 = .ok (.aload_n 0, 1) := by decide +kernel
theorem d_X14_statement_210 : decode b_X14_statement 210 = .ok (.bipush 16, 2) := by decide +kernel
theorem d_X14_statement_212 : decode b_X14_statement 212 = .ok (.invokevirtual 425, 3) := by decide +kernel
theorem d_X14_statement_215 : decode b_X14_statement 215 = .ok (.istore 4, 2) := by decide +kernel
theorem d_X14_statement_217 : decode b_X14_statement 217 = .ok (.aload_n 0, 1) := by decide +kernel
theorem d_X14_statement_218 : decode b_X14_statement 218 = .ok (.iload_n 1, 1) := by decide +kernel
theorem d_X14_statement_219 : decode b_X14_statement 219 = .ok (.iload_n 2, 1) := by decide +kernel
theorem d_X14_statement_220 : decode b_X14_statement 220 = .ok (.iload_n 3, 1) := by decide +kernel
theorem d_X14_statement_221 : decode b_X14_statement 221 = .ok (.invokevirtual 555, 3) := by decide +kernel
theorem d_X14_statement_224 : decode b_X14_statement 224 = .ok (.aload_n 0, 1) := by decide +kernel
theorem d_X14_statement_225 : decode b_X14_statement 225 = .ok (.getfield 558, 3) := by decide +kernel
theorem d_X14_statement_228 : decode b_X14_statement 228 = .ok (.istore 5, 2) := by decide +kernel
theorem d_X14_statement_230 : decode b_X14_statement 230 = .ok (.aload_n 0, 1) := by decide +kernel
theorem d_X14_statement_231 : decode b_X14_statement 231 = .ok (.aload_n 0, 1) := by decide +kernel
theorem d_X14_statement_232 : decode b_X14_statement 232 = .ok (.getfield 561, 3) := by decide +kernel
theorem d_X14_statement_235 : decode b_X14_statement 235 = .ok (.putfield 558, 3) := by decide +kernel
theorem d_X14_statement_238 : decode b_X14_statement 238 = .ok (.aload_n 0, 1) := by decide +kernel
theorem d_X14_statement_239 : decode b_X14_statement 239 = .ok (.bipush 15, 2) := by decide +kernel
theorem d_X14_statement_241 : decode b_X14_statement 241 = .ok (.iload_n 3, 1) := by decide +kernel
theorem d_X14_statement_242 : decode b_X14_statement 242 = .ok (.invokevirtual 322, 3) := by decide +kernel
theorem d_X14_statement_245 : decode b_X14_statement 245 = .ok (.aload_n 0, 1) := by decide +kernel
theorem d_X14_statement_246 : decode b_X14_statement 246 = .ok (.iload 4, 2) := by decide +kernel
theorem d_X14_statement_248 : decode b_X14_statement 248 = .ok (.invokevirtual 428, 3) := by decide +kernel
theorem d_X14_statement_251 : decode b_X14_statement 251 = .ok (.aload_n 0, 1) := by decide +kernel
theorem d_X14_statement_252 : decode b_X14_statement 252 = .ok (.iload 5, 2) := by decide +kernel
theorem d_X14_statement_254 : decode b_X14_statement 254 = .ok (.aload_n 0, 1) := by decide +kernel
theorem d_X14_statement_255 : decode b_X14_statement 255 = .ok (.getfield 315, 3) := by decide +kernel
theorem d_X14_statement_258 : decode b_X14_statement 258 = .ok (.invokevirtual 564, 3) := by decide +kernel
theorem d_X14_statement_261 : decode b_X14_statement 261 = .ok (.goto 169, 3) := by decide +kernel
theorem d_X14_statement_264 : decode b_X14_statement 264 = .ok (.aload_n 0, 1) := by decide +kernel
theorem d_X14_statement_265 : decode b_X14_statement 265 = .ok (.iload_n 1, 1) := by decide +kernel
theorem d_X14_statement_266 : decode b_X14_statement 266 = .ok (.iload_n 2, 1) := by decide +kernel
theorem d_X14_statement_267 : decode b_X14_statement 267 = .ok (.invokevirtual 567, 3) := by decide +kernel
theorem d_X14_statement_270 : decode b_X14_statement 270 = .ok (.goto 160, 3) := by decide +kernel
theorem d_X14_statement_273 : decode b_X14_statement 273 = .ok (.aload_n 0, 1) := by decide +kernel
theorem d_X14_statement_274 : decode b_X14_statement 274 = .ok (.iload_n 1, 1) := by decide +kernel
theorem d_X14_statement_275 : decode b_X14_statement 275 = .ok (.iload_n 2, 1) := by decide +kernel
theorem d_X14_statement_276 : decode b_X14_statement 276 = .ok (.invokevirtual 570, 3) := by decide +kernel
theorem d_X14_statement_279 : decode b_X14_statement 279 = .ok (.goto 151, 3) := by decide +kernel
theorem d_X14_statement_282 : decode b_X14_statement 282 = .ok (.aload_n 0, 1) := by decide +kernel
theorem d_X14_statement_283 : decode b_X14_statement 283 = .ok (.getfield 13, 3) := by decide +kernel
theorem d_X14_statement_286 : decode b_X14_statement 286 = .ok (.aload_n 0, 1) := by decide +kernel
theorem d_X14_statement_287 : decode b_X14_statement 287 = .ok (.getfield 288, 3) := by decide +kernel
theorem d_X14_statement_290 : decode b_X14_statement 290 = .ok (.iaload, 1) := by decide +kernel
theorem d_X14_statement_291 : decode b_X14_statement 291 = .ok (.bipush 14, 2) := by decide +kernel
theorem d_X14_statement_293 : decode b_X14_statement 293 = .ok (.if_icmp .ne 7, 3) := by decide +kernel
theorem d_X14_statement_296 : decode b_X14_statement 296 = .ok (.iconst 1, 1) := by decide +kernel
theorem d_X14_statement_297 : decode b_X14_statement 297 = .ok (.goto 4, 3) := by decide +kernel
theorem d_X14_statement_300 : decode b_X14_statement 300 = .ok (.iconst 0, 1) := by decide +kernel
theorem d_X14_statement_301 : decode b_X14_statement 301 = .ok (.istore_n 3, 1) := by decide +kernel
theorem d_X14_statement_302 : decode b_X14_statement 302 = .ok (.aload_n 0, 1) := by decide +kernel
theorem d_X14_statement_303 : decode b_X14_statement 303 = .ok (.dup, 1) := by decide +kernel
theorem d_X14_statement_304 : decode b_X14_statement 304 = .ok (.getfield 288, 3) := by decide +kernel
theorem d_X14_statement_307 : decode b_X14_statement 307 = .ok (.iconst 1, 1) := by decide +kernel
theorem d_X14_statement_308 : decode b_X14_statement 308 = .ok (.iadd, 1) := by decide +kernel
theorem d_X14_statement_309 : decode b_X14_statement 309 = .ok (.putfield 288, 3) := by decide +kernel
theorem d_X14_statement_312 : decode b_X14_statement 312 = .ok (.aload_n 0, 1) := by decide +kernel
theorem d_X14_statement_313 : decode b_X14_statement 313 = .ok (.bipush 27, 2) := by decide +kernel
theorem d_X14_statement_315 : decode b_X14_statement 315 = .ok (.invokevirtual 497, 3) := by decide +kernel
theorem d_X14_statement_318 : decode b_X14_statement 318 = .ok (.aload_n 0, 1) := by decide +kernel
theorem d_X14_statement_319 : decode b_X14_statement 319 = .ok (.aload_n 0, 1) := by decide +kernel
theorem d_X14_statement_320 : decode b_X14_statement 320 = .ok (.getfield 573, 3) := by decide +kernel
theorem d_X14_statement_323 : decode b_X14_statement 323 = .ok (.ifCond .le 7, 3) := by decide +kernel
theorem d_X14_statement_326 : decode b_X14_statement 326 = .ok (.iconst 1, 1) := by decide +kernel
theorem d_X14_statement_327 : decode b_X14_statement 327 = .ok (.goto 4, 3) := by decide +kernel
theorem d_X14_statement_330 : decode b_X14_statement 330 = .ok (.iconst 0, 1) := by decide +kernel
theorem d_X14_statement_331 : decode b_X14_statement 331 = .ok (.iload_n 2, 1) := by decide +kernel
theorem d_X14_statement_332 : decode b_X14_statement 332 = .ok (.invokevirtual 410, 3) := by decide +kernel
theorem d_X14_statement_335 : decode b_X14_statement 335 = .ok (.aload_n 0, 1) := by decide +kernel
theorem d_X14_statement_336 : decode b_X14_statement 336 = .ok (.bipush 15, 2) := by decide +kernel
theorem d_X14_statement_338 : decode b_X14_statement 338 = .ok (.iload_n 3, 1) := by decide +kernel
theorem d_X14_statement_339 : decode b_X14_statement 339 = .ok (.ifCond .eq 10, 3) := by decide +kernel
theorem d_X14_statement_342 : decode b_X14_statement 342 = .ok (.aload_n 0, 1) := by decide +kernel
theorem d_X14_statement_343 : decode b_X14_statement 343 = .ok (.getfield 558, 3) := by decide +kernel
theorem d_X14_statement_346 : decode b_X14_statement 346 = .ok (.goto 7, 3) := by decide +kernel
theorem d_X14_statement_349 : decode b_X14_statement 349 = .ok (.aload_n 0, 1) := by decide +kernel
theorem d_X14_statement_350 : decode b_X14_statement 350 = .ok (.getfield 576, 3) := by decide +kernel
theorem d_X14_statement_353 : decode b_X14_statement 353 = .ok (.invokevirtual 322, 3) := by decide +kernel
theorem d_X14_statement_356 : decode b_X14_statement 356 = .ok (.iload_n 3, 1) := by decide +kernel
theorem d_X14_statement_357 : decode b_X14_statement 357 = .ok (.ifCond .eq 16, 3) := by decide +kernel
theorem d_X14_statement_360 : decode b_X14_statement 360 = .ok (.aload_n 0, 1) := by decide +kernel
theorem d_X14_statement_361 : decode b_X14_statement 361 = .ok (.aload_n 0, 1) := by decide +kernel
theorem d_X14_statement_362 : decode b_X14_statement 362 = .ok (.getfield 315, 3) := by decide +kernel
theorem d_X14_statement_365 : decode b_X14_statement 365 = .ok (.iconst 1, 1) := by decide +kernel
theorem d_X14_statement_366 : decode b_X14_statement 366 = .ok (.isub, 1) := by decide +kernel
theorem d_X14_statement_367 : decode b_X14_statement 367 = .ok (.putfield 558, 3) := by decide +kernel
theorem d_X14_statement_370 : decode b_X14_statement 370 = .ok (.goto 60, 3) := by decide +kernel
theorem d_X14_statement_373 : decode b_X14_statement 373 = .ok (.aload_n 0, 1) := by decide +kernel
theorem d_X14_statement_374 : decode b_X14_statement 374 = .ok (.aload_n 0, 1) := by decide +kernel
theorem d_X14_statement_375 : decode b_X14_statement 375 = .ok (.getfield 315, 3) := by decide +kernel
theorem d_X14_statement_378 : decode b_X14_statement 378 = .ok (.iconst 1, 1) := by decide +kernel
theorem d_X14_statement_379 : decode b_X14_statement 379 = .ok (.isub, 1) := by decide +kernel
theorem d_X14_statement_380 : decode b_X14_statement 380 = .ok (.putfield 576, 3) := by decide +kernel
theorem d_X14_statement_383 : decode b_X14_statement 383 = .ok (.goto 47, 3) := by decide +kernel
theorem d_X14_statement_386 : decode b_X14_statement 386 = .ok (.aload_n 0, 1) := by decide +kernel
theorem d_X14_statement_387 : decode b_X14_statement 387 = .ok (.iload_n 2, 1) := by decide +kernel
theorem d_X14_statement_388 : decode b_X14_statement 388 = .ok (.invokevirtual 579, 3) := by decide +kernel
theorem d_X14_statement_391 : decode b_X14_statement 391 = .ok (.goto 39, 3) := by decide +kernel
theorem d_X14_statement_394 : decode b_X14_statement 394 = .ok (.aload_n 0, 1) := by decide +kernel
theorem d_X14_statement_395 : decode b_X14_statement 395 = .ok (.bipush 22, 2) := by decide +kernel
theorem d_X14_statement_397 : decode b_X14_statement 397 = .ok (.invokevirtual 308, 3) := by decide +kernel
theorem d_X14_statement_400 : decode b_X14_statement 400 = .ok (.ifCond .eq 11, 3) := by decide +kernel
theorem d_X14_statement_403 : decode b_X14_statement 403 = .ok (.aload_n 0, 1) := by decide +kernel
theorem d_X14_statement_404 : decode b_X14_statement 404 = .ok (.iload_n 1, 1) := by decide +kernel
theorem d_X14_statement_405 : decode b_X14_statement 405 = .ok (.invokevirtual 582, 3) := by decide +kernel
theorem d_X14_statement_408 : decode b_X14_statement 408 = .ok (.goto 22, 3) := by decide +kernel
theorem d_X14_statement_411 : decode b_X14_statement 411 = .ok (.aload_n 0, 1) := by decide +kernel
theorem d_X14_statement_412 : decode b_X14_statement 412 = .ok (.bipush 27, 2) := by decide +kernel
theorem d_X14_statement_414 : decode b_X14_statement 414 = .ok (.invokevirtual 308, 3) := by decide +kernel
theorem d_X14_statement_417 : decode b_X14_statement 417 = .ok (.ifCond .ne 7, 3) := by decide +kernel
theorem d_X14_statement_420 : decode b_X14_statement 420 = .ok (.aload_n 0, 1) := by decide +kernel
theorem d_X14_statement_421 : decode b_X14_statement 421 = .ok (.invokevirtual 585, 3) := by decide +kernel
theorem d_X14_statement_424 : decode b_X14_statement 424 = .ok (.aload_n 0, 1) := by decide +kernel
theorem d_X14_statement_425 : decode b_X14_statement 425 = .ok (.bipush 27, 2) := by decide +kernel
theorem d_X14_statement_427 : decode b_X14_statement 427 = .ok (.invokevirtual 497, 3) := by decide +kernel
theorem d_X14_statement_430 : decode b_X14_statement 430 = .ok (.return_, 1) := by decide +kernel
theorem d_X14_variables_0 : decode b_X14_variables 0 = .ok (.iconst 1, 1) := by decide +kernel
theorem d_X14_variables_1 : decode b_X14_variables 1 = .ok (.istore 4, 2) := by decide +kernel
theorem d_X14_variables_3 : decode b_X14_variables 3 = .ok (.iload 4, 2) := by decide +kernel
theorem d_X14_variables_5 : decode b_X14_variables 5 = .ok (.ifCond .eq 65, 3) := by decide +kernel
theorem d_X14_variables_8 : decode b_X14_variables 8 = .ok (.aload_n 0, 1) := by decide +kernel
theorem d_X14_variables_9 : decode b_X14_variables 9 = .ok (.invokevirtual 494, 3) := by decide +kernel
theorem d_X14_variables_12 : decode b_X14_variables 12 = .ok (.istore 5, 2) := by decide +kernel
theorem d_X14_variables_14 : decode b_X14_variables 14 = .ok (.aload_n 0, 1) := by decide +kernel
theorem d_X14_variables_15 : decode b_X14_variables 15 = .ok (.getfield 13, 3) := by decide +kernel
theorem d_X14_variables_18 : decode b_X14_variables 18 = .ok (.aload_n 0, 1) := by decide +kernel
theorem d_X14_variables_19 : decode b_X14_variables 19 = .ok (.getfield 288, 3) := by decide +kernel
theorem d_X14_variables_22 : decode b_X14_variables 22 = .ok (.iaload, 1) := by decide +kernel
theorem d_X14_variables_23 : decode b_X14_variables 23 = .ok (.iconst 2, 1) := by decide +kernel
theorem d_X14_variables_24 : decode b_X14_variables 24 = .ok (.if_icmp .eq 8, 3) := by decide +kernel
theorem d_X14_variables_27 : decode b_X14_variables 27 = .ok (.aload_n 0, 1) := by decide +kernel
theorem d_X14_variables_28 : decode b_X14_variables 28 = .ok (.invokevirtual 311, 3) := by decide +kernel
theorem d_X14_variables_31 : decode b_X14_variables 31 = .ok (.athrow, 1) := by decide +kernel
theorem d_X14_variables_32 : decode b_X14_variables 32 = .ok (.aload_n 0, 1) := by decide +kernel
theorem d_X14_variables_33 : decode b_X14_variables 33 = .ok (.getfield 288, 3) := by decide +kernel
theorem d_X14_variables_36 : decode b_X14_variables 36 = .ok (.istore 6, 2) := by decide +kernel
theorem d_X14_variables_38 : decode b_X14_variables 38 = .ok (.aload_n 0, 1) := by decide +kernel
theorem d_X14_variables_39 : decode b_X14_variables 39 = .ok (.dup, 1) := by decide +kernel
theorem d_X14_variables_40 : decode b_X14_variables 40 = .ok (.getfield 288, 3) := by decide +kernel
theorem d_X14_variables_43 : decode b_X14_variables 43 = .ok (.iconst 1, 1) := by decide +kernel
theorem d_X14_variables_44 : decode b_X14_variables 44 = .ok (.iadd, 1) := by decide +kernel
theorem d_X14_variables_45 : decode b_X14_variables 45 = .ok (.putfield 288, 3) := by decide +kernel
theorem d_X14_variables_48 : decode b_X14_variables 48 = .ok (.aload_n 0, 1) := by decide +kernel
theorem d_X14_variables_49 : decode b_X14_variables 49 = .ok (.iload 6, 2) := by decide +kernel
theorem d_X14_variables_51 : decode b_X14_variables 51 = .ok (.iload 5, 2) := by decide +kernel
theorem d_X14_variables_53 : decode b_X14_variables 53 = .ok (.iload_n 1, 1) := by decide +kernel
theorem d_X14_variables_54 : decode b_X14_variables 54 = .ok (.iload_n 2, 1) := by decide +kernel
theorem d_X14_variables_55 : decode b_X14_variables 55 = .ok (.iload_n 3, 1) := by decide +kernel
theorem d_X14_variables_56 : decode b_X14_variables 56 = .ok (.invokevirtual 594, 3) := by decide +kernel
theorem d_X14_variables_59 : decode b_X14_variables 59 = .ok (.aload_n 0, 1) := by decide +kernel
theorem d_X14_variables_60 : decode b_X14_variables 60 = .ok (.bipush 26, 2) := by decide +kernel
theorem d_X14_variables_62 : decode b_X14_variables 62 = .ok (.invokevirtual 530, 3) := by decide +kernel
theorem d_X14_variables_65 : decode b_X14_variables 65 = .ok (.istore 4, 2) := by decide +kernel
theorem d_X14_variables_67 : decode b_X14_variables 67 = .ok (.goto (-64), 3) := by decide +kernel
theorem d_X14_variables_70 : decode b_X14_variables 70 = .ok (.aload_n 0, 1) := by decide +kernel
theorem d_X14_variables_71 : decode b_X14_variables 71 = .ok (.bipush 27, 2) := by decide +kernel
theorem d_X14_variables_73 : decode b_X14_variables 73 = .ok (.invokevirtual 497, 3) := by decide +kernel
theorem d_X14_variables_76 : decode b_X14_variables 76 = .ok (.return_, 1) := by decide +kernel
theorem d_X14_variable_0 : decode b_X14_variable 0 = .ok (.iconst (-1), 1) := by decide +kernel
theorem d_X14_variable_1 : decode b_X14_variable 1 = .ok (.istore 6, 2) := by decide +kernel
theorem d_X14_variable_3 : decode b_X14_variable 3 = .ok (.iconst (-1), 1) := by decide +kernel
theorem d_X14_variable_4 : decode b_X14_variable 4 = .ok (.istore 7, 2) := by decide +kernel
theorem d_X14_variable_6 : decode b_X14_variable 6 = .ok (.iconst 1, 1) := by decide +kernel
theorem d_X14_variable_7 : decode b_X14_variable 7 = .ok (.istore 8, 2) := by decide +kernel
theorem d_X14_variable_9 : decode b_X14_variable 9 = .ok (.aload_n 0, 1) := by decide +kernel
theorem d_X14_variable_10 : decode b_X14_variable 10 = .ok (.bipush 24, 2) := by decide +kernel
theorem d_X14_variable_12 : decode b_X14_variable 12 = .ok (.invokevirtual 308, 3) := by decide +kernel
theorem d_X14_variable_15 : decode b_X14_variable 15 = .ok (.ifCond .eq 80, 3) := by decide +kernel
theorem d_X14_variable_18 : decode b_X14_variable 18 = .ok (.aload_n 0, 1) := by decide +kernel
theorem d_X14_variable_19 : decode b_X14_variable 19 = .ok (.getfield 288, 3) := by decide +kernel
theorem d_X14_variable_22 : decode b_X14_variable 22 = .ok (.istore 6, 2) := by decide +kernel
theorem d_X14_variable_24 : decode b_X14_variable 24 = .ok (.aload_n 0, 1) := by decide +kernel
theorem d_X14_variable_25 : decode b_X14_variable 25 = .ok (.dup, 1) := by decide +kernel
theorem d_X14_variable_26 : decode b_X14_variable 26 = .ok (.getfield 288, 3) := by decide +kernel
theorem d_X14_variable_29 : decode b_X14_variable 29 = .ok (.iconst 1, 1) := by decide +kernel
theorem d_X14_variable_30 : decode b_X14_variable 30 = .ok (.iadd, 1) := by decide +kernel
theorem d_X14_variable_31 : decode b_X14_variable 31 = .ok (.putfield 288, 3) := by decide +kernel
theorem d_X14_variable_34 : decode b_X14_variable 34 = .ok (.aload_n 0, 1) := by decide +kernel
theorem d_X14_variable_35 : decode b_X14_variable 35 = .ok (.bipush 25, 2) := by decide +kernel
theorem d_X14_variable_37 : decode b_X14_variable 37 = .ok (.invokevirtual 308, 3) := by decide +kernel
theorem d_X14_variable_40 : decode b_X14_variable 40 = .ok (.ifCond .ne 7, 3) := by decide +kernel
theorem d_X14_variable_43 : decode b_X14_variable 43 = .ok (.iconst 1, 1) := by decide +kernel
theorem d_X14_variable_44 : decode b_X14_variable 44 = .ok (.goto 4, 3) := by decide +kernel
theorem d_X14_variable_47 : decode b_X14_variable 47 = .ok (.iconst 0, 1) := by decide +kernel
theorem d_X14_variable_48 : decode b_X14_variable 48 = .ok (.istore 8, 2) := by decide +kernel
theorem d_X14_variable_50 : decode b_X14_variable 50 = .ok (.iload 8, 2) := by decide +kernel
theorem d_X14_variable_52 : decode b_X14_variable 52 = .ok (.ifCond .eq 10, 3) := by decide +kernel
theorem d_X14_variable_55 : decode b_X14_variable 55 = .ok (.aload_n 0, 1) := by decide +kernel
theorem d_X14_variable_56 : decode b_X14_variable 56 = .ok (.invokevirtual 598, 3) := by decide +kernel
theorem d_X14_variable_59 : decode b_X14_variable 59 = .ok (.goto 4, 3) := by decide +kernel
theorem d_X14_variable_62 : decode b_X14_variable 62 = .ok (.iconst 0, 1) := by decide +kernel
theorem d_X14_variable_63 : decode b_X14_variable 63 = .ok (.istore 7, 2) := by decide +kernel
theorem d_X14_variable_65 : decode b_X14_variable 65 = .ok (.aload_n 0, 1) := by decide +kernel
theorem d_X14_variable_66 : decode b_X14_variable 66 = .ok (.bipush 25, 2) := by decide +kernel
theorem d_X14_variable_68 : decode b_X14_variable 68 = .ok (.invokevirtual 497, 3) := by decide +kernel
theorem d_X14_variable_71 : decode b_X14_variable 71 = .ok (.iload 8, 2) := by decide +kernel
theorem d_X14_variable_73 : decode b_X14_variable 73 = .ok (.ifCond .ne 22, 3) := by decide +kernel
theorem d_X14_variable_76 : decode b_X14_variable 76 = .ok (.aload_n 0, 1) := by decide +kernel
theorem d_X14_variable_77 : decode b_X14_variable 77 = .ok (.bipush 30, 2) := by decide +kernel
theorem d_X14_variable_79 : decode b_X14_variable 79 = .ok (.invokevirtual 308, 3) := by decide +kernel
theorem d_X14_variable_82 : decode b_X14_variable 82 = .ok (.ifCond .eq 13, 3) := by decide +kernel
theorem d_X14_variable_85 : decode b_X14_variable 85 = .ok (.aload_n 0, 1) := by decide +kernel
theorem d_X14_variable_86 : decode b_X14_variable 86 = .ok (.invokevirtual 601, 3) := by decide +kernel
theorem d_X14_variable_89 : decode b_X14_variable 89 = .ok (.iconst 0, 1) := by decide +kernel
theorem d_X14_variable_90 : decode b_X14_variable 90 = .ok (.invokestatic 374, 3) := by decide +kernel
theorem d_X14_variable_93 : decode b_X14_variable 93 = .ok (.istore 7, 2) := by decide +kernel
theorem d_X14_variable_95 : decode b_X14_variable 95 = .ok (.iload 6, 2) := by decide +kernel
theorem d_X14_variable_97 : decode b_X14_variable 97 = .ok (.ifCond .lt 17, 3) := by decide +kernel
theorem d_X14_variable_100 : decode b_X14_variable 100 = .ok (.iload 7, 2) := by decide +kernel
theorem d_X14_variable_102 : decode b_X14_variable 102 = .ok (.iconst 1, 1) := by decide +kernel
theorem d_X14_variable_103 : decode b_X14_variable 103 = .ok (.if_icmp .lt 15, 3) := by decide +kernel
theorem d_X14_variable_106 : decode b_X14_variable 106 = .ok (.iload 7, 2) := by decide +kernel
theorem d_X14_variable_108 : decode b_X14_variable 108 = .ok (.sipush 4000, 3) := by decide +kernel
theorem d_X14_variable_111 : decode b_X14_variable 111 = .ok (.if_icmp .gt 7, 3) := by decide +kernel
theorem d_X14_variable_114 : decode b_X14_variable 114 = .ok (.iconst 1, 1) := by decide +kernel
theorem d_X14_variable_115 : decode b_X14_variable 115 = .ok (.goto 4, 3) := by decide +kernel
theorem d_X14_variable_118 : decode b_X14_variable 118 = .ok (.iconst 0, 1) := by decide +kernel
theorem d_X14_variable_119 : decode b_X14_variable 119 = .ok (.istore 9, 2) := by decide +kernel
theorem d_X14_variable_121 : decode b_X14_variable 121 = .ok (.iload 6, 2) := by decide +kernel
theorem d_X14_variable_123 : decode b_X14_variable 123 = .ok (.ifCond .ge 7, 3) := by decide +kernel
theorem d_X14_variable_126 : decode b_X14_variable 126 = .ok (.iconst (-1), 1) := by decide +kernel
theorem d_X14_variable_127 : decode b_X14_variable 127 = .ok (.goto 14, 3) := by decide +kernel
theorem d_X14_variable_130 : decode b_X14_variable 130 = .ok (.iload 9, 2) := by decide +kernel
theorem d_X14_variable_132 : decode b_X14_variable 132 = .ok (.ifCond .eq 8, 3) := by decide +kernel
theorem d_X14_variable_135 : decode b_X14_variable 135 = .ok (.iload 7, 2) := by decide +kernel
theorem d_X14_variable_137 : decode b_X14_variable 137 = .ok (.goto 4, 3) := by decide +kernel
theorem d_X14_variable_140 : decode b_X14_variable 140 = .ok (.iconst 0, 1) := by decide +kernel
theorem d_X14_variable_141 : decode b_X14_variable 141 = .ok (.istore 10, 2) := by decide +kernel
theorem d_X14_variable_143 : decode b_X14_variable 143 = .ok (.iload 5, 2) := by decide +kernel
theorem d_X14_variable_145 : decode b_X14_variable 145 = .ok (.ifCond .eq 14, 3) := by decide +kernel
theorem d_X14_variable_148 : decode b_X14_variable 148 = .ok (.aload_n 0, 1) := by decide +kernel
theorem d_X14_variable_149 : decode b_X14_variable 149 = .ok (.iload_n 1, 1) := by decide +kernel
theorem d_X14_variable_150 : decode b_X14_variable 150 = .ok (.iload_n 2, 1) := by decide +kernel
theorem d_X14_variable_151 : decode b_X14_variable 151 = .ok (.iload 10, 2) := by decide +kernel
theorem d_X14_variable_153 : decode b_X14_variable 153 = .ok (.invokevirtual 604, 3) := by decide +kernel
theorem d_X14_variable_156 : decode b_X14_variable 156 = .ok (.goto 14, 3) := by decide +kernel
theorem d_X14_variable_159 : decode b_X14_variable 159 = .ok (.aload_n 0, 1) := by decide +kernel
theorem d_X14_variable_160 : decode b_X14_variable 160 = .ok (.iload_n 1, 1) := by decide +kernel
theorem d_X14_variable_161 : decode b_X14_variable 161 = .ok (.iload_n 2, 1) := by decide +kernel
theorem d_X14_variable_162 : decode b_X14_variable 162 = .ok (.iload 10, 2) := by decide +kernel
theorem d_X14_variable_164 : decode b_X14_variable 164 = .ok (.iload_n 3, 1) := by decide +kernel
theorem d_X14_variable_165 : decode b_X14_variable 165 = .ok (.iload 4, 2) := by decide +kernel
theorem d_X14_variable_167 : decode b_X14_variable 167 = .ok (.invokevirtual 607, 3) := by decide +kernel
theorem d_X14_variable_170 : decode b_X14_variable 170 = .ok (.istore 11, 2) := by decide +kernel
theorem d_X14_variable_172 : decode b_X14_variable 172 = .ok (.iload 6, 2) := by decide +kernel
theorem d_X14_variable_174 : decode b_X14_variable 174 = .ok (.ifCond .lt 58, 3) := by decide +kernel
theorem d_X14_variable_177 : decode b_X14_variable 177 = .ok (.iload 7, 2) := by decide +kernel
theorem d_X14_variable_179 : decode b_X14_variable 179 = .ok (.sipush 4000, 3) := by decide +kernel
theorem d_X14_variable_182 : decode b_X14_variable 182 = .ok (.if_icmp .le 10, 3) := by decide +kernel
theorem d_X14_variable_185 : decode b_X14_variable 185 = .ok (.aload_n 0, 1) := by decide +kernel
theorem d_X14_variable_186 : decode b_X14_variable 186 = .ok (.iconst 4, 1) := by decide +kernel
theorem d_X14_variable_187 : decode b_X14_variable 187 = .ok (.iload 6, 2) := by decide +kernel
theorem d_X14_variable_189 : decode b_X14_variable 189 = .ok (.invokevirtual 304, 3) := by decide +kernel
theorem d_X14_variable_192 : decode b_X14_variable 192 = .ok (.aload_n 0, 1) := by decide +kernel
theorem d_X14_variable_193 : decode b_X14_variable 193 = .ok (.iload 9, 2) := by decide +kernel
theorem d_X14_variable_195 : decode b_X14_variable 195 = .ok (.ifCond .ne 27, 3) := by decide +kernel
theorem d_X14_variable_198 : decode b_X14_variable 198 = .ok (.iload 8, 2) := by decide +kernel
theorem d_X14_variable_200 : decode b_X14_variable 200 = .ok (.ifCond .ne 26, 3) := by decide +kernel
theorem d_X14_variable_203 : decode b_X14_variable 203 = .ok (.iload 7, 2) := by decide +kernel
theorem d_X14_variable_205 : decode b_X14_variable 205 = .ok (.ifCond .ne 21, 3) := by decide +kernel
theorem d_X14_variable_208 : decode b_X14_variable 208 = .ok (.iload 4, 2) := by decide +kernel
theorem d_X14_variable_210 : decode b_X14_variable 210 = .ok (.ifCond .ne 12, 3) := by decide +kernel
theorem d_X14_variable_213 : decode b_X14_variable 213 = .ok (.aload_n 0, 1) := by decide +kernel
theorem d_X14_variable_214 : decode b_X14_variable 214 = .ok (.bipush 30, 2) := by decide +kernel
theorem d_X14_variable_216 : decode b_X14_variable 216 = .ok (.invokevirtual 308, 3) := by decide +kernel
theorem d_X14_variable_219 : decode b_X14_variable 219 = .ok (.ifCond .eq 7, 3) := by decide +kernel
theorem d_X14_variable_222 : decode b_X14_variable 222 = .ok (.iconst 1, 1) := by decide +kernel
theorem d_X14_variable_223 : decode b_X14_variable 223 = .ok (.goto 4, 3) := by decide +kernel
theorem d_X14_variable_226 : decode b_X14_variable 226 = .ok (.iconst 0, 1) := by decide +kernel
theorem d_X14_variable_227 : decode b_X14_variable 227 = .ok (.iload 6, 2) := by decide +kernel
theorem d_X14_variable_229 : decode b_X14_variable 229 = .ok (.invokevirtual 410, 3) := by decide +kernel
theorem d_X14_variable_232 : decode b_X14_variable 232 = .ok (.iload 5, 2) := by decide +kernel
theorem d_X14_variable_234 : decode b_X14_variable 234 = .ok (.ifCond .ne 26, 3) := by decide +kernel
theorem d_X14_variable_237 : decode b_X14_variable 237 = .ok (.iload 11, 2) := by decide +kernel
theorem d_X14_variable_239 : decode b_X14_variable 239 = .ok (.ifCond .lt 21, 3) := by decide +kernel
theorem d_X14_variable_242 : decode b_X14_variable 242 = .ok (.iload 4, 2) := by decide +kernel
theorem d_X14_variable_244 : decode b_X14_variable 244 = .ok (.ifCond .ne 16, 3) := by decide +kernel
theorem d_X14_variable_247 : decode b_X14_variable 247 = .ok (.aload_n 0, 1) := by decide +kernel
theorem d_X14_variable_248 : decode b_X14_variable 248 = .ok (.iload 11, 2) := by decide +kernel
theorem d_X14_variable_250 : decode b_X14_variable 250 = .ok (.iload_n 1, 1) := by decide +kernel
theorem d_X14_variable_251 : decode b_X14_variable 251 = .ok (.iload 10, 2) := by decide +kernel
theorem d_X14_variable_253 : decode b_X14_variable 253 = .ok (.iconst 1, 1) := by decide +kernel
theorem d_X14_variable_254 : decode b_X14_variable 254 = .ok (.invokestatic 374, 3) := by decide +kernel
theorem d_X14_variable_257 : decode b_X14_variable 257 = .ok (.invokevirtual 611, 3) := by decide +kernel
theorem d_X14_variable_260 : decode b_X14_variable 260 = .ok (.iload 5, 2) := by decide +kernel
theorem d_X14_variable_262 : decode b_X14_variable 262 = .ok (.ifCond .eq 23, 3) := by decide +kernel
theorem d_X14_variable_265 : decode b_X14_variable 265 = .ok (.iload 11, 2) := by decide +kernel
theorem d_X14_variable_267 : decode b_X14_variable 267 = .ok (.ifCond .lt 18, 3) := by decide +kernel
theorem d_X14_variable_270 : decode b_X14_variable 270 = .ok (.aload_n 0, 1) := by decide +kernel
theorem d_X14_variable_271 : decode b_X14_variable 271 = .ok (.iload_n 1, 1) := by decide +kernel
theorem d_X14_variable_272 : decode b_X14_variable 272 = .ok (.iload 11, 2) := by decide +kernel
theorem d_X14_variable_274 : decode b_X14_variable 274 = .ok (.invokevirtual 614, 3) := by decide +kernel
theorem d_X14_variable_277 : decode b_X14_variable 277 = .ok (.aload_n 0, 1) := by decide +kernel
theorem d_X14_variable_278 : decode b_X14_variable 278 = .ok (.bipush 8, 2) := by decide +kernel
theorem d_X14_variable_280 : decode b_X14_variable 280 = .ok (.iload 11, 2) := by decide +kernel
theorem d_X14_variable_282 : decode b_X14_variable 282 = .ok (.invokevirtual 322, 3) := by decide +kernel
theorem d_X14_variable_285 : decode b_X14_variable 285 = .ok (.aload_n 0, 1) := by decide +kernel
theorem d_X14_variable_286 : decode b_X14_variable 286 = .ok (.bipush 30, 2) := by decide +kernel
theorem d_X14_variable_288 : decode b_X14_variable 288 = .ok (.invokevirtual 308, 3) := by decide +kernel
theorem d_X14_variable_291 : decode b_X14_variable 291 = .ok (.ifCond .ne 4, 3) := by decide +kernel
theorem d_X14_variable_294 : decode b_X14_variable 294 = .ok (.return_, 1) := by decide +kernel
theorem d_X14_variable_295 : decode b_X14_variable 295 = .ok (.aload_n 0, 1) := by decide +kernel
theorem d_X14_variable_296 : decode b_X14_variable 296 = .ok (.getfield 288, 3) := by decide +kernel
theorem d_X14_variable_299 : decode b_X14_variable 299 = .ok (.istore 12, 2) := by decide +kernel
theorem d_X14_variable_301 : decode b_X14_variable 301 = .ok (.aload_n 0, 1) := by decide +kernel
theorem d_X14_variable_302 : decode b_X14_variable 302 = .ok (.dup, 1) := by decide +kernel
theorem d_X14_variable_303 : decode b_X14_variable 303 = .ok (.getfield 288, 3) := by decide +kernel
theorem d_X14_variable_306 : decode b_X14_variable 306 = .ok (.iconst 1, 1) := by decide +kernel
theorem d_X14_variable_307 : decode b_X14_variable 307 = .ok (.iadd, 1) := by decide +kernel
theorem d_X14_variable_308 : decode b_X14_variable 308 = .ok (.putfield 288, 3) := by decide +kernel
theorem d_X14_variable_311 : decode b_X14_variable 311 = .ok (.iload 6, 2) := by decide +kernel
theorem d_X14_variable_313 : decode b_X14_variable 313 = .ok (.ifCond .lt 21, 3) := by decide +kernel
theorem d_X14_variable_316 : decode b_X14_variable 316 = .ok (.aload_n 0, 1) := by decide +kernel
theorem d_X14_variable_317 : decode b_X14_variable 317 = .ok (.iload_n 2, 1) := by decide +kernel
theorem d_X14_variable_318 : decode b_X14_variable 318 = .ok (.iload 10, 2) := by decide +kernel
theorem d_X14_variable_320 : decode b_X14_variable 320 = .ok (.iconst 1, 1) := by decide +kernel
theorem d_X14_variable_321 : decode b_X14_variable 321 = .ok (.invokestatic 374, 3) := by decide +kernel
theorem d_X14_variable_324 : decode b_X14_variable 324 = .ok (.iload 11, 2) := by decide +kernel
theorem d_X14_variable_326 : decode b_X14_variable 326 = .ok (.iload 5, 2) := by decide +kernel
theorem d_X14_variable_328 : decode b_X14_variable 328 = .ok (.invokevirtual 617, 3) := by decide +kernel
theorem d_X14_variable_331 : decode b_X14_variable 331 = .ok (.goto 12, 3) := by decide +kernel
theorem d_X14_variable_334 : decode b_X14_variable 334 = .ok (.aload_n 0, 1) := by decide +kernel
theorem d_X14_variable_335 : decode b_X14_variable 335 = .ok (.iload_n 2, 1) := by decide +kernel
theorem d_X14_variable_336 : decode b_X14_variable 336 = .ok (.iload 11, 2) := by decide +kernel
theorem d_X14_variable_338 : decode b_X14_variable 338 = .ok (.iload 5, 2) := by decide +kernel
theorem d_X14_variable_340 : decode b_X14_variable 340 = .ok (.invokevirtual 621, 3) := by decide +kernel
theorem d_X14_variable_343 : decode b_X14_variable 343 = .ok (.istore 13, 2) := by decide +kernel
theorem d_X14_variable_345 : decode b_X14_variable 345 = .ok (.aload_n 0, 1) := by decide +kernel
theorem d_X14_variable_346 : decode b_X14_variable 346 = .ok (.iload 13, 2) := by decide +kernel
theorem d_X14_variable_348 : decode b_X14_variable 348 = .ok (.ifCond .eq 12, 3) := by decide +kernel
theorem d_X14_variable_351 : decode b_X14_variable 351 = .ok (.iload 4, 2) := by decide +kernel
theorem d_X14_variable_353 : decode b_X14_variable 353 = .ok (.ifCond .ne 7, 3) := by decide +kernel
theorem d_X14_variable_356 : decode b_X14_variable 356 = .ok (.iconst 1, 1) := by decide +kernel
theorem d_X14_variable_357 : decode b_X14_variable 357 = .ok (.goto 4, 3) := by decide +kernel
theorem d_X14_variable_360 : decode b_X14_variable 360 = .ok (.iconst 0, 1) := by decide +kernel
theorem d_X14_variable_361 : decode b_X14_variable 361 = .ok (.iload 12, 2) := by decide +kernel
theorem d_X14_variable_363 : decode b_X14_variable 363 = .ok (.invokevirtual 410, 3) := by decide +kernel
theorem d_X14_variable_366 : decode b_X14_variable 366 = .ok (.return_, 1) := by decide +kernel
theorem d_X14_sizeAt_0 : decode b_X14_sizeAt 0 = .ok (.aload_n 0, 1) := by decide +kernel
theorem d_X14_sizeAt_1 : decode b_X14_sizeAt 1 = .ok (.dup, 1) := by decide +kernel
theorem d_X14_sizeAt_2 : decode b_X14_sizeAt 2 = .ok (.getfield 298, 3) := by decide +kernel
theorem d_X14_sizeAt_5 : decode b_X14_sizeAt 5 = .ok (.iconst 1, 1) := by decide +kernel
theorem d_X14_sizeAt_6 : decode b_X14_sizeAt 6 = .ok (.iadd, 1) := by decide +kernel
theorem d_X14_sizeAt_7 : decode b_X14_sizeAt 7 = .ok (.putfield 298, 3) := by decide +kernel
theorem d_X14_sizeAt_10 : decode b_X14_sizeAt 10 = .ok (.aload_n 0, 1) := by decide +kernel
theorem d_X14_sizeAt_11 : decode b_X14_sizeAt 11 = .ok (.getfield 315, 3) := by decide +kernel
theorem d_X14_sizeAt_14 : decode b_X14_sizeAt 14 = .ok (.istore_n 1, 1) := by decide +kernel
theorem d_X14_sizeAt_15 : decode b_X14_sizeAt 15 = .ok (.aload_n 0, 1) := by decide +kernel
theorem d_X14_sizeAt_16 : decode b_X14_sizeAt 16 = .ok (.iconst 1, 1) := by decide +kernel
theorem d_X14_sizeAt_17 : decode b_X14_sizeAt 17 = .ok (.invokevirtual 395, 3) := by decide +kernel
theorem d_X14_sizeAt_20 : decode b_X14_sizeAt 20 = .ok (.astore_n 2, 1) := by decide +kernel
theorem d_X14_sizeAt_21 : decode b_X14_sizeAt 21 = .ok (.aload_n 0, 1) := by decide +kernel
theorem d_X14_sizeAt_22 : decode b_X14_sizeAt 22 = .ok (.dup, 1) := by decide +kernel
theorem d_X14_sizeAt_23 : decode b_X14_sizeAt 23 = .ok (.getfield 298, 3) := by decide +kernel
theorem d_X14_sizeAt_26 : decode b_X14_sizeAt 26 = .ok (.iconst 1, 1) := by decide +kernel
theorem d_X14_sizeAt_27 : decode b_X14_sizeAt 27 = .ok (.isub, 1) := by decide +kernel
theorem d_X14_sizeAt_28 : decode b_X14_sizeAt 28 = .ok (.putfield 298, 3) := by decide +kernel
theorem d_X14_sizeAt_31 : decode b_X14_sizeAt 31 = .ok (.aload_n 0, 1) := by decide +kernel
theorem d_X14_sizeAt_32 : decode b_X14_sizeAt 32 = .ok (.iload_n 1, 1) := by decide +kernel
theorem d_X14_sizeAt_33 : decode b_X14_sizeAt 33 = .ok (.putfield 315, 3) := by decide +kernel
theorem d_X14_sizeAt_36 : decode b_X14_sizeAt 36 = .ok (.aload_n 2, 1) := by decide +kernel
theorem d_X14_sizeAt_37 : decode b_X14_sizeAt 37 = .ok (.getfield 454, 3) := by decide +kernel
theorem d_X14_sizeAt_40 : decode b_X14_sizeAt 40 = .ok (.iconst 1, 1) := by decide +kernel
theorem d_X14_sizeAt_41 : decode b_X14_sizeAt 41 = .ok (.if_icmp .ne 25, 3) := by decide +kernel
theorem d_X14_sizeAt_44 : decode b_X14_sizeAt 44 = .ok (.aload_n 2, 1) := by decide +kernel
theorem d_X14_sizeAt_45 : decode b_X14_sizeAt 45 = .ok (.invokestatic 406, 3) := by decide +kernel
theorem d_X14_sizeAt_48 : decode b_X14_sizeAt 48 = .ok (.ifCond .eq 18, 3) := by decide +kernel
theorem d_X14_sizeAt_51 : decode b_X14_sizeAt 51 = .ok (.aload_n 2, 1) := by decide +kernel
theorem d_X14_sizeAt_52 : decode b_X14_sizeAt 52 = .ok (.getfield 457, 3) := by decide +kernel
theorem d_X14_sizeAt_55 : decode b_X14_sizeAt 55 = .ok (.iconst 1, 1) := by decide +kernel
theorem d_X14_sizeAt_56 : decode b_X14_sizeAt 56 = .ok (.if_icmp .lt 10, 3) := by decide +kernel
theorem d_X14_sizeAt_59 : decode b_X14_sizeAt 59 = .ok (.aload_n 2, 1) := by decide +kernel
theorem d_X14_sizeAt_60 : decode b_X14_sizeAt 60 = .ok (.getfield 457, 3) := by decide +kernel
theorem d_X14_sizeAt_63 : decode b_X14_sizeAt 63 = .ok (.goto 4, 3) := by decide +kernel
theorem d_X14_sizeAt_66 : decode b_X14_sizeAt 66 = .ok (.iconst (-1), 1) := by decide +kernel
theorem d_X14_sizeAt_67 : decode b_X14_sizeAt 67 = .ok (.ireturn, 1) := by decide +kernel
theorem d_X14_expression_0 : decode b_X14_expression 0 = .ok (.aload_n 0, 1) := by decide +kernel
theorem d_X14_expression_1 : decode b_X14_expression 1 = .ok (.iload_n 1, 1) := by decide +kernel
theorem d_X14_expression_2 : decode b_X14_expression 2 = .ok (.invokevirtual 379, 3) := by decide +kernel
theorem d_X14_expression_5 : decode b_X14_expression 5 = .ok (.astore_n 2, 1) := by decide +kernel
theorem d_X14_expression_6 : decode b_X14_expression 6 = .ok (.aload_n 0, 1) := by decide +kernel
theorem d_X14_expression_7 : decode b_X14_expression 7 = .ok (.invokevirtual 383, 3) := by decide +kernel
theorem d_X14_expression_10 : decode b_X14_expression 10 = .ok (.istore_n 3, 1) := by decide +kernel
theorem d_X14_expression_11 : decode b_X14_expression 11 = .ok (.iload_n 3, 1) := by decide +kernel
theorem d_X14_expression_12 : decode b_X14_expression 12 = .ok (.invokestatic 386, 3) := by decide +kernel
theorem d_X14_expression_15 : decode b_X14_expression 15 = .ok (.ifCond .ne 5, 3) := by decide +kernel
theorem d_X14_expression_18 : decode b_X14_expression 18 = .ok (.aload_n 2, 1) := by decide +kernel
theorem d_X14_expression_19 : decode b_X14_expression 19 = .ok (.areturn, 1) := by decide +kernel
theorem d_X14_expression_20 : decode b_X14_expression 20 = .ok (.aload_n 0, 1) := by decide +kernel
theorem d_X14_expression_21 : decode b_X14_expression 21 = .ok (.getfield 288, 3) := by decide +kernel
theorem d_X14_expression_24 : decode b_X14_expression 24 = .ok (.istore 4, 2) := by decide +kernel
theorem d_X14_expression_26 : decode b_X14_expression 26 = .ok (.aload_n 0, 1) := by decide +kernel
theorem d_X14_expression_27 : decode b_X14_expression 27 = .ok (.iload_n 1, 1) := by decide +kernel
theorem d_X14_expression_28 : decode b_X14_expression 28 = .ok (.invokevirtual 389, 3) := by decide +kernel
theorem d_X14_expression_31 : decode b_X14_expression 31 = .ok (.istore 5, 2) := by decide +kernel
theorem d_X14_expression_33 : decode b_X14_expression 33 = .ok (.aload_n 0, 1) := by decide +kernel
theorem d_X14_expression_34 : decode b_X14_expression 34 = .ok (.dup, 1) := by decide +kernel
theorem d_X14_expression_35 : decode b_X14_expression 35 = .ok (.getfield 288, 3) := by decide +kernel
theorem d_X14_expression_38 : decode b_X14_expression 38 = .ok (.iconst 1, 1) := by decide +kernel
theorem d_X14_expression_39 : decode b_X14_expression 39 = .ok (.iadd, 1) := by decide +kernel
theorem d_X14_expression_40 : decode b_X14_expression 40 = .ok (.putfield 288, 3) := by decide +kernel
theorem d_X14_expression_43 : decode b_X14_expression 43 = .ok (.aload_n 2, 1) := by decide +kernel
theorem d_X14_expression_44 : decode b_X14_expression 44 = .ok (.getfield 361, 3) := by decide +kernel
theorem d_X14_expression_47 : decode b_X14_expression 47 = .ok (.ifCond .eq 7, 3) := by decide +kernel
theorem d_X14_expression_50 : decode b_X14_expression 50 = .ok (.iconst 1, 1) := by decide +kernel
theorem d_X14_expression_51 : decode b_X14_expression 51 = .ok (.goto 4, 3) := by decide +kernel
theorem d_X14_expression_54 : decode b_X14_expression 54 = .ok (.iconst 0, 1) := by decide +kernel
theorem d_X14_expression_55 : decode b_X14_expression 55 = .ok (.istore 6, 2) := by decide +kernel
theorem d_X14_expression_57 : decode b_X14_expression 57 = .ok (.aload_n 2, 1) := by decide +kernel
theorem d_X14_expression_58 : decode b_X14_expression 58 = .ok (.getfield 361, 3) := by decide +kernel
theorem d_X14_expression_61 : decode b_X14_expression 61 = .ok (.iconst 2, 1) := by decide +kernel
theorem d_X14_expression_62 : decode b_X14_expression 62 = .ok (.if_icmp .lt 7, 3) := by decide +kernel
theorem d_X14_expression_65 : decode b_X14_expression 65 = .ok (.iconst 1, 1) := by decide +kernel
theorem d_X14_expression_66 : decode b_X14_expression 66 = .ok (.goto 4, 3) := by decide +kernel
theorem d_X14_expression_69 : decode b_X14_expression 69 = .ok (.iconst 0, 1) := by decide +kernel
theorem d_X14_expression_70 : decode b_X14_expression 70 = .ok (.istore 7, 2) := by decide +kernel
theorem d_X14_expression_72 : decode b_X14_expression 72 = .ok (.aload_n 2, 1) := by decide +kernel
theorem d_X14_expression_73 : decode b_X14_expression 73 = .ok (.getfield 361, 3) := by decide +kernel
theorem d_X14_expression_76 : decode b_X14_expression 76 = .ok (.iconst 2, 1) := by decide +kernel
theorem d_X14_expression_77 : decode b_X14_expression 77 = .ok (.if_icmp .ne 12, 3) := by decide +kernel
theorem d_X14_expression_80 : decode b_X14_expression 80 = .ok (.aload_n 0, 1) := by decide +kernel
theorem d_X14_expression_81 : decode b_X14_expression 81 = .ok (.iconst 1, 1) := by decide +kernel
theorem d_X14_expression_82 : decode b_X14_expression 82 = .ok (.aload_n 2, 1) := by decide +kernel
theorem d_X14_expression_83 : decode b_X14_expression 83 = .ok (.getfield 364, 3) := by decide +kernel
theorem d_X14_expression_86 : decode b_X14_expression 86 = .ok (.invokevirtual 322, 3) := by decide +kernel
theorem d_X14_expression_89 : decode b_X14_expression 89 = .ok (.iload_n 3, 1) := by decide +kernel
theorem d_X14_expression_90 : decode b_X14_expression 90 = .ok (.invokestatic 392, 3) := by decide +kernel
theorem d_X14_expression_93 : decode b_X14_expression 93 = .ok (.istore 8, 2) := by decide +kernel
theorem d_X14_expression_95 : decode b_X14_expression 95 = .ok (.iload 8, 2) := by decide +kernel
theorem d_X14_expression_97 : decode b_X14_expression 97 = .ok (.bipush 30, 2) := by decide +kernel
theorem d_X14_expression_99 : decode b_X14_expression 99 = .ok (.if_icmp .eq 26, 3) := by decide +kernel
theorem d_X14_expression_102 : decode b_X14_expression 102 = .ok (.iload 7, 2) := by decide +kernel
theorem d_X14_expression_104 : decode b_X14_expression 104 = .ok (.ifCond .eq 21, 3) := by decide +kernel
theorem d_X14_expression_107 : decode b_X14_expression 107 = .ok (.aload_n 0, 1) := by decide +kernel
theorem d_X14_expression_108 : decode b_X14_expression 108 = .ok (.bipush 9, 2) := by decide +kernel
theorem d_X14_expression_110 : decode b_X14_expression 110 = .ok (.invokevirtual 318, 3) := by decide +kernel
theorem d_X14_expression_113 : decode b_X14_expression 113 = .ok (.aload_n 0, 1) := by decide +kernel
theorem d_X14_expression_114 : decode b_X14_expression 114 = .ok (.iconst 5, 1) := by decide +kernel
theorem d_X14_expression_115 : decode b_X14_expression 115 = .ok (.aload_n 0, 1) := by decide +kernel
theorem d_X14_expression_116 : decode b_X14_expression 116 = .ok (.getfield 23, 3) := by decide +kernel
theorem d_X14_expression_119 : decode b_X14_expression 119 = .ok (.iload 4, 2) := by decide +kernel
theorem d_X14_expression_121 : decode b_X14_expression 121 = .ok (.iaload, 1) := by decide +kernel
theorem d_X14_expression_122 : decode b_X14_expression 122 = .ok (.invokevirtual 322, 3) := by decide +kernel
theorem d_X14_expression_125 : decode b_X14_expression 125 = .ok (.iload 8, 2) := by decide +kernel
theorem d_X14_expression_127 : decode b_X14_expression 127 = .ok (.bipush 30, 2) := by decide +kernel
theorem d_X14_expression_129 : decode b_X14_expression 129 = .ok (.if_icmp .eq 20, 3) := by decide +kernel
theorem d_X14_expression_132 : decode b_X14_expression 132 = .ok (.aload_n 2, 1) := by decide +kernel
theorem d_X14_expression_133 : decode b_X14_expression 133 = .ok (.getfield 361, 3) := by decide +kernel
theorem d_X14_expression_136 : decode b_X14_expression 136 = .ok (.iconst 1, 1) := by decide +kernel
theorem d_X14_expression_137 : decode b_X14_expression 137 = .ok (.if_icmp .ne 12, 3) := by decide +kernel
theorem d_X14_expression_140 : decode b_X14_expression 140 = .ok (.aload_n 0, 1) := by decide +kernel
theorem d_X14_expression_141 : decode b_X14_expression 141 = .ok (.iconst 3, 1) := by decide +kernel
theorem d_X14_expression_142 : decode b_X14_expression 142 = .ok (.aload_n 2, 1) := by decide +kernel
theorem d_X14_expression_143 : decode b_X14_expression 143 = .ok (.getfield 364, 3) := by decide +kernel
theorem d_X14_expression_146 : decode b_X14_expression 146 = .ok (.invokevirtual 322, 3) := by decide +kernel
theorem d_X14_expression_149 : decode b_X14_expression 149 = .ok (.aload_n 0, 1) := by decide +kernel
theorem d_X14_expression_150 : decode b_X14_expression 150 = .ok (.iload 5, 2) := by decide +kernel
theorem d_X14_expression_152 : decode b_X14_expression 152 = .ok (.invokevirtual 395, 3) := by decide +kernel
theorem d_X14_expression_155 : decode b_X14_expression 155 = .ok (.astore 9, 2) := by decide +kernel
theorem d_X14_expression_157 : decode b_X14_expression 157 = .ok (.aload_n 0, 1) := by decide +kernel
theorem d_X14_expression_158 : decode b_X14_expression 158 = .ok (.aload 9, 2) := by decide +kernel
theorem d_X14_expression_160 : decode b_X14_expression 160 = .ok (.invokevirtual 398, 3) := by decide +kernel
theorem d_X14_expression_163 : decode b_X14_expression 163 = .ok (.iload 6, 2) := by decide +kernel
theorem d_X14_expression_165 : decode b_X14_expression 165 = .ok (.ifCond .eq 76, 3) := by decide +kernel
theorem d_X14_expression_168 : decode b_X14_expression 168 = .ok (.iload 8, 2) := by decide +kernel
theorem d_X14_expression_170 : decode b_X14_expression 170 = .ok (.bipush 30, 2) := by decide +kernel
theorem d_X14_expression_172 : decode b_X14_expression 172 = .ok (.if_icmp .ne 18, 3) := by decide +kernel
theorem d_X14_expression_175 : decode b_X14_expression 175 = .ok (.aload 9, 2) := by decide +kernel
theorem d_X14_expression_177 : decode b_X14_expression 177 = .ok (.aload_n 2, 1) := by decide +kernel
theorem d_X14_expression_178 : decode b_X14_expression 178 = .ok (.getfield 352, 3) := by decide +kernel
theorem d_X14_expression_181 : decode b_X14_expression 181 = .ok (.invokestatic 402, 3) := by decide +kernel
theorem d_X14_expression_184 : decode b_X14_expression 184 = .ok (.ifCond .eq 57, 3) := by decide +kernel
theorem d_X14_expression_187 : decode b_X14_expression 187 = .ok (.goto 50, 3) := by decide +kernel
theorem d_X14_expression_190 : decode b_X14_expression 190 = .ok (.iload 8, 2) := by decide +kernel
theorem d_X14_expression_192 : decode b_X14_expression 192 = .ok (.bipush 36, 2) := by decide +kernel
theorem d_X14_expression_194 : decode b_X14_expression 194 = .ok (.if_icmp .eq 10, 3) := by decide +kernel
theorem d_X14_expression_197 : decode b_X14_expression 197 = .ok (.iload 8, 2) := by decide +kernel
theorem d_X14_expression_199 : decode b_X14_expression 199 = .ok (.bipush 37, 2) := by decide +kernel
theorem d_X14_expression_201 : decode b_X14_expression 201 = .ok (.if_icmp .ne 21, 3) := by decide +kernel
theorem d_X14_expression_204 : decode b_X14_expression 204 = .ok (.aload_n 2, 1) := by decide +kernel
theorem d_X14_expression_205 : decode b_X14_expression 205 = .ok (.getfield 352, 3) := by decide +kernel
theorem d_X14_expression_208 : decode b_X14_expression 208 = .ok (.ifCond .lt 33, 3) := by decide +kernel
theorem d_X14_expression_211 : decode b_X14_expression 211 = .ok (.aload 9, 2) := by decide +kernel
theorem d_X14_expression_213 : decode b_X14_expression 213 = .ok (.invokestatic 406, 3) := by decide +kernel
theorem d_X14_expression_216 : decode b_X14_expression 216 = .ok (.ifCond .eq 25, 3) := by decide +kernel
theorem d_X14_expression_219 : decode b_X14_expression 219 = .ok (.goto 18, 3) := by decide +kernel
theorem d_X14_expression_222 : decode b_X14_expression 222 = .ok (.aload_n 2, 1) := by decide +kernel
theorem d_X14_expression_223 : decode b_X14_expression 223 = .ok (.invokestatic 406, 3) := by decide +kernel
theorem d_X14_expression_226 : decode b_X14_expression 226 = .ok (.ifCond .eq 15, 3) := by decide +kernel
theorem d_X14_expression_229 : decode b_X14_expression 229 = .ok (.aload 9, 2) := by decide +kernel
theorem d_X14_expression_231 : decode b_X14_expression 231 = .ok (.invokestatic 406, 3) := by decide +kernel
theorem d_X14_expression_234 : decode b_X14_expression 234 = .ok (.ifCond .eq 7, 3) := by decide +kernel
theorem d_X14_expression_237 : decode b_X14_expression 237 = .ok (.iconst 1, 1) := by decide +kernel
theorem d_X14_expression_238 : decode b_X14_expression 238 = .ok (.goto 4, 3) := by decide +kernel
theorem d_X14_expression_241 : decode b_X14_expression 241 = .ok (.iconst 0, 1) := by decide +kernel
theorem d_X14_expression_242 : decode b_X14_expression 242 = .ok (.istore 10, 2) := by decide +kernel
theorem d_X14_expression_244 : decode b_X14_expression 244 = .ok (.aload_n 0, 1) := by decide +kernel
theorem d_X14_expression_245 : decode b_X14_expression 245 = .ok (.iload 10, 2) := by decide +kernel
theorem d_X14_expression_247 : decode b_X14_expression 247 = .ok (.iload 4, 2) := by decide +kernel
theorem d_X14_expression_249 : decode b_X14_expression 249 = .ok (.invokevirtual 410, 3) := by decide +kernel
theorem d_X14_expression_252 : decode b_X14_expression 252 = .ok (.aload_n 0, 1) := by decide +kernel
theorem d_X14_expression_253 : decode b_X14_expression 253 = .ok (.iload 10, 2) := by decide +kernel
theorem d_X14_expression_255 : decode b_X14_expression 255 = .ok (.ifCond .eq 10, 3) := by decide +kernel
theorem d_X14_expression_258 : decode b_X14_expression 258 = .ok (.aload_n 2, 1) := by decide +kernel
theorem d_X14_expression_259 : decode b_X14_expression 259 = .ok (.getfield 352, 3) := by decide +kernel
theorem d_X14_expression_262 : decode b_X14_expression 262 = .ok (.goto 5, 3) := by decide +kernel
theorem d_X14_expression_265 : decode b_X14_expression 265 = .ok (.bipush (-2), 2) := by decide +kernel
theorem d_X14_expression_267 : decode b_X14_expression 267 = .ok (.aload_n 2, 1) := by decide +kernel
theorem d_X14_expression_268 : decode b_X14_expression 268 = .ok (.aload 9, 2) := by decide +kernel
theorem d_X14_expression_270 : decode b_X14_expression 270 = .ok (.iload 4, 2) := by decide +kernel
theorem d_X14_expression_272 : decode b_X14_expression 272 = .ok (.invokevirtual 414, 3) := by decide +kernel
theorem d_X14_expression_275 : decode b_X14_expression 275 = .ok (.astore 11, 2) := by decide +kernel
theorem d_X14_expression_277 : decode b_X14_expression 277 = .ok (.iload 8, 2) := by decide +kernel
theorem d_X14_expression_279 : decode b_X14_expression 279 = .ok (.bipush 30, 2) := by decide +kernel
theorem d_X14_expression_281 : decode b_X14_expression 281 = .ok (.if_icmp .eq 18, 3) := by decide +kernel
theorem d_X14_expression_284 : decode b_X14_expression 284 = .ok (.aload_n 0, 1) := by decide +kernel
theorem d_X14_expression_285 : decode b_X14_expression 285 = .ok (.bipush 11, 2) := by decide +kernel
theorem d_X14_expression_287 : decode b_X14_expression 287 = .ok (.iload 8, 2) := by decide +kernel
theorem d_X14_expression_289 : decode b_X14_expression 289 = .ok (.aload_n 0, 1) := by decide +kernel
theorem d_X14_expression_290 : decode b_X14_expression 290 = .ok (.getfield 23, 3) := by decide +kernel
theorem d_X14_expression_293 : decode b_X14_expression 293 = .ok (.iload 4, 2) := by decide +kernel
theorem d_X14_expression_295 : decode b_X14_expression 295 = .ok (.iaload, 1) := by decide +kernel
theorem d_X14_expression_296 : decode b_X14_expression 296 = .ok (.invokevirtual 418, 3) := by decide +kernel
theorem d_X14_expression_299 : decode b_X14_expression 299 = .ok (.iload 7, 2) := by decide +kernel
theorem d_X14_expression_301 : decode b_X14_expression 301 = .ok (.ifCond .eq 19, 3) := by decide +kernel
theorem d_X14_expression_304 : decode b_X14_expression 304 = .ok (.aload_n 0, 1) := by decide +kernel
theorem d_X14_expression_305 : decode b_X14_expression 305 = .ok (.bipush 6, 2) := by decide +kernel
theorem d_X14_expression_307 : decode b_X14_expression 307 = .ok (.aload_n 0, 1) := by decide +kernel
theorem d_X14_expression_308 : decode b_X14_expression 308 = .ok (.getfield 23, 3) := by decide +kernel
theorem d_X14_expression_311 : decode b_X14_expression 311 = .ok (.iload 4, 2) := by decide +kernel
theorem d_X14_expression_313 : decode b_X14_expression 313 = .ok (.iaload, 1) := by decide +kernel
theorem d_X14_expression_314 : decode b_X14_expression 314 = .ok (.invokevirtual 322, 3) := by decide +kernel
theorem d_X14_expression_317 : decode b_X14_expression 317 = .ok (.goto 13, 3) := by decide +kernel
theorem d_X14_expression_320 : decode b_X14_expression 320 = .ok (.aload_n 0, 1) := by decide +kernel
theorem d_X14_expression_321 : decode b_X14_expression 321 = .ok (.bipush 7, 2) := by decide +kernel
theorem d_X14_expression_323 : decode b_X14_expression 323 = .ok (.aload_n 2, 1) := by decide +kernel
theorem d_X14_expression_324 : decode b_X14_expression 324 = .ok (.getfield 364, 3) := by decide +kernel
theorem d_X14_expression_327 : decode b_X14_expression 327 = .ok (.invokevirtual 322, 3) := by decide +kernel
theorem d_X14_expression_330 : decode b_X14_expression 330 = .ok (.aload 11, 2) := by decide +kernel
theorem d_X14_expression_332 : decode b_X14_expression 332 = .ok (.areturn, 1) := by decide +kernel
theorem d_X14_choice_0 : decode b_X14_choice 0 = .ok (.aload_n 0, 1) := by decide +kernel
theorem d_X14_choice_1 : decode b_X14_choice 1 = .ok (.iconst 1, 1) := by decide +kernel
theorem d_X14_choice_2 : decode b_X14_choice 2 = .ok (.iload_n 1, 1) := by decide +kernel
theorem d_X14_choice_3 : decode b_X14_choice 3 = .ok (.invokevirtual 421, 3) := by decide +kernel
theorem d_X14_choice_6 : decode b_X14_choice 6 = .ok (.astore_n 2, 1) := by decide +kernel
theorem d_X14_choice_7 : decode b_X14_choice 7 = .ok (.aload_n 0, 1) := by decide +kernel
theorem d_X14_choice_8 : decode b_X14_choice 8 = .ok (.bipush 28, 2) := by decide +kernel
theorem d_X14_choice_10 : decode b_X14_choice 10 = .ok (.invokevirtual 308, 3) := by decide +kernel
theorem d_X14_choice_13 : decode b_X14_choice 13 = .ok (.ifCond .ne 5, 3) := by decide +kernel
theorem d_X14_choice_16 : decode b_X14_choice 16 = .ok (.aload_n 2, 1) := by decide +kernel
theorem d_X14_choice_17 : decode b_X14_choice 17 = .ok (.areturn, 1) := by decide +kernel
theorem d_X14_choice_18 : decode b_X14_choice 18 = .ok (.aload_n 0, 1) := by decide +kernel
theorem d_X14_choice_19 : decode b_X14_choice 19 = .ok (.getfield 288, 3) := by decide +kernel
theorem d_X14_choice_22 : decode b_X14_choice 22 = .ok (.istore_n 3, 1) := by decide +kernel
theorem d_X14_choice_23 : decode b_X14_choice 23 = .ok (.aload_n 0, 1) := by decide +kernel
theorem d_X14_choice_24 : decode b_X14_choice 24 = .ok (.aload_n 2, 1) := by decide +kernel
theorem d_X14_choice_25 : decode b_X14_choice 25 = .ok (.invokevirtual 398, 3) := by decide +kernel
theorem d_X14_choice_28 : decode b_X14_choice 28 = .ok (.aload_n 0, 1) := by decide +kernel
theorem d_X14_choice_29 : decode b_X14_choice 29 = .ok (.iload_n 1, 1) := by decide +kernel
theorem d_X14_choice_30 : decode b_X14_choice 30 = .ok (.invokevirtual 389, 3) := by decide +kernel
theorem d_X14_choice_33 : decode b_X14_choice 33 = .ok (.istore 4, 2) := by decide +kernel
theorem d_X14_choice_35 : decode b_X14_choice 35 = .ok (.aload_n 0, 1) := by decide +kernel
theorem d_X14_choice_36 : decode b_X14_choice 36 = .ok (.dup, 1) := by decide +kernel
theorem d_X14_choice_37 : decode b_X14_choice 37 = .ok (.getfield 288, 3) := by decide +kernel
theorem d_X14_choice_40 : decode b_X14_choice 40 = .ok (.iconst 1, 1) := by decide +kernel
theorem d_X14_choice_41 : decode b_X14_choice 41 = .ok (.iadd, 1) := by decide +kernel
theorem d_X14_choice_42 : decode b_X14_choice 42 = .ok (.putfield 288, 3) := by decide +kernel
theorem d_X14_choice_45 : decode b_X14_choice 45 = .ok (.aload_n 0, 1) := by decide +kernel
theorem d_X14_choice_46 : decode b_X14_choice 46 = .ok (.bipush 16, 2) := by decide +kernel
theorem d_X14_choice_48 : decode b_X14_choice 48 = .ok (.invokevirtual 425, 3) := by decide +kernel
theorem d_X14_choice_51 : decode b_X14_choice 51 = .ok (.istore 5, 2) := by decide +kernel
theorem d_X14_choice_53 : decode b_X14_choice 53 = .ok (.aload_n 0, 1) := by decide +kernel
theorem d_X14_choice_54 : decode b_X14_choice 54 = .ok (.iload 4, 2) := by decide +kernel
theorem d_X14_choice_56 : decode b_X14_choice 56 = .ok (.invokevirtual 395, 3) := by decide +kernel
theorem d_X14_choice_59 : decode b_X14_choice 59 = .ok (.astore 6, 2) := by decide +kernel
theorem d_X14_choice_61 : decode b_X14_choice 61 = .ok (.aload_n 0, 1) := by decide +kernel
theorem d_X14_choice_62 : decode b_X14_choice 62 = .ok (.aload 6, 2) := by decide +kernel
theorem d_X14_choice_64 : decode b_X14_choice 64 = .ok (.invokevirtual 398, 3) := by decide +kernel
theorem d_X14_choice_67 : decode b_X14_choice 67 = .ok (.aload_n 0, 1) := by decide +kernel
theorem d_X14_choice_68 : decode b_X14_choice 68 = .ok (.bipush 15, 2) := by decide +kernel
theorem d_X14_choice_70 : decode b_X14_choice 70 = .ok (.invokevirtual 425, 3) := by decide +kernel
theorem d_X14_choice_73 : decode b_X14_choice 73 = .ok (.istore 7, 2) := by decide +kernel
theorem d_X14_choice_75 : decode b_X14_choice 75 = .ok (.aload_n 0, 1) := by decide +kernel
theorem d_X14_choice_76 : decode b_X14_choice 76 = .ok (.iload 5, 2) := by decide +kernel
theorem d_X14_choice_78 : decode b_X14_choice 78 = .ok (.invokevirtual 428, 3) := by decide +kernel
theorem d_X14_choice_81 : decode b_X14_choice 81 = .ok (.aload_n 0, 1) := by decide +kernel
theorem d_X14_choice_82 : decode b_X14_choice 82 = .ok (.bipush 29, 2) := by decide +kernel
theorem d_X14_choice_84 : decode b_X14_choice 84 = .ok (.invokevirtual 308, 3) := by decide +kernel
theorem d_X14_choice_87 : decode b_X14_choice 87 = .ok (.ifCond .ne 8, 3) := by decide +kernel
theorem d_X14_choice_90 : decode b_X14_choice 90 = .ok (.aload_n 0, 1) := by decide +kernel
theorem d_X14_choice_91 : decode b_X14_choice 91 = .ok (.invokevirtual 311, 3) := by decide +kernel
theorem d_X14_choice_94 : decode b_X14_choice 94 = .ok (.athrow, 1) := by decide +kernel
theorem d_X14_choice_95 : decode b_X14_choice 95 = .ok (.aload_n 0, 1) := by decide +kernel
theorem d_X14_choice_96 : decode b_X14_choice 96 = .ok (.iload_n 1, 1) := by decide +kernel
theorem d_X14_choice_97 : decode b_X14_choice 97 = .ok (.invokevirtual 389, 3) := by decide +kernel
theorem d_X14_choice_100 : decode b_X14_choice 100 = .ok (.istore 8, 2) := by decide +kernel
theorem d_X14_choice_102 : decode b_X14_choice 102 = .ok (.aload_n 0, 1) := by decide +kernel
theorem d_X14_choice_103 : decode b_X14_choice 103 = .ok (.dup, 1) := by decide +kernel
theorem d_X14_choice_104 : decode b_X14_choice 104 = .ok (.getfield 288, 3) := by decide +kernel
theorem d_X14_choice_107 : decode b_X14_choice 107 = .ok (.iconst 1, 1) := by decide +kernel
theorem d_X14_choice_108 : decode b_X14_choice 108 = .ok (.iadd, 1) := by decide +kernel
theorem d_X14_choice_109 : decode b_X14_choice 109 = .ok (.putfield 288, 3) := by decide +kernel
theorem d_X14_choice_112 : decode b_X14_choice 112 = .ok (.aload_n 0, 1) := by decide +kernel
theorem d_X14_choice_113 : decode b_X14_choice 113 = .ok (.iload 8, 2) := by decide +kernel
theorem d_X14_choice_115 : decode b_X14_choice 115 = .ok (.invokevirtual 379, 3) := by decide +kernel
theorem d_X14_choice_118 : decode b_X14_choice 118 = .ok (.astore 9, 2) := by decide +kernel
theorem d_X14_choice_120 : decode b_X14_choice 120 = .ok (.aload_n 0, 1) := by decide +kernel
theorem d_X14_choice_121 : decode b_X14_choice 121 = .ok (.aload 9, 2) := by decide +kernel
theorem d_X14_choice_123 : decode b_X14_choice 123 = .ok (.invokevirtual 398, 3) := by decide +kernel
theorem d_X14_choice_126 : decode b_X14_choice 126 = .ok (.aload_n 0, 1) := by decide +kernel
theorem d_X14_choice_127 : decode b_X14_choice 127 = .ok (.iload 7, 2) := by decide +kernel
theorem d_X14_choice_129 : decode b_X14_choice 129 = .ok (.invokevirtual 428, 3) := by decide +kernel
theorem d_X14_choice_132 : decode b_X14_choice 132 = .ok (.aload 6, 2) := by decide +kernel
theorem d_X14_choice_134 : decode b_X14_choice 134 = .ok (.getfield 352, 3) := by decide +kernel
theorem d_X14_choice_137 : decode b_X14_choice 137 = .ok (.aload 9, 2) := by decide +kernel
theorem d_X14_choice_139 : decode b_X14_choice 139 = .ok (.getfield 352, 3) := by decide +kernel
theorem d_X14_choice_142 : decode b_X14_choice 142 = .ok (.if_icmp .ne 11, 3) := by decide +kernel
theorem d_X14_choice_145 : decode b_X14_choice 145 = .ok (.aload 6, 2) := by decide +kernel
theorem d_X14_choice_147 : decode b_X14_choice 147 = .ok (.invokestatic 431, 3) := by decide +kernel
theorem d_X14_choice_150 : decode b_X14_choice 150 = .ok (.ifCond .ne 35, 3) := by decide +kernel
theorem d_X14_choice_153 : decode b_X14_choice 153 = .ok (.aload 6, 2) := by decide +kernel
theorem d_X14_choice_155 : decode b_X14_choice 155 = .ok (.invokestatic 434, 3) := by decide +kernel
theorem d_X14_choice_158 : decode b_X14_choice 158 = .ok (.ifCond .eq 11, 3) := by decide +kernel
theorem d_X14_choice_161 : decode b_X14_choice 161 = .ok (.aload 9, 2) := by decide +kernel
theorem d_X14_choice_163 : decode b_X14_choice 163 = .ok (.getfield 357, 3) := by decide +kernel
theorem d_X14_choice_166 : decode b_X14_choice 166 = .ok (.ifCond .ne 19, 3) := by decide +kernel
theorem d_X14_choice_169 : decode b_X14_choice 169 = .ok (.aload 9, 2) := by decide +kernel
theorem d_X14_choice_171 : decode b_X14_choice 171 = .ok (.invokestatic 434, 3) := by decide +kernel
theorem d_X14_choice_174 : decode b_X14_choice 174 = .ok (.ifCond .eq 15, 3) := by decide +kernel
theorem d_X14_choice_177 : decode b_X14_choice 177 = .ok (.aload 6, 2) := by decide +kernel
theorem d_X14_choice_179 : decode b_X14_choice 179 = .ok (.getfield 357, 3) := by decide +kernel
theorem d_X14_choice_182 : decode b_X14_choice 182 = .ok (.ifCond .eq 7, 3) := by decide +kernel
theorem d_X14_choice_185 : decode b_X14_choice 185 = .ok (.iconst 1, 1) := by decide +kernel
theorem d_X14_choice_186 : decode b_X14_choice 186 = .ok (.goto 4, 3) := by decide +kernel
theorem d_X14_choice_189 : decode b_X14_choice 189 = .ok (.iconst 0, 1) := by decide +kernel
theorem d_X14_choice_190 : decode b_X14_choice 190 = .ok (.istore 10, 2) := by decide +kernel
theorem d_X14_choice_192 : decode b_X14_choice 192 = .ok (.aload_n 0, 1) := by decide +kernel
theorem d_X14_choice_193 : decode b_X14_choice 193 = .ok (.aload_n 2, 1) := by decide +kernel
theorem d_X14_choice_194 : decode b_X14_choice 194 = .ok (.invokestatic 431, 3) := by decide +kernel
theorem d_X14_choice_197 : decode b_X14_choice 197 = .ok (.ifCond .eq 12, 3) := by decide +kernel
theorem d_X14_choice_200 : decode b_X14_choice 200 = .ok (.iload 10, 2) := by decide +kernel
theorem d_X14_choice_202 : decode b_X14_choice 202 = .ok (.ifCond .eq 7, 3) := by decide +kernel
theorem d_X14_choice_205 : decode b_X14_choice 205 = .ok (.iconst 1, 1) := by decide +kernel
theorem d_X14_choice_206 : decode b_X14_choice 206 = .ok (.goto 4, 3) := by decide +kernel
theorem d_X14_choice_209 : decode b_X14_choice 209 = .ok (.iconst 0, 1) := by decide +kernel
theorem d_X14_choice_210 : decode b_X14_choice 210 = .ok (.iload_n 3, 1) := by decide +kernel
theorem d_X14_choice_211 : decode b_X14_choice 211 = .ok (.invokevirtual 410, 3) := by decide +kernel
theorem d_X14_choice_214 : decode b_X14_choice 214 = .ok (.aload_n 0, 1) := by decide +kernel
theorem d_X14_choice_215 : decode b_X14_choice 215 = .ok (.iload 10, 2) := by decide +kernel
theorem d_X14_choice_217 : decode b_X14_choice 217 = .ok (.ifCond .eq 19, 3) := by decide +kernel
theorem d_X14_choice_220 : decode b_X14_choice 220 = .ok (.aload 6, 2) := by decide +kernel
theorem d_X14_choice_222 : decode b_X14_choice 222 = .ok (.getfield 352, 3) := by decide +kernel
theorem d_X14_choice_225 : decode b_X14_choice 225 = .ok (.aload 9, 2) := by decide +kernel
theorem d_X14_choice_227 : decode b_X14_choice 227 = .ok (.getfield 352, 3) := by decide +kernel
theorem d_X14_choice_230 : decode b_X14_choice 230 = .ok (.invokestatic 374, 3) := by decide +kernel
theorem d_X14_choice_233 : decode b_X14_choice 233 = .ok (.goto 5, 3) := by decide +kernel
theorem d_X14_choice_236 : decode b_X14_choice 236 = .ok (.bipush (-2), 2) := by decide +kernel
theorem d_X14_choice_238 : decode b_X14_choice 238 = .ok (.aload 6, 2) := by decide +kernel
theorem d_X14_choice_240 : decode b_X14_choice 240 = .ok (.aload 9, 2) := by decide +kernel
theorem d_X14_choice_242 : decode b_X14_choice 242 = .ok (.iload_n 3, 1) := by decide +kernel
theorem d_X14_choice_243 : decode b_X14_choice 243 = .ok (.invokevirtual 414, 3) := by decide +kernel
theorem d_X14_choice_246 : decode b_X14_choice 246 = .ok (.astore 11, 2) := by decide +kernel
theorem d_X14_choice_248 : decode b_X14_choice 248 = .ok (.aload_n 2, 1) := by decide +kernel
theorem d_X14_choice_249 : decode b_X14_choice 249 = .ok (.getfield 371, 3) := by decide +kernel
theorem d_X14_choice_252 : decode b_X14_choice 252 = .ok (.iconst 1, 1) := by decide +kernel
theorem d_X14_choice_253 : decode b_X14_choice 253 = .ok (.iadd, 1) := by decide +kernel
theorem d_X14_choice_254 : decode b_X14_choice 254 = .ok (.aload 11, 2) := by decide +kernel
theorem d_X14_choice_256 : decode b_X14_choice 256 = .ok (.getfield 371, 3) := by decide +kernel
theorem d_X14_choice_259 : decode b_X14_choice 259 = .ok (.if_icmp .le 30, 3) := by decide +kernel
theorem d_X14_choice_262 : decode b_X14_choice 262 = .ok (.aload 11, 2) := by decide +kernel
theorem d_X14_choice_264 : decode b_X14_choice 264 = .ok (.aload_n 2, 1) := by decide +kernel
theorem d_X14_choice_265 : decode b_X14_choice 265 = .ok (.getfield 371, 3) := by decide +kernel
theorem d_X14_choice_268 : decode b_X14_choice 268 = .ok (.iconst 1, 1) := by decide +kernel
theorem d_X14_choice_269 : decode b_X14_choice 269 = .ok (.iadd, 1) := by decide +kernel
theorem d_X14_choice_270 : decode b_X14_choice 270 = .ok (.putfield 371, 3) := by decide +kernel
theorem d_X14_choice_273 : decode b_X14_choice 273 = .ok (.aload 11, 2) := by decide +kernel
theorem d_X14_choice_275 : decode b_X14_choice 275 = .ok (.getfield 371, 3) := by decide +kernel
theorem d_X14_choice_278 : decode b_X14_choice 278 = .ok (.bipush 60, 2) := by decide +kernel
theorem d_X14_choice_280 : decode b_X14_choice 280 = .ok (.if_icmp .le 9, 3) := by decide +kernel
theorem d_X14_choice_283 : decode b_X14_choice 283 = .ok (.aload_n 0, 1) := by decide +kernel
theorem d_X14_choice_284 : decode b_X14_choice 284 = .ok (.iconst 4, 1) := by decide +kernel
theorem d_X14_choice_285 : decode b_X14_choice 285 = .ok (.iload_n 3, 1) := by decide +kernel
theorem d_X14_choice_286 : decode b_X14_choice 286 = .ok (.invokevirtual 304, 3) := by decide +kernel
theorem d_X14_choice_289 : decode b_X14_choice 289 = .ok (.aload 11, 2) := by decide +kernel
theorem d_X14_choice_291 : decode b_X14_choice 291 = .ok (.areturn, 1) := by decide +kernel
theorem d_X14_binary_0 : decode b_X14_binary 0 = .ok (.aload_n 0, 1) := by decide +kernel
theorem d_X14_binary_1 : decode b_X14_binary 1 = .ok (.iload_n 2, 1) := by decide +kernel
theorem d_X14_binary_2 : decode b_X14_binary 2 = .ok (.invokevirtual 437, 3) := by decide +kernel
theorem d_X14_binary_5 : decode b_X14_binary 5 = .ok (.astore_n 3, 1) := by decide +kernel
theorem d_X14_binary_6 : decode b_X14_binary 6 = .ok (.aload_n 0, 1) := by decide +kernel
theorem d_X14_binary_7 : decode b_X14_binary 7 = .ok (.invokevirtual 383, 3) := by decide +kernel
theorem d_X14_binary_10 : decode b_X14_binary 10 = .ok (.invokestatic 440, 3) := by decide +kernel
theorem d_X14_binary_13 : decode b_X14_binary 13 = .ok (.iload_n 1, 1) := by decide +kernel
theorem d_X14_binary_14 : decode b_X14_binary 14 = .ok (.if_icmp .lt 93, 3) := by decide +kernel
theorem d_X14_binary_17 : decode b_X14_binary 17 = .ok (.aload_n 0, 1) := by decide +kernel
theorem d_X14_binary_18 : decode b_X14_binary 18 = .ok (.invokevirtual 383, 3) := by decide +kernel
theorem d_X14_binary_21 : decode b_X14_binary 21 = .ok (.istore 4, 2) := by decide +kernel
theorem d_X14_binary_23 : decode b_X14_binary 23 = .ok (.aload_n 0, 1) := by decide +kernel
theorem d_X14_binary_24 : decode b_X14_binary 24 = .ok (.getfield 288, 3) := by decide +kernel
theorem d_X14_binary_27 : decode b_X14_binary 27 = .ok (.istore 5, 2) := by decide +kernel
theorem d_X14_binary_29 : decode b_X14_binary 29 = .ok (.aload_n 0, 1) := by decide +kernel
theorem d_X14_binary_30 : decode b_X14_binary 30 = .ok (.dup, 1) := by decide +kernel
theorem d_X14_binary_31 : decode b_X14_binary 31 = .ok (.getfield 288, 3) := by decide +kernel
theorem d_X14_binary_34 : decode b_X14_binary 34 = .ok (.iconst 1, 1) := by decide +kernel
theorem d_X14_binary_35 : decode b_X14_binary 35 = .ok (.iadd, 1) := by decide +kernel
theorem d_X14_binary_36 : decode b_X14_binary 36 = .ok (.putfield 288, 3) := by decide +kernel
theorem d_X14_binary_39 : decode b_X14_binary 39 = .ok (.aload_n 0, 1) := by decide +kernel
theorem d_X14_binary_40 : decode b_X14_binary 40 = .ok (.aload_n 3, 1) := by decide +kernel
theorem d_X14_binary_41 : decode b_X14_binary 41 = .ok (.invokevirtual 398, 3) := by decide +kernel
theorem d_X14_binary_44 : decode b_X14_binary 44 = .ok (.iload 4, 2) := by decide +kernel
theorem d_X14_binary_46 : decode b_X14_binary 46 = .ok (.bipush 11, 2) := by decide +kernel
theorem d_X14_binary_48 : decode b_X14_binary 48 = .ok (.if_icmp .eq 10, 3) := by decide +kernel
theorem d_X14_binary_51 : decode b_X14_binary 51 = .ok (.iload 4, 2) := by decide +kernel
theorem d_X14_binary_53 : decode b_X14_binary 53 = .ok (.bipush 10, 2) := by decide +kernel
theorem d_X14_binary_55 : decode b_X14_binary 55 = .ok (.if_icmp .ne 17, 3) := by decide +kernel
theorem d_X14_binary_58 : decode b_X14_binary 58 = .ok (.aload_n 0, 1) := by decide +kernel
theorem d_X14_binary_59 : decode b_X14_binary 59 = .ok (.iload 4, 2) := by decide +kernel
theorem d_X14_binary_61 : decode b_X14_binary 61 = .ok (.aload_n 3, 1) := by decide +kernel
theorem d_X14_binary_62 : decode b_X14_binary 62 = .ok (.iload 5, 2) := by decide +kernel
theorem d_X14_binary_64 : decode b_X14_binary 64 = .ok (.iload_n 2, 1) := by decide +kernel
theorem d_X14_binary_65 : decode b_X14_binary 65 = .ok (.invokevirtual 443, 3) := by decide +kernel
theorem d_X14_binary_68 : decode b_X14_binary 68 = .ok (.astore_n 3, 1) := by decide +kernel
theorem d_X14_binary_69 : decode b_X14_binary 69 = .ok (.goto 35, 3) := by decide +kernel
theorem d_X14_binary_72 : decode b_X14_binary 72 = .ok (.aload_n 0, 1) := by decide +kernel
theorem d_X14_binary_73 : decode b_X14_binary 73 = .ok (.iload 4, 2) := by decide +kernel
theorem d_X14_binary_75 : decode b_X14_binary 75 = .ok (.invokestatic 440, 3) := by decide +kernel
theorem d_X14_binary_78 : decode b_X14_binary 78 = .ok (.iconst 1, 1) := by decide +kernel
theorem d_X14_binary_79 : decode b_X14_binary 79 = .ok (.iadd, 1) := by decide +kernel
theorem d_X14_binary_80 : decode b_X14_binary 80 = .ok (.iload_n 2, 1) := by decide +kernel
theorem d_X14_binary_81 : decode b_X14_binary 81 = .ok (.invokevirtual 421, 3) := by decide +kernel
theorem d_X14_binary_84 : decode b_X14_binary 84 = .ok (.astore 6, 2) := by decide +kernel
theorem d_X14_binary_86 : decode b_X14_binary 86 = .ok (.aload_n 0, 1) := by decide +kernel
theorem d_X14_binary_87 : decode b_X14_binary 87 = .ok (.aload 6, 2) := by decide +kernel
theorem d_X14_binary_89 : decode b_X14_binary 89 = .ok (.invokevirtual 398, 3) := by decide +kernel
theorem d_X14_binary_92 : decode b_X14_binary 92 = .ok (.aload_n 0, 1) := by decide +kernel
theorem d_X14_binary_93 : decode b_X14_binary 93 = .ok (.iload 4, 2) := by decide +kernel
theorem d_X14_binary_95 : decode b_X14_binary 95 = .ok (.aload_n 3, 1) := by decide +kernel
theorem d_X14_binary_96 : decode b_X14_binary 96 = .ok (.aload 6, 2) := by decide +kernel
theorem d_X14_binary_98 : decode b_X14_binary 98 = .ok (.iload 5, 2) := by decide +kernel
theorem d_X14_binary_100 : decode b_X14_binary 100 = .ok (.invokevirtual 447, 3) := by decide +kernel
theorem d_X14_binary_103 : decode b_X14_binary 103 = .ok (.astore_n 3, 1) := by decide +kernel
theorem d_X14_binary_104 : decode b_X14_binary 104 = .ok (.goto (-98), 3) := by decide +kernel
theorem d_X14_binary_107 : decode b_X14_binary 107 = .ok (.aload_n 3, 1) := by decide +kernel
theorem d_X14_binary_108 : decode b_X14_binary 108 = .ok (.areturn, 1) := by decide +kernel
theorem d_X14_unary_0 : decode b_X14_unary 0 = .ok (.aload_n 0, 1) := by decide +kernel
theorem d_X14_unary_1 : decode b_X14_unary 1 = .ok (.getfield 288, 3) := by decide +kernel
theorem d_X14_unary_4 : decode b_X14_unary 4 = .ok (.istore_n 2, 1) := by decide +kernel
theorem d_X14_unary_5 : decode b_X14_unary 5 = .ok (.aload_n 0, 1) := by decide +kernel
theorem d_X14_unary_6 : decode b_X14_unary 6 = .ok (.invokevirtual 383, 3) := by decide +kernel
theorem d_X14_unary_9 : decode b_X14_unary 9 = .ok (.istore_n 3, 1) := by decide +kernel
theorem d_X14_unary_10 : decode b_X14_unary 10 = .ok (.iload_n 3, 1) := by decide +kernel
theorem d_X14_unary_11 : decode b_X14_unary 11 = .ok (.bipush 37, 2) := by decide +kernel
theorem d_X14_unary_13 : decode b_X14_unary 13 = .ok (.if_icmp .eq 39, 3) := by decide +kernel
theorem d_X14_unary_16 : decode b_X14_unary 16 = .ok (.iload_n 3, 1) := by decide +kernel
theorem d_X14_unary_17 : decode b_X14_unary 17 = .ok (.bipush 41, 2) := by decide +kernel
theorem d_X14_unary_19 : decode b_X14_unary 19 = .ok (.if_icmp .eq 33, 3) := by decide +kernel
theorem d_X14_unary_22 : decode b_X14_unary 22 = .ok (.iload_n 3, 1) := by decide +kernel
theorem d_X14_unary_23 : decode b_X14_unary 23 = .ok (.bipush 42, 2) := by decide +kernel
theorem d_X14_unary_25 : decode b_X14_unary 25 = .ok (.if_icmp .eq 27, 3) := by decide +kernel
theorem d_X14_unary_28 : decode b_X14_unary 28 = .ok (.iload_n 3, 1) := by decide +kernel
theorem d_X14_unary_29 : decode b_X14_unary 29 = .ok (.bipush 38, 2) := by decide +kernel
theorem d_X14_unary_31 : decode b_X14_unary 31 = .ok (.if_icmp .eq 21, 3) := by decide +kernel
theorem d_X14_unary_34 : decode b_X14_unary 34 = .ok (.iload_n 3, 1) := by decide +kernel
theorem d_X14_unary_35 : decode b_X14_unary 35 = .ok (.bipush 33, 2) := by decide +kernel
theorem d_X14_unary_37 : decode b_X14_unary 37 = .ok (.if_icmp .eq 15, 3) := by decide +kernel
theorem d_X14_unary_40 : decode b_X14_unary 40 = .ok (.iload_n 3, 1) := by decide +kernel
theorem d_X14_unary_41 : decode b_X14_unary 41 = .ok (.bipush 18, 2) := by decide +kernel
theorem d_X14_unary_43 : decode b_X14_unary 43 = .ok (.if_icmp .eq 9, 3) := by decide +kernel
theorem d_X14_unary_46 : decode b_X14_unary 46 = .ok (.iload_n 3, 1) := by decide +kernel
theorem d_X14_unary_47 : decode b_X14_unary 47 = .ok (.bipush 19, 2) := by decide +kernel
theorem d_X14_unary_49 : decode b_X14_unary 49 = .ok (.if_icmp .ne 95, 3) := by decide +kernel
theorem d_X14_unary_52 : decode b_X14_unary 52 = .ok (.aload_n 0, 1) := by decide +kernel
theorem d_X14_unary_53 : decode b_X14_unary 53 = .ok (.iload_n 1, 1) := by decide +kernel
theorem d_X14_unary_54 : decode b_X14_unary 54 = .ok (.invokevirtual 389, 3) := by decide +kernel
theorem d_X14_unary_57 : decode b_X14_unary 57 = .ok (.istore 4, 2) := by decide +kernel
theorem d_X14_unary_59 : decode b_X14_unary 59 = .ok (.aload_n 0, 1) := by decide +kernel
theorem d_X14_unary_60 : decode b_X14_unary 60 = .ok (.dup, 1) := by decide +kernel
theorem d_X14_unary_61 : decode b_X14_unary 61 = .ok (.getfield 288, 3) := by decide +kernel
theorem d_X14_unary_64 : decode b_X14_unary 64 = .ok (.iconst 1, 1) := by decide +kernel
theorem d_X14_unary_65 : decode b_X14_unary 65 = .ok (.iadd, 1) := by decide +kernel
theorem d_X14_unary_66 : decode b_X14_unary 66 = .ok (.putfield 288, 3) := by decide +kernel
theorem d_X14_unary_69 : decode b_X14_unary 69 = .ok (.aload_n 0, 1) := by decide +kernel
theorem d_X14_unary_70 : decode b_X14_unary 70 = .ok (.iload 4, 2) := by decide +kernel
theorem d_X14_unary_72 : decode b_X14_unary 72 = .ok (.invokevirtual 437, 3) := by decide +kernel
theorem d_X14_unary_75 : decode b_X14_unary 75 = .ok (.astore 5, 2) := by decide +kernel
theorem d_X14_unary_77 : decode b_X14_unary 77 = .ok (.iload_n 3, 1) := by decide +kernel
theorem d_X14_unary_78 : decode b_X14_unary 78 = .ok (.bipush 33, 2) := by decide +kernel
theorem d_X14_unary_80 : decode b_X14_unary 80 = .ok (.if_icmp .ne 11, 3) := by decide +kernel
theorem d_X14_unary_83 : decode b_X14_unary 83 = .ok (.aload_n 0, 1) := by decide +kernel
theorem d_X14_unary_84 : decode b_X14_unary 84 = .ok (.aload 5, 2) := by decide +kernel
theorem d_X14_unary_86 : decode b_X14_unary 86 = .ok (.iload_n 2, 1) := by decide +kernel
theorem d_X14_unary_87 : decode b_X14_unary 87 = .ok (.invokevirtual 480, 3) := by decide +kernel
theorem d_X14_unary_90 : decode b_X14_unary 90 = .ok (.areturn, 1) := by decide +kernel
theorem d_X14_unary_91 : decode b_X14_unary 91 = .ok (.iload_n 3, 1) := by decide +kernel
theorem d_X14_unary_92 : decode b_X14_unary 92 = .ok (.bipush 18, 2) := by decide +kernel
theorem d_X14_unary_94 : decode b_X14_unary 94 = .ok (.if_icmp .eq 9, 3) := by decide +kernel
theorem d_X14_unary_97 : decode b_X14_unary 97 = .ok (.iload_n 3, 1) := by decide +kernel
theorem d_X14_unary_98 : decode b_X14_unary 98 = .ok (.bipush 19, 2) := by decide +kernel
theorem d_X14_unary_100 : decode b_X14_unary 100 = .ok (.if_icmp .ne 13, 3) := by decide +kernel
theorem d_X14_unary_103 : decode b_X14_unary 103 = .ok (.aload_n 0, 1) := by decide +kernel
theorem d_X14_unary_104 : decode b_X14_unary 104 = .ok (.aload 5, 2) := by decide +kernel
theorem d_X14_unary_106 : decode b_X14_unary 106 = .ok (.iload_n 3, 1) := by decide +kernel
theorem d_X14_unary_107 : decode b_X14_unary 107 = .ok (.iconst 0, 1) := by decide +kernel
theorem d_X14_unary_108 : decode b_X14_unary 108 = .ok (.iload_n 2, 1) := by decide +kernel
theorem d_X14_unary_109 : decode b_X14_unary 109 = .ok (.invokevirtual 484, 3) := by decide +kernel
theorem d_X14_unary_112 : decode b_X14_unary 112 = .ok (.areturn, 1) := by decide +kernel
theorem d_X14_unary_113 : decode b_X14_unary 113 = .ok (.aload_n 0, 1) := by decide +kernel
theorem d_X14_unary_114 : decode b_X14_unary 114 = .ok (.aload 5, 2) := by decide +kernel
theorem d_X14_unary_116 : decode b_X14_unary 116 = .ok (.invokevirtual 398, 3) := by decide +kernel
theorem d_X14_unary_119 : decode b_X14_unary 119 = .ok (.iload_n 3, 1) := by decide +kernel
theorem d_X14_unary_120 : decode b_X14_unary 120 = .ok (.bipush 38, 2) := by decide +kernel
theorem d_X14_unary_122 : decode b_X14_unary 122 = .ok (.if_icmp .ne 13, 3) := by decide +kernel
theorem d_X14_unary_125 : decode b_X14_unary 125 = .ok (.aload_n 0, 1) := by decide +kernel
theorem d_X14_unary_126 : decode b_X14_unary 126 = .ok (.aload 5, 2) := by decide +kernel
theorem d_X14_unary_128 : decode b_X14_unary 128 = .ok (.iload_n 2, 1) := by decide +kernel
theorem d_X14_unary_129 : decode b_X14_unary 129 = .ok (.invokevirtual 488, 3) := by decide +kernel
theorem d_X14_unary_132 : decode b_X14_unary 132 = .ok (.goto 11, 3) := by decide +kernel
theorem d_X14_unary_135 : decode b_X14_unary 135 = .ok (.aload_n 0, 1) := by decide +kernel
theorem d_X14_unary_136 : decode b_X14_unary 136 = .ok (.iload_n 3, 1) := by decide +kernel
theorem d_X14_unary_137 : decode b_X14_unary 137 = .ok (.aload 5, 2) := by decide +kernel
theorem d_X14_unary_139 : decode b_X14_unary 139 = .ok (.iload_n 2, 1) := by decide +kernel
theorem d_X14_unary_140 : decode b_X14_unary 140 = .ok (.invokevirtual 491, 3) := by decide +kernel
theorem d_X14_unary_143 : decode b_X14_unary 143 = .ok (.areturn, 1) := by decide +kernel
theorem d_X14_unary_144 : decode b_X14_unary 144 = .ok (.iload_n 3, 1) := by decide +kernel
theorem d_X14_unary_145 : decode b_X14_unary 145 = .ok (.bipush 20, 2) := by decide +kernel
theorem d_X14_unary_147 : decode b_X14_unary 147 = .ok (.if_icmp .ne 83, 3) := by decide +kernel
theorem d_X14_unary_150 : decode b_X14_unary 150 = .ok (.aload_n 0, 1) := by decide +kernel
theorem d_X14_unary_151 : decode b_X14_unary 151 = .ok (.getfield 13, 3) := by decide +kernel
theorem d_X14_unary_154 : decode b_X14_unary 154 = .ok (.aload_n 0, 1) := by decide +kernel
theorem d_X14_unary_155 : decode b_X14_unary 155 = .ok (.getfield 288, 3) := by decide +kernel
theorem d_X14_unary_158 : decode b_X14_unary 158 = .ok (.iconst 1, 1) := by decide +kernel
theorem d_X14_unary_159 : decode b_X14_unary 159 = .ok (.iadd, 1) := by decide +kernel
theorem d_X14_unary_160 : decode b_X14_unary 160 = .ok (.iaload, 1) := by decide +kernel
theorem d_X14_unary_161 : decode b_X14_unary 161 = .ok (.iconst 5, 1) := by decide +kernel
theorem d_X14_unary_162 : decode b_X14_unary 162 = .ok (.if_icmp .ne 68, 3) := by decide +kernel
theorem d_X14_unary_165 : decode b_X14_unary 165 = .ok (.aload_n 0, 1) := by decide +kernel
theorem d_X14_unary_166 : decode b_X14_unary 166 = .ok (.iload_n 1, 1) := by decide +kernel
theorem d_X14_unary_167 : decode b_X14_unary 167 = .ok (.invokevirtual 389, 3) := by decide +kernel
theorem d_X14_unary_170 : decode b_X14_unary 170 = .ok (.istore 4, 2) := by decide +kernel
theorem d_X14_unary_172 : decode b_X14_unary 172 = .ok (.aload_n 0, 1) := by decide +kernel
theorem d_X14_unary_173 : decode b_X14_unary 173 = .ok (.dup, 1) := by decide +kernel
theorem d_X14_unary_174 : decode b_X14_unary 174 = .ok (.getfield 288, 3) := by decide +kernel
theorem d_X14_unary_177 : decode b_X14_unary 177 = .ok (.iconst 2, 1) := by decide +kernel
theorem d_X14_unary_178 : decode b_X14_unary 178 = .ok (.iadd, 1) := by decide +kernel
theorem d_X14_unary_179 : decode b_X14_unary 179 = .ok (.putfield 288, 3) := by decide +kernel
theorem d_X14_unary_182 : decode b_X14_unary 182 = .ok (.aload_n 0, 1) := by decide +kernel
theorem d_X14_unary_183 : decode b_X14_unary 183 = .ok (.invokevirtual 494, 3) := by decide +kernel
theorem d_X14_unary_186 : decode b_X14_unary 186 = .ok (.istore 5, 2) := by decide +kernel
theorem d_X14_unary_188 : decode b_X14_unary 188 = .ok (.aload_n 0, 1) := by decide +kernel
theorem d_X14_unary_189 : decode b_X14_unary 189 = .ok (.bipush 21, 2) := by decide +kernel
theorem d_X14_unary_191 : decode b_X14_unary 191 = .ok (.invokevirtual 497, 3) := by decide +kernel
theorem d_X14_unary_194 : decode b_X14_unary 194 = .ok (.aload_n 0, 1) := by decide +kernel
theorem d_X14_unary_195 : decode b_X14_unary 195 = .ok (.iload 4, 2) := by decide +kernel
theorem d_X14_unary_197 : decode b_X14_unary 197 = .ok (.invokevirtual 437, 3) := by decide +kernel
theorem d_X14_unary_200 : decode b_X14_unary 200 = .ok (.astore 6, 2) := by decide +kernel
theorem d_X14_unary_202 : decode b_X14_unary 202 = .ok (.aload_n 0, 1) := by decide +kernel
theorem d_X14_unary_203 : decode b_X14_unary 203 = .ok (.aload 6, 2) := by decide +kernel
theorem d_X14_unary_205 : decode b_X14_unary 205 = .ok (.invokevirtual 398, 3) := by decide +kernel
theorem d_X14_unary_208 : decode b_X14_unary 208 = .ok (.aload_n 0, 1) := by decide +kernel
theorem d_X14_unary_209 : decode b_X14_unary 209 = .ok (.aload 6, 2) := by decide +kernel
theorem d_X14_unary_211 : decode b_X14_unary 211 = .ok (.invokestatic 431, 3) := by decide +kernel
theorem d_X14_unary_214 : decode b_X14_unary 214 = .ok (.iload_n 2, 1) := by decide +kernel
theorem d_X14_unary_215 : decode b_X14_unary 215 = .ok (.invokevirtual 410, 3) := by decide +kernel
theorem d_X14_unary_218 : decode b_X14_unary 218 = .ok (.aload_n 0, 1) := by decide +kernel
theorem d_X14_unary_219 : decode b_X14_unary 219 = .ok (.iload 5, 2) := by decide +kernel
theorem d_X14_unary_221 : decode b_X14_unary 221 = .ok (.aload 6, 2) := by decide +kernel
theorem d_X14_unary_223 : decode b_X14_unary 223 = .ok (.aload 6, 2) := by decide +kernel
theorem d_X14_unary_225 : decode b_X14_unary 225 = .ok (.iload_n 2, 1) := by decide +kernel
theorem d_X14_unary_226 : decode b_X14_unary 226 = .ok (.invokevirtual 414, 3) := by decide +kernel
theorem d_X14_unary_229 : decode b_X14_unary 229 = .ok (.areturn, 1) := by decide +kernel
theorem d_X14_unary_230 : decode b_X14_unary 230 = .ok (.aload_n 0, 1) := by decide +kernel
theorem d_X14_unary_231 : decode b_X14_unary 231 = .ok (.iload_n 1, 1) := by decide +kernel
theorem d_X14_unary_232 : decode b_X14_unary 232 = .ok (.invokevirtual 500, 3) := by decide +kernel
theorem d_X14_unary_235 : decode b_X14_unary 235 = .ok (.areturn, 1) := by decide +kernel
theorem d_X14_sign_0 : decode b_X14_sign 0 = .ok (.aload_n 0, 1) := by decide +kernel
theorem d_X14_sign_1 : decode b_X14_sign 1 = .ok (.getfield 13, 3) := by decide +kernel
theorem d_X14_sign_4 : decode b_X14_sign 4 = .ok (.aload_n 0, 1) := by decide +kernel
theorem d_X14_sign_5 : decode b_X14_sign 5 = .ok (.getfield 288, 3) := by decide +kernel
theorem d_X14_sign_8 : decode b_X14_sign 8 = .ok (.iaload, 1) := by decide +kernel
theorem d_X14_sign_9 : decode b_X14_sign 9 = .ok (.bipush 32, 2) := by decide +kernel
theorem d_X14_sign_11 : decode b_X14_sign 11 = .ok (.isub, 1) := by decide +kernel
theorem d_X14_sign_12 : decode b_X14_sign 12 = .ok (.ireturn, 1) := by decide +kernel
theorem d_X14_deeper_0 : decode b_X14_deeper 0 = .ok (.iload_n 1, 1) := by decide +kernel
theorem d_X14_deeper_1 : decode b_X14_deeper 1 = .ok (.bipush 25, 2) := by decide +kernel
theorem d_X14_deeper_3 : decode b_X14_deeper 3 = .ok (.if_icmp .ne 8, 3) := by decide +kernel
theorem d_X14_deeper_6 : decode b_X14_deeper 6 = .ok (.aload_n 0, 1) := by decide +kernel
theorem d_X14_deeper_7 : decode b_X14_deeper 7 = .ok (.invokevirtual 311, 3) := by decide +kernel
theorem d_X14_deeper_10 : decode b_X14_deeper 10 = .ok (.athrow, 1) := by decide +kernel
theorem d_X14_deeper_11 : decode b_X14_deeper 11 = .ok (.iload_n 1, 1) := by decide +kernel
theorem d_X14_deeper_12 : decode b_X14_deeper 12 = .ok (.iconst 1, 1) := by decide +kernel
theorem d_X14_deeper_13 : decode b_X14_deeper 13 = .ok (.iadd, 1) := by decide +kernel
theorem d_X14_deeper_14 : decode b_X14_deeper 14 = .ok (.ireturn, 1) := by decide +kernel
theorem d_X14_pointed_0 : decode b_X14_pointed 0 = .ok (.aload_n 1, 1) := by decide +kernel
theorem d_X14_pointed_1 : decode b_X14_pointed 1 = .ok (.getfield 361, 3) := by decide +kernel
theorem d_X14_pointed_4 : decode b_X14_pointed 4 = .ok (.ifCond .eq 23, 3) := by decide +kernel
theorem d_X14_pointed_7 : decode b_X14_pointed 7 = .ok (.aload_n 1, 1) := by decide +kernel
theorem d_X14_pointed_8 : decode b_X14_pointed 8 = .ok (.getfield 352, 3) := by decide +kernel
theorem d_X14_pointed_11 : decode b_X14_pointed 11 = .ok (.ifCond .lt 16, 3) := by decide +kernel
theorem d_X14_pointed_14 : decode b_X14_pointed 14 = .ok (.aload_n 1, 1) := by decide +kernel
theorem d_X14_pointed_15 : decode b_X14_pointed 15 = .ok (.getfield 352, 3) := by decide +kernel
theorem d_X14_pointed_18 : decode b_X14_pointed 18 = .ok (.bipush 9, 2) := by decide +kernel
theorem d_X14_pointed_20 : decode b_X14_pointed 20 = .ok (.if_icmp .ge 7, 3) := by decide +kernel
theorem d_X14_pointed_23 : decode b_X14_pointed 23 = .ok (.iconst 1, 1) := by decide +kernel
theorem d_X14_pointed_24 : decode b_X14_pointed 24 = .ok (.goto 4, 3) := by decide +kernel
theorem d_X14_pointed_27 : decode b_X14_pointed 27 = .ok (.iconst 0, 1) := by decide +kernel
theorem d_X14_pointed_28 : decode b_X14_pointed 28 = .ok (.istore_n 3, 1) := by decide +kernel
theorem d_X14_pointed_29 : decode b_X14_pointed 29 = .ok (.aload_n 0, 1) := by decide +kernel
theorem d_X14_pointed_30 : decode b_X14_pointed 30 = .ok (.iload_n 3, 1) := by decide +kernel
theorem d_X14_pointed_31 : decode b_X14_pointed 31 = .ok (.iload_n 2, 1) := by decide +kernel
theorem d_X14_pointed_32 : decode b_X14_pointed 32 = .ok (.invokevirtual 410, 3) := by decide +kernel
theorem d_X14_pointed_35 : decode b_X14_pointed 35 = .ok (.aload_n 0, 1) := by decide +kernel
theorem d_X14_pointed_36 : decode b_X14_pointed 36 = .ok (.iload_n 3, 1) := by decide +kernel
theorem d_X14_pointed_37 : decode b_X14_pointed 37 = .ok (.ifCond .eq 12, 3) := by decide +kernel
theorem d_X14_pointed_40 : decode b_X14_pointed 40 = .ok (.aload_n 1, 1) := by decide +kernel
theorem d_X14_pointed_41 : decode b_X14_pointed 41 = .ok (.getfield 352, 3) := by decide +kernel
theorem d_X14_pointed_44 : decode b_X14_pointed 44 = .ok (.iconst 1, 1) := by decide +kernel
theorem d_X14_pointed_45 : decode b_X14_pointed 45 = .ok (.iadd, 1) := by decide +kernel
theorem d_X14_pointed_46 : decode b_X14_pointed 46 = .ok (.goto 5, 3) := by decide +kernel
theorem d_X14_pointed_49 : decode b_X14_pointed 49 = .ok (.bipush (-2), 2) := by decide +kernel
theorem d_X14_pointed_51 : decode b_X14_pointed 51 = .ok (.aload_n 1, 1) := by decide +kernel
theorem d_X14_pointed_52 : decode b_X14_pointed 52 = .ok (.aload_n 1, 1) := by decide +kernel
theorem d_X14_pointed_53 : decode b_X14_pointed 53 = .ok (.iload_n 2, 1) := by decide +kernel
theorem d_X14_pointed_54 : decode b_X14_pointed 54 = .ok (.invokevirtual 414, 3) := by decide +kernel
theorem d_X14_pointed_57 : decode b_X14_pointed 57 = .ok (.astore 4, 2) := by decide +kernel
theorem d_X14_pointed_59 : decode b_X14_pointed 59 = .ok (.aload_n 1, 1) := by decide +kernel
theorem d_X14_pointed_60 : decode b_X14_pointed 60 = .ok (.getfield 361, 3) := by decide +kernel
theorem d_X14_pointed_63 : decode b_X14_pointed 63 = .ok (.iconst 1, 1) := by decide +kernel
theorem d_X14_pointed_64 : decode b_X14_pointed 64 = .ok (.if_icmp .ne 22, 3) := by decide +kernel
theorem d_X14_pointed_67 : decode b_X14_pointed 67 = .ok (.aload_n 0, 1) := by decide +kernel
theorem d_X14_pointed_68 : decode b_X14_pointed 68 = .ok (.getfield 120, 3) := by decide +kernel
theorem d_X14_pointed_71 : decode b_X14_pointed 71 = .ok (.aload_n 1, 1) := by decide +kernel
theorem d_X14_pointed_72 : decode b_X14_pointed 72 = .ok (.getfield 364, 3) := by decide +kernel
theorem d_X14_pointed_75 : decode b_X14_pointed 75 = .ok (.iconst 1, 1) := by decide +kernel
theorem d_X14_pointed_76 : decode b_X14_pointed 76 = .ok (.bastore, 1) := by decide +kernel
theorem d_X14_pointed_77 : decode b_X14_pointed 77 = .ok (.aload_n 0, 1) := by decide +kernel
theorem d_X14_pointed_78 : decode b_X14_pointed 78 = .ok (.iconst 4, 1) := by decide +kernel
theorem d_X14_pointed_79 : decode b_X14_pointed 79 = .ok (.aload_n 1, 1) := by decide +kernel
theorem d_X14_pointed_80 : decode b_X14_pointed 80 = .ok (.getfield 364, 3) := by decide +kernel
theorem d_X14_pointed_83 : decode b_X14_pointed 83 = .ok (.invokevirtual 322, 3) := by decide +kernel
theorem d_X14_pointed_86 : decode b_X14_pointed 86 = .ok (.aload_n 1, 1) := by decide +kernel
theorem d_X14_pointed_87 : decode b_X14_pointed 87 = .ok (.getfield 361, 3) := by decide +kernel
theorem d_X14_pointed_90 : decode b_X14_pointed 90 = .ok (.iconst 2, 1) := by decide +kernel
theorem d_X14_pointed_91 : decode b_X14_pointed 91 = .ok (.if_icmp .eq 6, 3) := by decide +kernel
theorem d_X14_pointed_94 : decode b_X14_pointed 94 = .ok (.aload 4, 2) := by decide +kernel
theorem d_X14_pointed_96 : decode b_X14_pointed 96 = .ok (.areturn, 1) := by decide +kernel
theorem d_X14_pointed_97 : decode b_X14_pointed 97 = .ok (.aload_n 0, 1) := by decide +kernel
theorem d_X14_pointed_98 : decode b_X14_pointed 98 = .ok (.iconst 1, 1) := by decide +kernel
theorem d_X14_pointed_99 : decode b_X14_pointed 99 = .ok (.aload_n 1, 1) := by decide +kernel
theorem d_X14_pointed_100 : decode b_X14_pointed 100 = .ok (.getfield 364, 3) := by decide +kernel
theorem d_X14_pointed_103 : decode b_X14_pointed 103 = .ok (.invokevirtual 322, 3) := by decide +kernel
theorem d_X14_pointed_106 : decode b_X14_pointed 106 = .ok (.aload 4, 2) := by decide +kernel
theorem d_X14_pointed_108 : decode b_X14_pointed 108 = .ok (.getfield 371, 3) := by decide +kernel
theorem d_X14_pointed_111 : decode b_X14_pointed 111 = .ok (.bipush 60, 2) := by decide +kernel
theorem d_X14_pointed_113 : decode b_X14_pointed 113 = .ok (.if_icmp .le 8, 3) := by decide +kernel
theorem d_X14_pointed_116 : decode b_X14_pointed 116 = .ok (.aload 4, 2) := by decide +kernel
theorem d_X14_pointed_118 : decode b_X14_pointed 118 = .ok (.goto 15, 3) := by decide +kernel
theorem d_X14_pointed_121 : decode b_X14_pointed 121 = .ok (.aload 4, 2) := by decide +kernel
theorem d_X14_pointed_123 : decode b_X14_pointed 123 = .ok (.aload_n 1, 1) := by decide +kernel
theorem d_X14_pointed_124 : decode b_X14_pointed 124 = .ok (.getfield 364, 3) := by decide +kernel
theorem d_X14_pointed_127 : decode b_X14_pointed 127 = .ok (.iconst 1, 1) := by decide +kernel
theorem d_X14_pointed_128 : decode b_X14_pointed 128 = .ok (.iadd, 1) := by decide +kernel
theorem d_X14_pointed_129 : decode b_X14_pointed 129 = .ok (.iconst 0, 1) := by decide +kernel
theorem d_X14_pointed_130 : decode b_X14_pointed 130 = .ok (.invokevirtual 470, 3) := by decide +kernel
theorem d_X14_pointed_133 : decode b_X14_pointed 133 = .ok (.areturn, 1) := by decide +kernel
theorem d_X14_made_0 : decode b_X14_made 0 = .ok (.new 353, 3) := by decide +kernel
theorem d_X14_made_3 : decode b_X14_made 3 = .ok (.dup, 1) := by decide +kernel
theorem d_X14_made_4 : decode b_X14_made 4 = .ok (.iload_n 1, 1) := by decide +kernel
theorem d_X14_made_5 : decode b_X14_made 5 = .ok (.invokespecial 369, 3) := by decide +kernel
theorem d_X14_made_8 : decode b_X14_made 8 = .ok (.astore 5, 2) := by decide +kernel
theorem d_X14_made_10 : decode b_X14_made 10 = .ok (.aload 5, 2) := by decide +kernel
theorem d_X14_made_12 : decode b_X14_made 12 = .ok (.aload_n 2, 1) := by decide +kernel
theorem d_X14_made_13 : decode b_X14_made 13 = .ok (.getfield 371, 3) := by decide +kernel
theorem d_X14_made_16 : decode b_X14_made 16 = .ok (.aload_n 3, 1) := by decide +kernel
theorem d_X14_made_17 : decode b_X14_made 17 = .ok (.getfield 371, 3) := by decide +kernel
theorem d_X14_made_20 : decode b_X14_made 20 = .ok (.invokestatic 374, 3) := by decide +kernel
theorem d_X14_made_23 : decode b_X14_made 23 = .ok (.iconst 1, 1) := by decide +kernel
theorem d_X14_made_24 : decode b_X14_made 24 = .ok (.iadd, 1) := by decide +kernel
theorem d_X14_made_25 : decode b_X14_made 25 = .ok (.putfield 371, 3) := by decide +kernel
theorem d_X14_made_28 : decode b_X14_made 28 = .ok (.aload 5, 2) := by decide +kernel
theorem d_X14_made_30 : decode b_X14_made 30 = .ok (.getfield 371, 3) := by decide +kernel
theorem d_X14_made_33 : decode b_X14_made 33 = .ok (.bipush 60, 2) := by decide +kernel
theorem d_X14_made_35 : decode b_X14_made 35 = .ok (.if_icmp .le 10, 3) := by decide +kernel
theorem d_X14_made_38 : decode b_X14_made 38 = .ok (.aload_n 0, 1) := by decide +kernel
theorem d_X14_made_39 : decode b_X14_made 39 = .ok (.iconst 4, 1) := by decide +kernel
theorem d_X14_made_40 : decode b_X14_made 40 = .ok (.iload 4, 2) := by decide +kernel
theorem d_X14_made_42 : decode b_X14_made 42 = .ok (.invokevirtual 304, 3) := by decide +kernel
theorem d_X14_made_45 : decode b_X14_made 45 = .ok (.aload 5, 2) := by decide +kernel
theorem d_X14_made_47 : decode b_X14_made 47 = .ok (.areturn, 1) := by decide +kernel
theorem d_X13_init_0 : decode b_X13_init 0 = .ok (.aload_n 0, 1) := by decide +kernel
theorem d_X13_init_1 : decode b_X13_init 1 = .ok (.invokespecial 1, 3) := by decide +kernel
theorem d_X13_init_4 : decode b_X13_init 4 = .ok (.aload_n 0, 1) := by decide +kernel
theorem d_X13_init_5 : decode b_X13_init 5 = .ok (.iconst 1, 1) := by decide +kernel
theorem d_X13_init_6 : decode b_X13_init 6 = .ok (.putfield 7, 3) := by decide +kernel
theorem d_X13_init_9 : decode b_X13_init 9 = .ok (.aload_n 0, 1) := by decide +kernel
theorem d_X13_init_10 : decode b_X13_init 10 = .ok (.iload_n 1, 1) := by decide +kernel
theorem d_X13_init_11 : decode b_X13_init 11 = .ok (.putfield 13, 3) := by decide +kernel
theorem d_X13_init_14 : decode b_X13_init 14 = .ok (.return_, 1) := by decide +kernel
theorem d_X14_put_1_0 : decode b_X14_put_1 0 = .ok (.aload_n 0, 1) := by decide +kernel
theorem d_X14_put_1_1 : decode b_X14_put_1 1 = .ok (.iload_n 1, 1) := by decide +kernel
theorem d_X14_put_1_2 : decode b_X14_put_1 2 = .ok (.invokevirtual 318, 3) := by decide +kernel
theorem d_X14_put_1_5 : decode b_X14_put_1 5 = .ok (.aload_n 0, 1) := by decide +kernel
theorem d_X14_put_1_6 : decode b_X14_put_1 6 = .ok (.iload_n 2, 1) := by decide +kernel
theorem d_X14_put_1_7 : decode b_X14_put_1 7 = .ok (.invokevirtual 318, 3) := by decide +kernel
theorem d_X14_put_1_10 : decode b_X14_put_1 10 = .ok (.return_, 1) := by decide +kernel
theorem d_X14_put_0_0 : decode b_X14_put_0 0 = .ok (.aload_n 0, 1) := by decide +kernel
theorem d_X14_put_0_1 : decode b_X14_put_0 1 = .ok (.getfield 315, 3) := by decide +kernel
theorem d_X14_put_0_4 : decode b_X14_put_0 4 = .ok (.iconst 4, 1) := by decide +kernel
theorem d_X14_put_0_5 : decode b_X14_put_0 5 = .ok (.iadd, 1) := by decide +kernel
theorem d_X14_put_0_6 : decode b_X14_put_0 6 = .ok (.aload_n 0, 1) := by decide +kernel
theorem d_X14_put_0_7 : decode b_X14_put_0 7 = .ok (.getfield 41, 3) := by decide +kernel
theorem d_X14_put_0_10 : decode b_X14_put_0 10 = .ok (.arraylength, 1) := by decide +kernel
theorem d_X14_put_0_11 : decode b_X14_put_0 11 = .ok (.if_icmp .lt 43, 3) := by decide +kernel
theorem d_X14_put_0_14 : decode b_X14_put_0 14 = .ok (.iconst 2, 1) := by decide +kernel
theorem d_X14_put_0_15 : decode b_X14_put_0 15 = .ok (.aload_n 0, 1) := by decide +kernel
theorem d_X14_put_0_16 : decode b_X14_put_0 16 = .ok (.getfield 41, 3) := by decide +kernel
theorem d_X14_put_0_19 : decode b_X14_put_0 19 = .ok (.arraylength, 1) := by decide +kernel
theorem d_X14_put_0_20 : decode b_X14_put_0 20 = .ok (.imul, 1) := by decide +kernel
theorem d_X14_put_0_21 : decode b_X14_put_0 21 = .ok (.newarray .int, 2) := by decide +kernel
theorem d_X14_put_0_23 : decode b_X14_put_0 23 = .ok (.astore_n 2, 1) := by decide +kernel
theorem d_X14_put_0_24 : decode b_X14_put_0 24 = .ok (.iconst 0, 1) := by decide +kernel
theorem d_X14_put_0_25 : decode b_X14_put_0 25 = .ok (.istore_n 3, 1) := by decide +kernel
theorem d_X14_put_0_26 : decode b_X14_put_0 26 = .ok (.iload_n 3, 1) := by decide +kernel
theorem d_X14_put_0_27 : decode b_X14_put_0 27 = .ok (.aload_n 0, 1) := by decide +kernel
theorem d_X14_put_0_28 : decode b_X14_put_0 28 = .ok (.getfield 315, 3) := by decide +kernel
theorem d_X14_put_0_31 : decode b_X14_put_0 31 = .ok (.if_icmp .ge 18, 3) := by decide +kernel
theorem d_X14_put_0_34 : decode b_X14_put_0 34 = .ok (.aload_n 2, 1) := by decide +kernel
theorem d_X14_put_0_35 : decode b_X14_put_0 35 = .ok (.iload_n 3, 1) := by decide +kernel
theorem d_X14_put_0_36 : decode b_X14_put_0 36 = .ok (.aload_n 0, 1) := by decide +kernel
theorem d_X14_put_0_37 : decode b_X14_put_0 37 = .ok (.getfield 41, 3) := by decide +kernel
theorem d_X14_put_0_40 : decode b_X14_put_0 40 = .ok (.iload_n 3, 1) := by decide +kernel
theorem d_X14_put_0_41 : decode b_X14_put_0 41 = .ok (.iaload, 1) := by decide +kernel
theorem d_X14_put_0_42 : decode b_X14_put_0 42 = .ok (.iastore, 1) := by decide +kernel
theorem d_X14_put_0_43 : decode b_X14_put_0 43 = .ok (.iinc 3 1, 3) := by decide +kernel
theorem d_X14_put_0_46 : decode b_X14_put_0 46 = .ok (.goto (-20), 3) := by decide +kernel
theorem d_X14_put_0_49 : decode b_X14_put_0 49 = .ok (.aload_n 0, 1) := by decide +kernel
theorem d_X14_put_0_50 : decode b_X14_put_0 50 = .ok (.aload_n 2, 1) := by decide +kernel
theorem d_X14_put_0_51 : decode b_X14_put_0 51 = .ok (.putfield 41, 3) := by decide +kernel
theorem d_X14_put_0_54 : decode b_X14_put_0 54 = .ok (.aload_n 0, 1) := by decide +kernel
theorem d_X14_put_0_55 : decode b_X14_put_0 55 = .ok (.getfield 41, 3) := by decide +kernel
theorem d_X14_put_0_58 : decode b_X14_put_0 58 = .ok (.aload_n 0, 1) := by decide +kernel
theorem d_X14_put_0_59 : decode b_X14_put_0 59 = .ok (.getfield 315, 3) := by decide +kernel
theorem d_X14_put_0_62 : decode b_X14_put_0 62 = .ok (.iload_n 1, 1) := by decide +kernel
theorem d_X14_put_0_63 : decode b_X14_put_0 63 = .ok (.iastore, 1) := by decide +kernel
theorem d_X14_put_0_64 : decode b_X14_put_0 64 = .ok (.aload_n 0, 1) := by decide +kernel
theorem d_X14_put_0_65 : decode b_X14_put_0 65 = .ok (.dup, 1) := by decide +kernel
theorem d_X14_put_0_66 : decode b_X14_put_0 66 = .ok (.getfield 315, 3) := by decide +kernel
theorem d_X14_put_0_69 : decode b_X14_put_0 69 = .ok (.iconst 1, 1) := by decide +kernel
theorem d_X14_put_0_70 : decode b_X14_put_0 70 = .ok (.iadd, 1) := by decide +kernel
theorem d_X14_put_0_71 : decode b_X14_put_0 71 = .ok (.putfield 315, 3) := by decide +kernel
theorem d_X14_put_0_74 : decode b_X14_put_0 74 = .ok (.return_, 1) := by decide +kernel
theorem d_X13_address_0 : decode b_X13_address 0 = .ok (.aload_n 0, 1) := by decide +kernel
theorem d_X13_address_1 : decode b_X13_address 1 = .ok (.iconst 2, 1) := by decide +kernel
theorem d_X13_address_2 : decode b_X13_address 2 = .ok (.putfield 16, 3) := by decide +kernel
theorem d_X13_address_5 : decode b_X13_address 5 = .ok (.aload_n 0, 1) := by decide +kernel
theorem d_X13_address_6 : decode b_X13_address 6 = .ok (.iload_n 1, 1) := by decide +kernel
theorem d_X13_address_7 : decode b_X13_address 7 = .ok (.putfield 22, 3) := by decide +kernel
theorem d_X13_address_10 : decode b_X13_address 10 = .ok (.aload_n 0, 1) := by decide +kernel
theorem d_X13_address_11 : decode b_X13_address 11 = .ok (.iload_n 2, 1) := by decide +kernel
theorem d_X13_address_12 : decode b_X13_address 12 = .ok (.putfield 19, 3) := by decide +kernel
theorem d_X13_address_15 : decode b_X13_address 15 = .ok (.aload_n 0, 1) := by decide +kernel
theorem d_X13_address_16 : decode b_X13_address 16 = .ok (.areturn, 1) := by decide +kernel
theorem d_X14_stepped_0 : decode b_X14_stepped 0 = .ok (.aload_n 1, 1) := by decide +kernel
theorem d_X14_stepped_1 : decode b_X14_stepped 1 = .ok (.getfield 361, 3) := by decide +kernel
theorem d_X14_stepped_4 : decode b_X14_stepped 4 = .ok (.ifCond .eq 14, 3) := by decide +kernel
theorem d_X14_stepped_7 : decode b_X14_stepped 7 = .ok (.aload_n 1, 1) := by decide +kernel
theorem d_X14_stepped_8 : decode b_X14_stepped 8 = .ok (.getfield 352, 3) := by decide +kernel
theorem d_X14_stepped_11 : decode b_X14_stepped 11 = .ok (.ifCond .lt 7, 3) := by decide +kernel
theorem d_X14_stepped_14 : decode b_X14_stepped 14 = .ok (.iconst 1, 1) := by decide +kernel
theorem d_X14_stepped_15 : decode b_X14_stepped 15 = .ok (.goto 4, 3) := by decide +kernel
theorem d_X14_stepped_18 : decode b_X14_stepped 18 = .ok (.iconst 0, 1) := by decide +kernel
theorem d_X14_stepped_19 : decode b_X14_stepped 19 = .ok (.istore 5, 2) := by decide +kernel
theorem d_X14_stepped_21 : decode b_X14_stepped 21 = .ok (.aload_n 0, 1) := by decide +kernel
theorem d_X14_stepped_22 : decode b_X14_stepped 22 = .ok (.iload 5, 2) := by decide +kernel
theorem d_X14_stepped_24 : decode b_X14_stepped 24 = .ok (.iload 4, 2) := by decide +kernel
theorem d_X14_stepped_26 : decode b_X14_stepped 26 = .ok (.invokevirtual 410, 3) := by decide +kernel
theorem d_X14_stepped_29 : decode b_X14_stepped 29 = .ok (.aload_n 0, 1) := by decide +kernel
theorem d_X14_stepped_30 : decode b_X14_stepped 30 = .ok (.iload 5, 2) := by decide +kernel
theorem d_X14_stepped_32 : decode b_X14_stepped 32 = .ok (.ifCond .eq 10, 3) := by decide +kernel
theorem d_X14_stepped_35 : decode b_X14_stepped 35 = .ok (.aload_n 1, 1) := by decide +kernel
theorem d_X14_stepped_36 : decode b_X14_stepped 36 = .ok (.getfield 352, 3) := by decide +kernel
theorem d_X14_stepped_39 : decode b_X14_stepped 39 = .ok (.goto 5, 3) := by decide +kernel
theorem d_X14_stepped_42 : decode b_X14_stepped 42 = .ok (.bipush (-2), 2) := by decide +kernel
theorem d_X14_stepped_44 : decode b_X14_stepped 44 = .ok (.aload_n 1, 1) := by decide +kernel
theorem d_X14_stepped_45 : decode b_X14_stepped 45 = .ok (.aload_n 1, 1) := by decide +kernel
theorem d_X14_stepped_46 : decode b_X14_stepped 46 = .ok (.iload 4, 2) := by decide +kernel
theorem d_X14_stepped_48 : decode b_X14_stepped 48 = .ok (.invokevirtual 414, 3) := by decide +kernel
theorem d_X14_stepped_51 : decode b_X14_stepped 51 = .ok (.astore 6, 2) := by decide +kernel
theorem d_X14_stepped_53 : decode b_X14_stepped 53 = .ok (.iload_n 2, 1) := by decide +kernel
theorem d_X14_stepped_54 : decode b_X14_stepped 54 = .ok (.bipush 18, 2) := by decide +kernel
theorem d_X14_stepped_56 : decode b_X14_stepped 56 = .ok (.if_icmp .ne 7, 3) := by decide +kernel
theorem d_X14_stepped_59 : decode b_X14_stepped 59 = .ok (.iconst 1, 1) := by decide +kernel
theorem d_X14_stepped_60 : decode b_X14_stepped 60 = .ok (.goto 4, 3) := by decide +kernel
theorem d_X14_stepped_63 : decode b_X14_stepped 63 = .ok (.iconst (-1), 1) := by decide +kernel
theorem d_X14_stepped_64 : decode b_X14_stepped 64 = .ok (.istore 7, 2) := by decide +kernel
theorem d_X14_stepped_66 : decode b_X14_stepped 66 = .ok (.aload_n 1, 1) := by decide +kernel
theorem d_X14_stepped_67 : decode b_X14_stepped 67 = .ok (.getfield 361, 3) := by decide +kernel
theorem d_X14_stepped_70 : decode b_X14_stepped 70 = .ok (.iconst 2, 1) := by decide +kernel
theorem d_X14_stepped_71 : decode b_X14_stepped 71 = .ok (.if_icmp .ne 12, 3) := by decide +kernel
theorem d_X14_stepped_74 : decode b_X14_stepped 74 = .ok (.aload_n 0, 1) := by decide +kernel
theorem d_X14_stepped_75 : decode b_X14_stepped 75 = .ok (.iconst 1, 1) := by decide +kernel
theorem d_X14_stepped_76 : decode b_X14_stepped 76 = .ok (.aload_n 1, 1) := by decide +kernel
theorem d_X14_stepped_77 : decode b_X14_stepped 77 = .ok (.getfield 364, 3) := by decide +kernel
theorem d_X14_stepped_80 : decode b_X14_stepped 80 = .ok (.invokevirtual 322, 3) := by decide +kernel
theorem d_X14_stepped_83 : decode b_X14_stepped 83 = .ok (.aload_n 1, 1) := by decide +kernel
theorem d_X14_stepped_84 : decode b_X14_stepped 84 = .ok (.getfield 361, 3) := by decide +kernel
theorem d_X14_stepped_87 : decode b_X14_stepped 87 = .ok (.iconst 1, 1) := by decide +kernel
theorem d_X14_stepped_88 : decode b_X14_stepped 88 = .ok (.if_icmp .ne 18, 3) := by decide +kernel
theorem d_X14_stepped_91 : decode b_X14_stepped 91 = .ok (.aload_n 0, 1) := by decide +kernel
theorem d_X14_stepped_92 : decode b_X14_stepped 92 = .ok (.bipush 23, 2) := by decide +kernel
theorem d_X14_stepped_94 : decode b_X14_stepped 94 = .ok (.aload_n 1, 1) := by decide +kernel
theorem d_X14_stepped_95 : decode b_X14_stepped 95 = .ok (.getfield 364, 3) := by decide +kernel
theorem d_X14_stepped_98 : decode b_X14_stepped 98 = .ok (.iload 7, 2) := by decide +kernel
theorem d_X14_stepped_100 : decode b_X14_stepped 100 = .ok (.invokevirtual 418, 3) := by decide +kernel
theorem d_X14_stepped_103 : decode b_X14_stepped 103 = .ok (.goto 18, 3) := by decide +kernel
theorem d_X14_stepped_106 : decode b_X14_stepped 106 = .ok (.aload_n 0, 1) := by decide +kernel
theorem d_X14_stepped_107 : decode b_X14_stepped 107 = .ok (.bipush 22, 2) := by decide +kernel
theorem d_X14_stepped_109 : decode b_X14_stepped 109 = .ok (.aload_n 0, 1) := by decide +kernel
theorem d_X14_stepped_110 : decode b_X14_stepped 110 = .ok (.getfield 23, 3) := by decide +kernel
theorem d_X14_stepped_113 : decode b_X14_stepped 113 = .ok (.iload 4, 2) := by decide +kernel
theorem d_X14_stepped_115 : decode b_X14_stepped 115 = .ok (.iaload, 1) := by decide +kernel
theorem d_X14_stepped_116 : decode b_X14_stepped 116 = .ok (.iload 7, 2) := by decide +kernel
theorem d_X14_stepped_118 : decode b_X14_stepped 118 = .ok (.invokevirtual 418, 3) := by decide +kernel
theorem d_X14_stepped_121 : decode b_X14_stepped 121 = .ok (.aload_n 0, 1) := by decide +kernel
theorem d_X14_stepped_122 : decode b_X14_stepped 122 = .ok (.iload_n 3, 1) := by decide +kernel
theorem d_X14_stepped_123 : decode b_X14_stepped 123 = .ok (.invokevirtual 318, 3) := by decide +kernel
theorem d_X14_stepped_126 : decode b_X14_stepped 126 = .ok (.aload 6, 2) := by decide +kernel
theorem d_X14_stepped_128 : decode b_X14_stepped 128 = .ok (.areturn, 1) := by decide +kernel
theorem d_X14_put_2_0 : decode b_X14_put_2 0 = .ok (.aload_n 0, 1) := by decide +kernel
theorem d_X14_put_2_1 : decode b_X14_put_2 1 = .ok (.iload_n 1, 1) := by decide +kernel
theorem d_X14_put_2_2 : decode b_X14_put_2 2 = .ok (.iload_n 2, 1) := by decide +kernel
theorem d_X14_put_2_3 : decode b_X14_put_2 3 = .ok (.invokevirtual 322, 3) := by decide +kernel
theorem d_X14_put_2_6 : decode b_X14_put_2 6 = .ok (.aload_n 0, 1) := by decide +kernel
theorem d_X14_put_2_7 : decode b_X14_put_2 7 = .ok (.iload_n 3, 1) := by decide +kernel
theorem d_X14_put_2_8 : decode b_X14_put_2 8 = .ok (.invokevirtual 318, 3) := by decide +kernel
theorem d_X14_put_2_11 : decode b_X14_put_2 11 = .ok (.return_, 1) := by decide +kernel
theorem d_X14_read_1_0 : decode b_X14_read_1 0 = .ok (.aload_n 1, 1) := by decide +kernel
theorem d_X14_read_1_1 : decode b_X14_read_1 1 = .ok (.getfield 361, 3) := by decide +kernel
theorem d_X14_read_1_4 : decode b_X14_read_1 4 = .ok (.iconst 1, 1) := by decide +kernel
theorem d_X14_read_1_5 : decode b_X14_read_1 5 = .ok (.if_icmp .ne 12, 3) := by decide +kernel
theorem d_X14_read_1_8 : decode b_X14_read_1 8 = .ok (.aload_n 0, 1) := by decide +kernel
theorem d_X14_read_1_9 : decode b_X14_read_1 9 = .ok (.iconst 3, 1) := by decide +kernel
theorem d_X14_read_1_10 : decode b_X14_read_1 10 = .ok (.aload_n 1, 1) := by decide +kernel
theorem d_X14_read_1_11 : decode b_X14_read_1 11 = .ok (.getfield 364, 3) := by decide +kernel
theorem d_X14_read_1_14 : decode b_X14_read_1 14 = .ok (.invokevirtual 322, 3) := by decide +kernel
theorem d_X14_read_1_17 : decode b_X14_read_1 17 = .ok (.aload_n 1, 1) := by decide +kernel
theorem d_X14_read_1_18 : decode b_X14_read_1 18 = .ok (.getfield 361, 3) := by decide +kernel
theorem d_X14_read_1_21 : decode b_X14_read_1 21 = .ok (.iconst 2, 1) := by decide +kernel
theorem d_X14_read_1_22 : decode b_X14_read_1 22 = .ok (.if_icmp .ne 12, 3) := by decide +kernel
theorem d_X14_read_1_25 : decode b_X14_read_1 25 = .ok (.aload_n 0, 1) := by decide +kernel
theorem d_X14_read_1_26 : decode b_X14_read_1 26 = .ok (.iconst 1, 1) := by decide +kernel
theorem d_X14_read_1_27 : decode b_X14_read_1 27 = .ok (.aload_n 1, 1) := by decide +kernel
theorem d_X14_read_1_28 : decode b_X14_read_1 28 = .ok (.getfield 364, 3) := by decide +kernel
theorem d_X14_read_1_31 : decode b_X14_read_1 31 = .ok (.invokevirtual 322, 3) := by decide +kernel
theorem d_X14_read_1_34 : decode b_X14_read_1 34 = .ok (.aload_n 1, 1) := by decide +kernel
theorem d_X14_read_1_35 : decode b_X14_read_1 35 = .ok (.getfield 361, 3) := by decide +kernel
theorem d_X14_read_1_38 : decode b_X14_read_1 38 = .ok (.iconst 2, 1) := by decide +kernel
theorem d_X14_read_1_39 : decode b_X14_read_1 39 = .ok (.if_icmp .lt 17, 3) := by decide +kernel
theorem d_X14_read_1_42 : decode b_X14_read_1 42 = .ok (.aload_n 0, 1) := by decide +kernel
theorem d_X14_read_1_43 : decode b_X14_read_1 43 = .ok (.iconst 5, 1) := by decide +kernel
theorem d_X14_read_1_44 : decode b_X14_read_1 44 = .ok (.aload_n 0, 1) := by decide +kernel
theorem d_X14_read_1_45 : decode b_X14_read_1 45 = .ok (.getfield 23, 3) := by decide +kernel
theorem d_X14_read_1_48 : decode b_X14_read_1 48 = .ok (.aload_n 1, 1) := by decide +kernel
theorem d_X14_read_1_49 : decode b_X14_read_1 49 = .ok (.getfield 367, 3) := by decide +kernel
theorem d_X14_read_1_52 : decode b_X14_read_1 52 = .ok (.iaload, 1) := by decide +kernel
theorem d_X14_read_1_53 : decode b_X14_read_1 53 = .ok (.invokevirtual 322, 3) := by decide +kernel
theorem d_X14_read_1_56 : decode b_X14_read_1 56 = .ok (.aload_n 1, 1) := by decide +kernel
theorem d_X14_read_1_57 : decode b_X14_read_1 57 = .ok (.iconst 0, 1) := by decide +kernel
theorem d_X14_read_1_58 : decode b_X14_read_1 58 = .ok (.putfield 361, 3) := by decide +kernel
theorem d_X14_read_1_61 : decode b_X14_read_1 61 = .ok (.return_, 1) := by decide +kernel
theorem d_X14_pointedTo_0 : decode b_X14_pointedTo 0 = .ok (.aload_n 0, 1) := by decide +kernel
theorem d_X14_pointedTo_1 : decode b_X14_pointedTo 1 = .ok (.aload_n 1, 1) := by decide +kernel
theorem d_X14_pointedTo_2 : decode b_X14_pointedTo 2 = .ok (.invokestatic 434, 3) := by decide +kernel
theorem d_X14_pointedTo_5 : decode b_X14_pointedTo 5 = .ok (.iload_n 2, 1) := by decide +kernel
theorem d_X14_pointedTo_6 : decode b_X14_pointedTo 6 = .ok (.invokevirtual 410, 3) := by decide +kernel
theorem d_X14_pointedTo_9 : decode b_X14_pointedTo 9 = .ok (.aload_n 0, 1) := by decide +kernel
theorem d_X14_pointedTo_10 : decode b_X14_pointedTo 10 = .ok (.aload_n 1, 1) := by decide +kernel
theorem d_X14_pointedTo_11 : decode b_X14_pointedTo 11 = .ok (.invokestatic 434, 3) := by decide +kernel
theorem d_X14_pointedTo_14 : decode b_X14_pointedTo 14 = .ok (.ifCond .eq 12, 3) := by decide +kernel
theorem d_X14_pointedTo_17 : decode b_X14_pointedTo 17 = .ok (.aload_n 1, 1) := by decide +kernel
theorem d_X14_pointedTo_18 : decode b_X14_pointedTo 18 = .ok (.getfield 352, 3) := by decide +kernel
theorem d_X14_pointedTo_21 : decode b_X14_pointedTo 21 = .ok (.iconst 1, 1) := by decide +kernel
theorem d_X14_pointedTo_22 : decode b_X14_pointedTo 22 = .ok (.isub, 1) := by decide +kernel
theorem d_X14_pointedTo_23 : decode b_X14_pointedTo 23 = .ok (.goto 5, 3) := by decide +kernel
theorem d_X14_pointedTo_26 : decode b_X14_pointedTo 26 = .ok (.bipush (-2), 2) := by decide +kernel
theorem d_X14_pointedTo_28 : decode b_X14_pointedTo 28 = .ok (.aload_n 1, 1) := by decide +kernel
theorem d_X14_pointedTo_29 : decode b_X14_pointedTo 29 = .ok (.aload_n 1, 1) := by decide +kernel
theorem d_X14_pointedTo_30 : decode b_X14_pointedTo 30 = .ok (.iload_n 2, 1) := by decide +kernel
theorem d_X14_pointedTo_31 : decode b_X14_pointedTo 31 = .ok (.invokevirtual 414, 3) := by decide +kernel
theorem d_X14_pointedTo_34 : decode b_X14_pointedTo 34 = .ok (.astore_n 3, 1) := by decide +kernel
theorem d_X14_pointedTo_35 : decode b_X14_pointedTo 35 = .ok (.aload_n 3, 1) := by decide +kernel
theorem d_X14_pointedTo_36 : decode b_X14_pointedTo 36 = .ok (.iconst 3, 1) := by decide +kernel
theorem d_X14_pointedTo_37 : decode b_X14_pointedTo 37 = .ok (.putfield 361, 3) := by decide +kernel
theorem d_X14_pointedTo_40 : decode b_X14_pointedTo 40 = .ok (.aload_n 3, 1) := by decide +kernel
theorem d_X14_pointedTo_41 : decode b_X14_pointedTo 41 = .ok (.iload_n 2, 1) := by decide +kernel
theorem d_X14_pointedTo_42 : decode b_X14_pointedTo 42 = .ok (.putfield 367, 3) := by decide +kernel
theorem d_X14_pointedTo_45 : decode b_X14_pointedTo 45 = .ok (.aload_n 3, 1) := by decide +kernel
theorem d_X14_pointedTo_46 : decode b_X14_pointedTo 46 = .ok (.areturn, 1) := by decide +kernel
theorem d_X14_isPointer_0 : decode b_X14_isPointer 0 = .ok (.aload_n 0, 1) := by decide +kernel
theorem d_X14_isPointer_1 : decode b_X14_isPointer 1 = .ok (.getfield 352, 3) := by decide +kernel
theorem d_X14_isPointer_4 : decode b_X14_isPointer 4 = .ok (.ifCond .le 7, 3) := by decide +kernel
theorem d_X14_isPointer_7 : decode b_X14_isPointer 7 = .ok (.iconst 1, 1) := by decide +kernel
theorem d_X14_isPointer_8 : decode b_X14_isPointer 8 = .ok (.goto 4, 3) := by decide +kernel
theorem d_X14_isPointer_11 : decode b_X14_isPointer 11 = .ok (.iconst 0, 1) := by decide +kernel
theorem d_X14_isPointer_12 : decode b_X14_isPointer 12 = .ok (.ireturn, 1) := by decide +kernel
theorem d_X14_one_2_0 : decode b_X14_one_2 0 = .ok (.aload_n 0, 1) := by decide +kernel
theorem d_X14_one_2_1 : decode b_X14_one_2 1 = .ok (.iload_n 1, 1) := by decide +kernel
theorem d_X14_one_2_2 : decode b_X14_one_2 2 = .ok (.bipush 41, 2) := by decide +kernel
theorem d_X14_one_2_4 : decode b_X14_one_2 4 = .ok (.if_icmp .ne 10, 3) := by decide +kernel
theorem d_X14_one_2_7 : decode b_X14_one_2 7 = .ok (.aload_n 2, 1) := by decide +kernel
theorem d_X14_one_2_8 : decode b_X14_one_2 8 = .ok (.invokestatic 431, 3) := by decide +kernel
theorem d_X14_one_2_11 : decode b_X14_one_2 11 = .ok (.goto 7, 3) := by decide +kernel
theorem d_X14_one_2_14 : decode b_X14_one_2 14 = .ok (.aload_n 2, 1) := by decide +kernel
theorem d_X14_one_2_15 : decode b_X14_one_2 15 = .ok (.invokestatic 406, 3) := by decide +kernel
theorem d_X14_one_2_18 : decode b_X14_one_2 18 = .ok (.iload_n 3, 1) := by decide +kernel
theorem d_X14_one_2_19 : decode b_X14_one_2 19 = .ok (.invokevirtual 410, 3) := by decide +kernel
theorem d_X14_one_2_22 : decode b_X14_one_2 22 = .ok (.aload_n 0, 1) := by decide +kernel
theorem d_X14_one_2_23 : decode b_X14_one_2 23 = .ok (.iconst 0, 1) := by decide +kernel
theorem d_X14_one_2_24 : decode b_X14_one_2 24 = .ok (.aload_n 2, 1) := by decide +kernel
theorem d_X14_one_2_25 : decode b_X14_one_2 25 = .ok (.aload_n 2, 1) := by decide +kernel
theorem d_X14_one_2_26 : decode b_X14_one_2 26 = .ok (.iload_n 3, 1) := by decide +kernel
theorem d_X14_one_2_27 : decode b_X14_one_2 27 = .ok (.invokevirtual 414, 3) := by decide +kernel
theorem d_X14_one_2_30 : decode b_X14_one_2 30 = .ok (.astore 4, 2) := by decide +kernel
theorem d_X14_one_2_32 : decode b_X14_one_2 32 = .ok (.aload_n 0, 1) := by decide +kernel
theorem d_X14_one_2_33 : decode b_X14_one_2 33 = .ok (.iload_n 1, 1) := by decide +kernel
theorem d_X14_one_2_34 : decode b_X14_one_2 34 = .ok (.bipush 41, 2) := by decide +kernel
theorem d_X14_one_2_36 : decode b_X14_one_2 36 = .ok (.if_icmp .ne 8, 3) := by decide +kernel
theorem d_X14_one_2_39 : decode b_X14_one_2 39 = .ok (.bipush 14, 2) := by decide +kernel
theorem d_X14_one_2_41 : decode b_X14_one_2 41 = .ok (.goto 16, 3) := by decide +kernel
theorem d_X14_one_2_44 : decode b_X14_one_2 44 = .ok (.iload_n 1, 1) := by decide +kernel
theorem d_X14_one_2_45 : decode b_X14_one_2 45 = .ok (.bipush 37, 2) := by decide +kernel
theorem d_X14_one_2_47 : decode b_X14_one_2 47 = .ok (.if_icmp .ne 8, 3) := by decide +kernel
theorem d_X14_one_2_50 : decode b_X14_one_2 50 = .ok (.bipush 12, 2) := by decide +kernel
theorem d_X14_one_2_52 : decode b_X14_one_2 52 = .ok (.goto 5, 3) := by decide +kernel
theorem d_X14_one_2_55 : decode b_X14_one_2 55 = .ok (.bipush 13, 2) := by decide +kernel
theorem d_X14_one_2_57 : decode b_X14_one_2 57 = .ok (.invokevirtual 318, 3) := by decide +kernel
theorem d_X14_one_2_60 : decode b_X14_one_2 60 = .ok (.aload_n 2, 1) := by decide +kernel
theorem d_X14_one_2_61 : decode b_X14_one_2 61 = .ok (.getfield 454, 3) := by decide +kernel
theorem d_X14_one_2_64 : decode b_X14_one_2 64 = .ok (.iconst 1, 1) := by decide +kernel
theorem d_X14_one_2_65 : decode b_X14_one_2 65 = .ok (.if_icmp .ne 20, 3) := by decide +kernel
theorem d_X14_one_2_68 : decode b_X14_one_2 68 = .ok (.aload_n 2, 1) := by decide +kernel
theorem d_X14_one_2_69 : decode b_X14_one_2 69 = .ok (.invokestatic 406, 3) := by decide +kernel
theorem d_X14_one_2_72 : decode b_X14_one_2 72 = .ok (.ifCond .eq 13, 3) := by decide +kernel
theorem d_X14_one_2_75 : decode b_X14_one_2 75 = .ok (.aload 4, 2) := by decide +kernel
theorem d_X14_one_2_77 : decode b_X14_one_2 77 = .ok (.getfield 371, 3) := by decide +kernel
theorem d_X14_one_2_80 : decode b_X14_one_2 80 = .ok (.bipush 60, 2) := by decide +kernel
theorem d_X14_one_2_82 : decode b_X14_one_2 82 = .ok (.if_icmp .le 6, 3) := by decide +kernel
theorem d_X14_one_2_85 : decode b_X14_one_2 85 = .ok (.aload 4, 2) := by decide +kernel
theorem d_X14_one_2_87 : decode b_X14_one_2 87 = .ok (.areturn, 1) := by decide +kernel
theorem d_X14_one_2_88 : decode b_X14_one_2 88 = .ok (.aload 4, 2) := by decide +kernel
theorem d_X14_one_2_90 : decode b_X14_one_2 90 = .ok (.iload_n 1, 1) := by decide +kernel
theorem d_X14_one_2_91 : decode b_X14_one_2 91 = .ok (.bipush 41, 2) := by decide +kernel
theorem d_X14_one_2_93 : decode b_X14_one_2 93 = .ok (.if_icmp .ne 18, 3) := by decide +kernel
theorem d_X14_one_2_96 : decode b_X14_one_2 96 = .ok (.aload_n 2, 1) := by decide +kernel
theorem d_X14_one_2_97 : decode b_X14_one_2 97 = .ok (.getfield 457, 3) := by decide +kernel
theorem d_X14_one_2_100 : decode b_X14_one_2 100 = .ok (.ifCond .ne 7, 3) := by decide +kernel
theorem d_X14_one_2_103 : decode b_X14_one_2 103 = .ok (.iconst 1, 1) := by decide +kernel
theorem d_X14_one_2_104 : decode b_X14_one_2 104 = .ok (.goto 27, 3) := by decide +kernel
theorem d_X14_one_2_107 : decode b_X14_one_2 107 = .ok (.iconst 0, 1) := by decide +kernel
theorem d_X14_one_2_108 : decode b_X14_one_2 108 = .ok (.goto 23, 3) := by decide +kernel
theorem d_X14_one_2_111 : decode b_X14_one_2 111 = .ok (.iload_n 1, 1) := by decide +kernel
theorem d_X14_one_2_112 : decode b_X14_one_2 112 = .ok (.bipush 37, 2) := by decide +kernel
theorem d_X14_one_2_114 : decode b_X14_one_2 114 = .ok (.if_icmp .ne 11, 3) := by decide +kernel
theorem d_X14_one_2_117 : decode b_X14_one_2 117 = .ok (.aload_n 2, 1) := by decide +kernel
theorem d_X14_one_2_118 : decode b_X14_one_2 118 = .ok (.getfield 457, 3) := by decide +kernel
theorem d_X14_one_2_121 : decode b_X14_one_2 121 = .ok (.ineg, 1) := by decide +kernel
theorem d_X14_one_2_122 : decode b_X14_one_2 122 = .ok (.goto 9, 3) := by decide +kernel
theorem d_X14_one_2_125 : decode b_X14_one_2 125 = .ok (.aload_n 2, 1) := by decide +kernel
theorem d_X14_one_2_126 : decode b_X14_one_2 126 = .ok (.getfield 457, 3) := by decide +kernel
theorem d_X14_one_2_129 : decode b_X14_one_2 129 = .ok (.iconst (-1), 1) := by decide +kernel
theorem d_X14_one_2_130 : decode b_X14_one_2 130 = .ok (.ixor, 1) := by decide +kernel
theorem d_X14_one_2_131 : decode b_X14_one_2 131 = .ok (.invokevirtual 464, 3) := by decide +kernel
theorem d_X14_one_2_134 : decode b_X14_one_2 134 = .ok (.areturn, 1) := by decide +kernel
theorem d_X14_isAny_0 : decode b_X14_isAny 0 = .ok (.aload_n 0, 1) := by decide +kernel
theorem d_X14_isAny_1 : decode b_X14_isAny 1 = .ok (.getfield 352, 3) := by decide +kernel
theorem d_X14_isAny_4 : decode b_X14_isAny 4 = .ok (.ifCond .lt 7, 3) := by decide +kernel
theorem d_X14_isAny_7 : decode b_X14_isAny 7 = .ok (.iconst 1, 1) := by decide +kernel
theorem d_X14_isAny_8 : decode b_X14_isAny 8 = .ok (.goto 4, 3) := by decide +kernel
theorem d_X14_isAny_11 : decode b_X14_isAny 11 = .ok (.iconst 0, 1) := by decide +kernel
theorem d_X14_isAny_12 : decode b_X14_isAny 12 = .ok (.ireturn, 1) := by decide +kernel
theorem d_X14_isInt_0 : decode b_X14_isInt 0 = .ok (.aload_n 0, 1) := by decide +kernel
theorem d_X14_isInt_1 : decode b_X14_isInt 1 = .ok (.getfield 352, 3) := by decide +kernel
theorem d_X14_isInt_4 : decode b_X14_isInt 4 = .ok (.ifCond .ne 7, 3) := by decide +kernel
theorem d_X14_isInt_7 : decode b_X14_isInt 7 = .ok (.iconst 1, 1) := by decide +kernel
theorem d_X14_isInt_8 : decode b_X14_isInt 8 = .ok (.goto 4, 3) := by decide +kernel
theorem d_X14_isInt_11 : decode b_X14_isInt 11 = .ok (.iconst 0, 1) := by decide +kernel
theorem d_X14_isInt_12 : decode b_X14_isInt 12 = .ok (.ireturn, 1) := by decide +kernel
theorem d_X13_constant_0 : decode b_X13_constant 0 = .ok (.aload_n 0, 1) := by decide +kernel
theorem d_X13_constant_1 : decode b_X13_constant 1 = .ok (.iconst 1, 1) := by decide +kernel
theorem d_X13_constant_2 : decode b_X13_constant 2 = .ok (.putfield 16, 3) := by decide +kernel
theorem d_X13_constant_5 : decode b_X13_constant 5 = .ok (.aload_n 0, 1) := by decide +kernel
theorem d_X13_constant_6 : decode b_X13_constant 6 = .ok (.iload_n 1, 1) := by decide +kernel
theorem d_X13_constant_7 : decode b_X13_constant 7 = .ok (.putfield 19, 3) := by decide +kernel
theorem d_X13_constant_10 : decode b_X13_constant 10 = .ok (.aload_n 0, 1) := by decide +kernel
theorem d_X13_constant_11 : decode b_X13_constant 11 = .ok (.areturn, 1) := by decide +kernel
theorem d_X14_behind_0 : decode b_X14_behind 0 = .ok (.aload_n 0, 1) := by decide +kernel
theorem d_X14_behind_1 : decode b_X14_behind 1 = .ok (.iload_n 1, 1) := by decide +kernel
theorem d_X14_behind_2 : decode b_X14_behind 2 = .ok (.invokevirtual 503, 3) := by decide +kernel
theorem d_X14_behind_5 : decode b_X14_behind 5 = .ok (.astore_n 2, 1) := by decide +kernel
theorem d_X14_behind_6 : decode b_X14_behind 6 = .ok (.aload_n 0, 1) := by decide +kernel
theorem d_X14_behind_7 : decode b_X14_behind 7 = .ok (.bipush 24, 2) := by decide +kernel
theorem d_X14_behind_9 : decode b_X14_behind 9 = .ok (.invokevirtual 308, 3) := by decide +kernel
theorem d_X14_behind_12 : decode b_X14_behind 12 = .ok (.ifCond .ne 21, 3) := by decide +kernel
theorem d_X14_behind_15 : decode b_X14_behind 15 = .ok (.aload_n 0, 1) := by decide +kernel
theorem d_X14_behind_16 : decode b_X14_behind 16 = .ok (.bipush 18, 2) := by decide +kernel
theorem d_X14_behind_18 : decode b_X14_behind 18 = .ok (.invokevirtual 308, 3) := by decide +kernel
theorem d_X14_behind_21 : decode b_X14_behind 21 = .ok (.ifCond .ne 12, 3) := by decide +kernel
theorem d_X14_behind_24 : decode b_X14_behind 24 = .ok (.aload_n 0, 1) := by decide +kernel
theorem d_X14_behind_25 : decode b_X14_behind 25 = .ok (.bipush 19, 2) := by decide +kernel
theorem d_X14_behind_27 : decode b_X14_behind 27 = .ok (.invokevirtual 308, 3) := by decide +kernel
theorem d_X14_behind_30 : decode b_X14_behind 30 = .ok (.ifCond .eq 168, 3) := by decide +kernel
theorem d_X14_behind_33 : decode b_X14_behind 33 = .ok (.aload_n 0, 1) := by decide +kernel
theorem d_X14_behind_34 : decode b_X14_behind 34 = .ok (.getfield 288, 3) := by decide +kernel
theorem d_X14_behind_37 : decode b_X14_behind 37 = .ok (.istore_n 3, 1) := by decide +kernel
theorem d_X14_behind_38 : decode b_X14_behind 38 = .ok (.aload_n 0, 1) := by decide +kernel
theorem d_X14_behind_39 : decode b_X14_behind 39 = .ok (.bipush 24, 2) := by decide +kernel
theorem d_X14_behind_41 : decode b_X14_behind 41 = .ok (.invokevirtual 308, 3) := by decide +kernel
theorem d_X14_behind_44 : decode b_X14_behind 44 = .ok (.ifCond .ne 32, 3) := by decide +kernel
theorem d_X14_behind_47 : decode b_X14_behind 47 = .ok (.aload_n 0, 1) := by decide +kernel
theorem d_X14_behind_48 : decode b_X14_behind 48 = .ok (.invokevirtual 383, 3) := by decide +kernel
theorem d_X14_behind_51 : decode b_X14_behind 51 = .ok (.istore 4, 2) := by decide +kernel
theorem d_X14_behind_53 : decode b_X14_behind 53 = .ok (.aload_n 0, 1) := by decide +kernel
theorem d_X14_behind_54 : decode b_X14_behind 54 = .ok (.dup, 1) := by decide +kernel
theorem d_X14_behind_55 : decode b_X14_behind 55 = .ok (.getfield 288, 3) := by decide +kernel
theorem d_X14_behind_58 : decode b_X14_behind 58 = .ok (.iconst 1, 1) := by decide +kernel
theorem d_X14_behind_59 : decode b_X14_behind 59 = .ok (.iadd, 1) := by decide +kernel
theorem d_X14_behind_60 : decode b_X14_behind 60 = .ok (.putfield 288, 3) := by decide +kernel
theorem d_X14_behind_63 : decode b_X14_behind 63 = .ok (.aload_n 0, 1) := by decide +kernel
theorem d_X14_behind_64 : decode b_X14_behind 64 = .ok (.aload_n 2, 1) := by decide +kernel
theorem d_X14_behind_65 : decode b_X14_behind 65 = .ok (.iload 4, 2) := by decide +kernel
theorem d_X14_behind_67 : decode b_X14_behind 67 = .ok (.iconst 1, 1) := by decide +kernel
theorem d_X14_behind_68 : decode b_X14_behind 68 = .ok (.iload_n 3, 1) := by decide +kernel
theorem d_X14_behind_69 : decode b_X14_behind 69 = .ok (.invokevirtual 484, 3) := by decide +kernel
theorem d_X14_behind_72 : decode b_X14_behind 72 = .ok (.astore_n 2, 1) := by decide +kernel
theorem d_X14_behind_73 : decode b_X14_behind 73 = .ok (.goto (-67), 3) := by decide +kernel
theorem d_X14_behind_76 : decode b_X14_behind 76 = .ok (.aload_n 0, 1) := by decide +kernel
theorem d_X14_behind_77 : decode b_X14_behind 77 = .ok (.aload_n 2, 1) := by decide +kernel
theorem d_X14_behind_78 : decode b_X14_behind 78 = .ok (.invokevirtual 398, 3) := by decide +kernel
theorem d_X14_behind_81 : decode b_X14_behind 81 = .ok (.aload_n 0, 1) := by decide +kernel
theorem d_X14_behind_82 : decode b_X14_behind 82 = .ok (.iload_n 1, 1) := by decide +kernel
theorem d_X14_behind_83 : decode b_X14_behind 83 = .ok (.invokevirtual 389, 3) := by decide +kernel
theorem d_X14_behind_86 : decode b_X14_behind 86 = .ok (.istore 4, 2) := by decide +kernel
theorem d_X14_behind_88 : decode b_X14_behind 88 = .ok (.aload_n 0, 1) := by decide +kernel
theorem d_X14_behind_89 : decode b_X14_behind 89 = .ok (.dup, 1) := by decide +kernel
theorem d_X14_behind_90 : decode b_X14_behind 90 = .ok (.getfield 288, 3) := by decide +kernel
theorem d_X14_behind_93 : decode b_X14_behind 93 = .ok (.iconst 1, 1) := by decide +kernel
theorem d_X14_behind_94 : decode b_X14_behind 94 = .ok (.iadd, 1) := by decide +kernel
theorem d_X14_behind_95 : decode b_X14_behind 95 = .ok (.putfield 288, 3) := by decide +kernel
theorem d_X14_behind_98 : decode b_X14_behind 98 = .ok (.aload_n 0, 1) := by decide +kernel
theorem d_X14_behind_99 : decode b_X14_behind 99 = .ok (.iload 4, 2) := by decide +kernel
theorem d_X14_behind_101 : decode b_X14_behind 101 = .ok (.invokevirtual 395, 3) := by decide +kernel
theorem d_X14_behind_104 : decode b_X14_behind 104 = .ok (.astore 5, 2) := by decide +kernel
theorem d_X14_behind_106 : decode b_X14_behind 106 = .ok (.aload_n 0, 1) := by decide +kernel
theorem d_X14_behind_107 : decode b_X14_behind 107 = .ok (.aload 5, 2) := by decide +kernel
theorem d_X14_behind_109 : decode b_X14_behind 109 = .ok (.invokevirtual 398, 3) := by decide +kernel
theorem d_X14_behind_112 : decode b_X14_behind 112 = .ok (.aload_n 0, 1) := by decide +kernel
theorem d_X14_behind_113 : decode b_X14_behind 113 = .ok (.bipush 25, 2) := by decide +kernel
theorem d_X14_behind_115 : decode b_X14_behind 115 = .ok (.invokevirtual 497, 3) := by decide +kernel
theorem d_X14_behind_118 : decode b_X14_behind 118 = .ok (.aload_n 0, 1) := by decide +kernel
theorem d_X14_behind_119 : decode b_X14_behind 119 = .ok (.aload_n 2, 1) := by decide +kernel
theorem d_X14_behind_120 : decode b_X14_behind 120 = .ok (.invokestatic 434, 3) := by decide +kernel
theorem d_X14_behind_123 : decode b_X14_behind 123 = .ok (.ifCond .eq 15, 3) := by decide +kernel
theorem d_X14_behind_126 : decode b_X14_behind 126 = .ok (.aload 5, 2) := by decide +kernel
theorem d_X14_behind_128 : decode b_X14_behind 128 = .ok (.invokestatic 406, 3) := by decide +kernel
theorem d_X14_behind_131 : decode b_X14_behind 131 = .ok (.ifCond .eq 7, 3) := by decide +kernel
theorem d_X14_behind_134 : decode b_X14_behind 134 = .ok (.iconst 1, 1) := by decide +kernel
theorem d_X14_behind_135 : decode b_X14_behind 135 = .ok (.goto 4, 3) := by decide +kernel
theorem d_X14_behind_138 : decode b_X14_behind 138 = .ok (.iconst 0, 1) := by decide +kernel
theorem d_X14_behind_139 : decode b_X14_behind 139 = .ok (.iload_n 3, 1) := by decide +kernel
theorem d_X14_behind_140 : decode b_X14_behind 140 = .ok (.invokevirtual 410, 3) := by decide +kernel
theorem d_X14_behind_143 : decode b_X14_behind 143 = .ok (.aload_n 0, 1) := by decide +kernel
theorem d_X14_behind_144 : decode b_X14_behind 144 = .ok (.aload_n 2, 1) := by decide +kernel
theorem d_X14_behind_145 : decode b_X14_behind 145 = .ok (.invokestatic 434, 3) := by decide +kernel
theorem d_X14_behind_148 : decode b_X14_behind 148 = .ok (.ifCond .eq 12, 3) := by decide +kernel
theorem d_X14_behind_151 : decode b_X14_behind 151 = .ok (.aload_n 2, 1) := by decide +kernel
theorem d_X14_behind_152 : decode b_X14_behind 152 = .ok (.getfield 352, 3) := by decide +kernel
theorem d_X14_behind_155 : decode b_X14_behind 155 = .ok (.iconst 1, 1) := by decide +kernel
theorem d_X14_behind_156 : decode b_X14_behind 156 = .ok (.isub, 1) := by decide +kernel
theorem d_X14_behind_157 : decode b_X14_behind 157 = .ok (.goto 5, 3) := by decide +kernel
theorem d_X14_behind_160 : decode b_X14_behind 160 = .ok (.bipush (-2), 2) := by decide +kernel
theorem d_X14_behind_162 : decode b_X14_behind 162 = .ok (.aload_n 2, 1) := by decide +kernel
theorem d_X14_behind_163 : decode b_X14_behind 163 = .ok (.aload 5, 2) := by decide +kernel
theorem d_X14_behind_165 : decode b_X14_behind 165 = .ok (.iload_n 3, 1) := by decide +kernel
theorem d_X14_behind_166 : decode b_X14_behind 166 = .ok (.invokevirtual 414, 3) := by decide +kernel
theorem d_X14_behind_169 : decode b_X14_behind 169 = .ok (.astore 6, 2) := by decide +kernel
theorem d_X14_behind_171 : decode b_X14_behind 171 = .ok (.aload_n 0, 1) := by decide +kernel
theorem d_X14_behind_172 : decode b_X14_behind 172 = .ok (.bipush 11, 2) := by decide +kernel
theorem d_X14_behind_174 : decode b_X14_behind 174 = .ok (.bipush 36, 2) := by decide +kernel
theorem d_X14_behind_176 : decode b_X14_behind 176 = .ok (.iconst 0, 1) := by decide +kernel
theorem d_X14_behind_177 : decode b_X14_behind 177 = .ok (.invokevirtual 418, 3) := by decide +kernel
theorem d_X14_behind_180 : decode b_X14_behind 180 = .ok (.aload 6, 2) := by decide +kernel
theorem d_X14_behind_182 : decode b_X14_behind 182 = .ok (.iconst 3, 1) := by decide +kernel
theorem d_X14_behind_183 : decode b_X14_behind 183 = .ok (.putfield 361, 3) := by decide +kernel
theorem d_X14_behind_186 : decode b_X14_behind 186 = .ok (.aload 6, 2) := by decide +kernel
theorem d_X14_behind_188 : decode b_X14_behind 188 = .ok (.iload_n 3, 1) := by decide +kernel
theorem d_X14_behind_189 : decode b_X14_behind 189 = .ok (.putfield 367, 3) := by decide +kernel
theorem d_X14_behind_192 : decode b_X14_behind 192 = .ok (.aload 6, 2) := by decide +kernel
theorem d_X14_behind_194 : decode b_X14_behind 194 = .ok (.astore_n 2, 1) := by decide +kernel
theorem d_X14_behind_195 : decode b_X14_behind 195 = .ok (.goto (-189), 3) := by decide +kernel
theorem d_X14_behind_198 : decode b_X14_behind 198 = .ok (.aload_n 2, 1) := by decide +kernel
theorem d_X14_behind_199 : decode b_X14_behind 199 = .ok (.areturn, 1) := by decide +kernel
theorem d_X14_primary_0 : decode b_X14_primary 0 = .ok (.aload_n 0, 1) := by decide +kernel
theorem d_X14_primary_1 : decode b_X14_primary 1 = .ok (.getfield 288, 3) := by decide +kernel
theorem d_X14_primary_4 : decode b_X14_primary 4 = .ok (.istore_n 2, 1) := by decide +kernel
theorem d_X14_primary_5 : decode b_X14_primary 5 = .ok (.aload_n 0, 1) := by decide +kernel
theorem d_X14_primary_6 : decode b_X14_primary 6 = .ok (.getfield 13, 3) := by decide +kernel
theorem d_X14_primary_9 : decode b_X14_primary 9 = .ok (.aload_n 0, 1) := by decide +kernel
theorem d_X14_primary_10 : decode b_X14_primary 10 = .ok (.getfield 288, 3) := by decide +kernel
theorem d_X14_primary_13 : decode b_X14_primary 13 = .ok (.iaload, 1) := by decide +kernel
theorem d_X14_primary_14 : decode b_X14_primary 14 = .ok (.iconst 3, 1) := by decide +kernel
theorem d_X14_primary_15 : decode b_X14_primary 15 = .ok (.if_icmp .ne 62, 3) := by decide +kernel
theorem d_X14_primary_18 : decode b_X14_primary 18 = .ok (.aload_n 0, 1) := by decide +kernel
theorem d_X14_primary_19 : decode b_X14_primary 19 = .ok (.dup, 1) := by decide +kernel
theorem d_X14_primary_20 : decode b_X14_primary 20 = .ok (.getfield 288, 3) := by decide +kernel
theorem d_X14_primary_23 : decode b_X14_primary 23 = .ok (.iconst 1, 1) := by decide +kernel
theorem d_X14_primary_24 : decode b_X14_primary 24 = .ok (.iadd, 1) := by decide +kernel
theorem d_X14_primary_25 : decode b_X14_primary 25 = .ok (.putfield 288, 3) := by decide +kernel
theorem d_X14_primary_28 : decode b_X14_primary 28 = .ok (.aload_n 0, 1) := by decide +kernel
theorem d_X14_primary_29 : decode b_X14_primary 29 = .ok (.iconst 0, 1) := by decide +kernel
theorem d_X14_primary_30 : decode b_X14_primary 30 = .ok (.aload_n 0, 1) := by decide +kernel
theorem d_X14_primary_31 : decode b_X14_primary 31 = .ok (.getfield 26, 3) := by decide +kernel
theorem d_X14_primary_34 : decode b_X14_primary 34 = .ok (.iload_n 2, 1) := by decide +kernel
theorem d_X14_primary_35 : decode b_X14_primary 35 = .ok (.iaload, 1) := by decide +kernel
theorem d_X14_primary_36 : decode b_X14_primary 36 = .ok (.invokevirtual 322, 3) := by decide +kernel
theorem d_X14_primary_39 : decode b_X14_primary 39 = .ok (.new 353, 3) := by decide +kernel
theorem d_X14_primary_42 : decode b_X14_primary 42 = .ok (.dup, 1) := by decide +kernel
theorem d_X14_primary_43 : decode b_X14_primary 43 = .ok (.iconst 0, 1) := by decide +kernel
theorem d_X14_primary_44 : decode b_X14_primary 44 = .ok (.invokespecial 369, 3) := by decide +kernel
theorem d_X14_primary_47 : decode b_X14_primary 47 = .ok (.aload_n 0, 1) := by decide +kernel
theorem d_X14_primary_48 : decode b_X14_primary 48 = .ok (.getfield 26, 3) := by decide +kernel
theorem d_X14_primary_51 : decode b_X14_primary 51 = .ok (.iload_n 2, 1) := by decide +kernel
theorem d_X14_primary_52 : decode b_X14_primary 52 = .ok (.iaload, 1) := by decide +kernel
theorem d_X14_primary_53 : decode b_X14_primary 53 = .ok (.invokevirtual 464, 3) := by decide +kernel
theorem d_X14_primary_56 : decode b_X14_primary 56 = .ok (.astore_n 3, 1) := by decide +kernel
theorem d_X14_primary_57 : decode b_X14_primary 57 = .ok (.aload_n 3, 1) := by decide +kernel
theorem d_X14_primary_58 : decode b_X14_primary 58 = .ok (.aload_n 0, 1) := by decide +kernel
theorem d_X14_primary_59 : decode b_X14_primary 59 = .ok (.getfield 26, 3) := by decide +kernel
theorem d_X14_primary_62 : decode b_X14_primary 62 = .ok (.iload_n 2, 1) := by decide +kernel
theorem d_X14_primary_63 : decode b_X14_primary 63 = .ok (.iaload, 1) := by decide +kernel
theorem d_X14_primary_64 : decode b_X14_primary 64 = .ok (.ifCond .ne 7, 3) := by decide +kernel
theorem d_X14_primary_67 : decode b_X14_primary 67 = .ok (.iconst 1, 1) := by decide +kernel
theorem d_X14_primary_68 : decode b_X14_primary 68 = .ok (.goto 4, 3) := by decide +kernel
theorem d_X14_primary_71 : decode b_X14_primary 71 = .ok (.iconst 0, 1) := by decide +kernel
theorem d_X14_primary_72 : decode b_X14_primary 72 = .ok (.putfield 357, 3) := by decide +kernel
theorem d_X14_primary_75 : decode b_X14_primary 75 = .ok (.aload_n 3, 1) := by decide +kernel
theorem d_X14_primary_76 : decode b_X14_primary 76 = .ok (.areturn, 1) := by decide +kernel
theorem d_X14_primary_77 : decode b_X14_primary 77 = .ok (.aload_n 0, 1) := by decide +kernel
theorem d_X14_primary_78 : decode b_X14_primary 78 = .ok (.getfield 13, 3) := by decide +kernel
theorem d_X14_primary_81 : decode b_X14_primary 81 = .ok (.aload_n 0, 1) := by decide +kernel
theorem d_X14_primary_82 : decode b_X14_primary 82 = .ok (.getfield 288, 3) := by decide +kernel
theorem d_X14_primary_85 : decode b_X14_primary 85 = .ok (.iaload, 1) := by decide +kernel
theorem d_X14_primary_86 : decode b_X14_primary 86 = .ok (.iconst 4, 1) := by decide +kernel
theorem d_X14_primary_87 : decode b_X14_primary 87 = .ok (.if_icmp .ne 19, 3) := by decide +kernel
theorem d_X14_primary_90 : decode b_X14_primary 90 = .ok (.aload_n 0, 1) := by decide +kernel
theorem d_X14_primary_91 : decode b_X14_primary 91 = .ok (.dup, 1) := by decide +kernel
theorem d_X14_primary_92 : decode b_X14_primary 92 = .ok (.getfield 288, 3) := by decide +kernel
theorem d_X14_primary_95 : decode b_X14_primary 95 = .ok (.iconst 1, 1) := by decide +kernel
theorem d_X14_primary_96 : decode b_X14_primary 96 = .ok (.iadd, 1) := by decide +kernel
theorem d_X14_primary_97 : decode b_X14_primary 97 = .ok (.putfield 288, 3) := by decide +kernel
theorem d_X14_primary_100 : decode b_X14_primary 100 = .ok (.aload_n 0, 1) := by decide +kernel
theorem d_X14_primary_101 : decode b_X14_primary 101 = .ok (.iload_n 2, 1) := by decide +kernel
theorem d_X14_primary_102 : decode b_X14_primary 102 = .ok (.invokevirtual 506, 3) := by decide +kernel
theorem d_X14_primary_105 : decode b_X14_primary 105 = .ok (.areturn, 1) := by decide +kernel
theorem d_X14_primary_106 : decode b_X14_primary 106 = .ok (.aload_n 0, 1) := by decide +kernel
theorem d_X14_primary_107 : decode b_X14_primary 107 = .ok (.getfield 13, 3) := by decide +kernel
theorem d_X14_primary_110 : decode b_X14_primary 110 = .ok (.aload_n 0, 1) := by decide +kernel
theorem d_X14_primary_111 : decode b_X14_primary 111 = .ok (.getfield 288, 3) := by decide +kernel
theorem d_X14_primary_114 : decode b_X14_primary 114 = .ok (.iaload, 1) := by decide +kernel
theorem d_X14_primary_115 : decode b_X14_primary 115 = .ok (.iconst 2, 1) := by decide +kernel
theorem d_X14_primary_116 : decode b_X14_primary 116 = .ok (.if_icmp .ne 37, 3) := by decide +kernel
theorem d_X14_primary_119 : decode b_X14_primary 119 = .ok (.aload_n 0, 1) := by decide +kernel
theorem d_X14_primary_120 : decode b_X14_primary 120 = .ok (.dup, 1) := by decide +kernel
theorem d_X14_primary_121 : decode b_X14_primary 121 = .ok (.getfield 288, 3) := by decide +kernel
theorem d_X14_primary_124 : decode b_X14_primary 124 = .ok (.iconst 1, 1) := by decide +kernel
theorem d_X14_primary_125 : decode b_X14_primary 125 = .ok (.iadd, 1) := by decide +kernel
theorem d_X14_primary_126 : decode b_X14_primary 126 = .ok (.putfield 288, 3) := by decide +kernel
theorem d_X14_primary_129 : decode b_X14_primary 129 = .ok (.aload_n 0, 1) := by decide +kernel
theorem d_X14_primary_130 : decode b_X14_primary 130 = .ok (.bipush 20, 2) := by decide +kernel
theorem d_X14_primary_132 : decode b_X14_primary 132 = .ok (.invokevirtual 308, 3) := by decide +kernel
theorem d_X14_primary_135 : decode b_X14_primary 135 = .ok (.ifCond .eq 12, 3) := by decide +kernel
theorem d_X14_primary_138 : decode b_X14_primary 138 = .ok (.aload_n 0, 1) := by decide +kernel
theorem d_X14_primary_139 : decode b_X14_primary 139 = .ok (.iload_n 2, 1) := by decide +kernel
theorem d_X14_primary_140 : decode b_X14_primary 140 = .ok (.iload_n 1, 1) := by decide +kernel
theorem d_X14_primary_141 : decode b_X14_primary 141 = .ok (.invokevirtual 509, 3) := by decide +kernel
theorem d_X14_primary_144 : decode b_X14_primary 144 = .ok (.goto 8, 3) := by decide +kernel
theorem d_X14_primary_147 : decode b_X14_primary 147 = .ok (.aload_n 0, 1) := by decide +kernel
theorem d_X14_primary_148 : decode b_X14_primary 148 = .ok (.iload_n 2, 1) := by decide +kernel
theorem d_X14_primary_149 : decode b_X14_primary 149 = .ok (.invokevirtual 512, 3) := by decide +kernel
theorem d_X14_primary_152 : decode b_X14_primary 152 = .ok (.areturn, 1) := by decide +kernel
theorem d_X14_primary_153 : decode b_X14_primary 153 = .ok (.aload_n 0, 1) := by decide +kernel
theorem d_X14_primary_154 : decode b_X14_primary 154 = .ok (.bipush 20, 2) := by decide +kernel
theorem d_X14_primary_156 : decode b_X14_primary 156 = .ok (.invokevirtual 308, 3) := by decide +kernel
theorem d_X14_primary_159 : decode b_X14_primary 159 = .ok (.ifCond .ne 8, 3) := by decide +kernel
theorem d_X14_primary_162 : decode b_X14_primary 162 = .ok (.aload_n 0, 1) := by decide +kernel
theorem d_X14_primary_163 : decode b_X14_primary 163 = .ok (.invokevirtual 311, 3) := by decide +kernel
theorem d_X14_primary_166 : decode b_X14_primary 166 = .ok (.athrow, 1) := by decide +kernel
theorem d_X14_primary_167 : decode b_X14_primary 167 = .ok (.aload_n 0, 1) := by decide +kernel
theorem d_X14_primary_168 : decode b_X14_primary 168 = .ok (.iload_n 1, 1) := by decide +kernel
theorem d_X14_primary_169 : decode b_X14_primary 169 = .ok (.invokevirtual 389, 3) := by decide +kernel
theorem d_X14_primary_172 : decode b_X14_primary 172 = .ok (.istore_n 3, 1) := by decide +kernel
theorem d_X14_primary_173 : decode b_X14_primary 173 = .ok (.aload_n 0, 1) := by decide +kernel
theorem d_X14_primary_174 : decode b_X14_primary 174 = .ok (.dup, 1) := by decide +kernel
theorem d_X14_primary_175 : decode b_X14_primary 175 = .ok (.getfield 288, 3) := by decide +kernel
theorem d_X14_primary_178 : decode b_X14_primary 178 = .ok (.iconst 1, 1) := by decide +kernel
theorem d_X14_primary_179 : decode b_X14_primary 179 = .ok (.iadd, 1) := by decide +kernel
theorem d_X14_primary_180 : decode b_X14_primary 180 = .ok (.putfield 288, 3) := by decide +kernel
theorem d_X14_primary_183 : decode b_X14_primary 183 = .ok (.aload_n 0, 1) := by decide +kernel
theorem d_X14_primary_184 : decode b_X14_primary 184 = .ok (.iload_n 3, 1) := by decide +kernel
theorem d_X14_primary_185 : decode b_X14_primary 185 = .ok (.invokevirtual 395, 3) := by decide +kernel
theorem d_X14_primary_188 : decode b_X14_primary 188 = .ok (.astore 4, 2) := by decide +kernel
theorem d_X14_primary_190 : decode b_X14_primary 190 = .ok (.aload_n 0, 1) := by decide +kernel
theorem d_X14_primary_191 : decode b_X14_primary 191 = .ok (.bipush 21, 2) := by decide +kernel
theorem d_X14_primary_193 : decode b_X14_primary 193 = .ok (.invokevirtual 497, 3) := by decide +kernel
theorem d_X14_primary_196 : decode b_X14_primary 196 = .ok (.aload 4, 2) := by decide +kernel
theorem d_X14_primary_198 : decode b_X14_primary 198 = .ok (.areturn, 1) := by decide +kernel
theorem d_X14_text_0 : decode b_X14_text 0 = .ok (.aload_n 0, 1) := by decide +kernel
theorem d_X14_text_1 : decode b_X14_text 1 = .ok (.getfield 26, 3) := by decide +kernel
theorem d_X14_text_4 : decode b_X14_text 4 = .ok (.iload_n 1, 1) := by decide +kernel
theorem d_X14_text_5 : decode b_X14_text 5 = .ok (.iaload, 1) := by decide +kernel
theorem d_X14_text_6 : decode b_X14_text 6 = .ok (.iconst 1, 1) := by decide +kernel
theorem d_X14_text_7 : decode b_X14_text 7 = .ok (.iadd, 1) := by decide +kernel
theorem d_X14_text_8 : decode b_X14_text 8 = .ok (.istore_n 2, 1) := by decide +kernel
theorem d_X14_text_9 : decode b_X14_text 9 = .ok (.aload_n 0, 1) := by decide +kernel
theorem d_X14_text_10 : decode b_X14_text 10 = .ok (.getfield 515, 3) := by decide +kernel
theorem d_X14_text_13 : decode b_X14_text 13 = .ok (.iload_n 2, 1) := by decide +kernel
theorem d_X14_text_14 : decode b_X14_text 14 = .ok (.iadd, 1) := by decide +kernel
theorem d_X14_text_15 : decode b_X14_text 15 = .ok (.sipush 16000, 3) := by decide +kernel
theorem d_X14_text_18 : decode b_X14_text 18 = .ok (.if_icmp .le 9, 3) := by decide +kernel
theorem d_X14_text_21 : decode b_X14_text 21 = .ok (.aload_n 0, 1) := by decide +kernel
theorem d_X14_text_22 : decode b_X14_text 22 = .ok (.iconst 4, 1) := by decide +kernel
theorem d_X14_text_23 : decode b_X14_text 23 = .ok (.iload_n 1, 1) := by decide +kernel
theorem d_X14_text_24 : decode b_X14_text 24 = .ok (.invokevirtual 304, 3) := by decide +kernel
theorem d_X14_text_27 : decode b_X14_text 27 = .ok (.aload_n 0, 1) := by decide +kernel
theorem d_X14_text_28 : decode b_X14_text 28 = .ok (.getfield 515, 3) := by decide +kernel
theorem d_X14_text_31 : decode b_X14_text 31 = .ok (.istore_n 3, 1) := by decide +kernel
theorem d_X14_text_32 : decode b_X14_text 32 = .ok (.aload_n 0, 1) := by decide +kernel
theorem d_X14_text_33 : decode b_X14_text 33 = .ok (.getfield 515, 3) := by decide +kernel
theorem d_X14_text_36 : decode b_X14_text 36 = .ok (.iload_n 2, 1) := by decide +kernel
theorem d_X14_text_37 : decode b_X14_text 37 = .ok (.iadd, 1) := by decide +kernel
theorem d_X14_text_38 : decode b_X14_text 38 = .ok (.sipush 16000, 3) := by decide +kernel
theorem d_X14_text_41 : decode b_X14_text 41 = .ok (.if_icmp .gt 19, 3) := by decide +kernel
theorem d_X14_text_44 : decode b_X14_text 44 = .ok (.aload_n 0, 1) := by decide +kernel
theorem d_X14_text_45 : decode b_X14_text 45 = .ok (.iload_n 1, 1) := by decide +kernel
theorem d_X14_text_46 : decode b_X14_text 46 = .ok (.iload_n 3, 1) := by decide +kernel
theorem d_X14_text_47 : decode b_X14_text 47 = .ok (.invokevirtual 518, 3) := by decide +kernel
theorem d_X14_text_50 : decode b_X14_text 50 = .ok (.aload_n 0, 1) := by decide +kernel
theorem d_X14_text_51 : decode b_X14_text 51 = .ok (.dup, 1) := by decide +kernel
theorem d_X14_text_52 : decode b_X14_text 52 = .ok (.getfield 515, 3) := by decide +kernel
theorem d_X14_text_55 : decode b_X14_text 55 = .ok (.iload_n 2, 1) := by decide +kernel
theorem d_X14_text_56 : decode b_X14_text 56 = .ok (.iadd, 1) := by decide +kernel
theorem d_X14_text_57 : decode b_X14_text 57 = .ok (.putfield 515, 3) := by decide +kernel
theorem d_X14_text_60 : decode b_X14_text 60 = .ok (.aload_n 0, 1) := by decide +kernel
theorem d_X14_text_61 : decode b_X14_text 61 = .ok (.iconst 2, 1) := by decide +kernel
theorem d_X14_text_62 : decode b_X14_text 62 = .ok (.iload_n 3, 1) := by decide +kernel
theorem d_X14_text_63 : decode b_X14_text 63 = .ok (.invokevirtual 322, 3) := by decide +kernel
theorem d_X14_text_66 : decode b_X14_text 66 = .ok (.new 353, 3) := by decide +kernel
theorem d_X14_text_69 : decode b_X14_text 69 = .ok (.dup, 1) := by decide +kernel
theorem d_X14_text_70 : decode b_X14_text 70 = .ok (.iconst 1, 1) := by decide +kernel
theorem d_X14_text_71 : decode b_X14_text 71 = .ok (.invokespecial 369, 3) := by decide +kernel
theorem d_X14_text_74 : decode b_X14_text 74 = .ok (.iconst (-1), 1) := by decide +kernel
theorem d_X14_text_75 : decode b_X14_text 75 = .ok (.iload_n 3, 1) := by decide +kernel
theorem d_X14_text_76 : decode b_X14_text 76 = .ok (.isub, 1) := by decide +kernel
theorem d_X14_text_77 : decode b_X14_text 77 = .ok (.iconst 0, 1) := by decide +kernel
theorem d_X14_text_78 : decode b_X14_text 78 = .ok (.invokevirtual 470, 3) := by decide +kernel
theorem d_X14_text_81 : decode b_X14_text 81 = .ok (.areturn, 1) := by decide +kernel
theorem d_X14_codes_0 : decode b_X14_codes 0 = .ok (.aload_n 0, 1) := by decide +kernel
theorem d_X14_codes_1 : decode b_X14_codes 1 = .ok (.getfield 17, 3) := by decide +kernel
theorem d_X14_codes_4 : decode b_X14_codes 4 = .ok (.iload_n 1, 1) := by decide +kernel
theorem d_X14_codes_5 : decode b_X14_codes 5 = .ok (.iaload, 1) := by decide +kernel
theorem d_X14_codes_6 : decode b_X14_codes 6 = .ok (.iconst 1, 1) := by decide +kernel
theorem d_X14_codes_7 : decode b_X14_codes 7 = .ok (.iadd, 1) := by decide +kernel
theorem d_X14_codes_8 : decode b_X14_codes 8 = .ok (.istore_n 3, 1) := by decide +kernel
theorem d_X14_codes_9 : decode b_X14_codes 9 = .ok (.iconst 0, 1) := by decide +kernel
theorem d_X14_codes_10 : decode b_X14_codes 10 = .ok (.istore 4, 2) := by decide +kernel
theorem d_X14_codes_12 : decode b_X14_codes 12 = .ok (.iload 4, 2) := by decide +kernel
theorem d_X14_codes_14 : decode b_X14_codes 14 = .ok (.aload_n 0, 1) := by decide +kernel
theorem d_X14_codes_15 : decode b_X14_codes 15 = .ok (.getfield 26, 3) := by decide +kernel
theorem d_X14_codes_18 : decode b_X14_codes 18 = .ok (.iload_n 1, 1) := by decide +kernel
theorem d_X14_codes_19 : decode b_X14_codes 19 = .ok (.iaload, 1) := by decide +kernel
theorem d_X14_codes_20 : decode b_X14_codes 20 = .ok (.if_icmp .ge 43, 3) := by decide +kernel
theorem d_X14_codes_23 : decode b_X14_codes 23 = .ok (.aload_n 0, 1) := by decide +kernel
theorem d_X14_codes_24 : decode b_X14_codes 24 = .ok (.iload_n 2, 1) := by decide +kernel
theorem d_X14_codes_25 : decode b_X14_codes 25 = .ok (.iload 4, 2) := by decide +kernel
theorem d_X14_codes_27 : decode b_X14_codes 27 = .ok (.iadd, 1) := by decide +kernel
theorem d_X14_codes_28 : decode b_X14_codes 28 = .ok (.aload_n 0, 1) := by decide +kernel
theorem d_X14_codes_29 : decode b_X14_codes 29 = .ok (.iload_n 3, 1) := by decide +kernel
theorem d_X14_codes_30 : decode b_X14_codes 30 = .ok (.bipush 34, 2) := by decide +kernel
theorem d_X14_codes_32 : decode b_X14_codes 32 = .ok (.invokevirtual 283, 3) := by decide +kernel
theorem d_X14_codes_35 : decode b_X14_codes 35 = .ok (.iconst 0, 1) := by decide +kernel
theorem d_X14_codes_36 : decode b_X14_codes 36 = .ok (.invokevirtual 521, 3) := by decide +kernel
