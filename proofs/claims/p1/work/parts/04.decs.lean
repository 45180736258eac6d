theorem d_X12_at_0 : decode b_X12_at 0 = .ok (.iload_n 1, 1) := by decide +kernel
theorem d_X12_at_1 : decode b_X12_at 1 = .ok (.ifCond .lt 15, 3) := by decide +kernel
theorem d_X12_at_4 : decode b_X12_at 4 = .ok (.iload_n 1, 1) := by decide +kernel
theorem d_X12_at_5 : decode b_X12_at 5 = .ok (.aload_n 0, 1) := by decide +kernel
theorem d_X12_at_6 : decode b_X12_at 6 = .ok (.arraylength, 1) := by decide +kernel
theorem d_X12_at_7 : decode b_X12_at 7 = .ok (.if_icmp .ge 9, 3) := by decide +kernel
theorem d_X12_at_10 : decode b_X12_at 10 = .ok (.aload_n 0, 1) := by decide +kernel
theorem d_X12_at_11 : decode b_X12_at 11 = .ok (.iload_n 1, 1) := by decide +kernel
theorem d_X12_at_12 : decode b_X12_at 12 = .ok (.iaload, 1) := by decide +kernel
theorem d_X12_at_13 : decode b_X12_at 13 = .ok (.goto 4, 3) := by decide +kernel
theorem d_X12_at_16 : decode b_X12_at 16 = .ok (.iconst 0, 1) := by decide +kernel
theorem d_X12_at_17 : decode b_X12_at 17 = .ok (.ireturn, 1) := by decide +kernel
theorem d_X12_set_0 : decode b_X12_set 0 = .ok (.iload_n 1, 1) := by decide +kernel
theorem d_X12_set_1 : decode b_X12_set 1 = .ok (.ifCond .lt 13, 3) := by decide +kernel
theorem d_X12_set_4 : decode b_X12_set 4 = .ok (.iload_n 1, 1) := by decide +kernel
theorem d_X12_set_5 : decode b_X12_set 5 = .ok (.aload_n 0, 1) := by decide +kernel
theorem d_X12_set_6 : decode b_X12_set 6 = .ok (.arraylength, 1) := by decide +kernel
theorem d_X12_set_7 : decode b_X12_set 7 = .ok (.if_icmp .ge 7, 3) := by decide +kernel
theorem d_X12_set_10 : decode b_X12_set 10 = .ok (.aload_n 0, 1) := by decide +kernel
theorem d_X12_set_11 : decode b_X12_set 11 = .ok (.iload_n 1, 1) := by decide +kernel
theorem d_X12_set_12 : decode b_X12_set 12 = .ok (.iload_n 2, 1) := by decide +kernel
theorem d_X12_set_13 : decode b_X12_set 13 = .ok (.iastore, 1) := by decide +kernel
theorem d_X12_set_14 : decode b_X12_set 14 = .ok (.return_, 1) := by decide +kernel
theorem d_X12_takeBytes_0 : decode b_X12_takeBytes 0 = .ok (.bipush 24, 2) := by decide +kernel
theorem d_X12_takeBytes_2 : decode b_X12_takeBytes 2 = .ok (.istore_n 2, 1) := by decide +kernel
theorem d_X12_takeBytes_3 : decode b_X12_takeBytes 3 = .ok (.iload_n 2, 1) := by decide +kernel
theorem d_X12_takeBytes_4 : decode b_X12_takeBytes 4 = .ok (.ifCond .lt 44, 3) := by decide +kernel
theorem d_X12_takeBytes_7 : decode b_X12_takeBytes 7 = .ok (.aload_n 0, 1) := by decide +kernel
theorem d_X12_takeBytes_8 : decode b_X12_takeBytes 8 = .ok (.getfield 13, 3) := by decide +kernel
theorem d_X12_takeBytes_11 : decode b_X12_takeBytes 11 = .ok (.aload_n 0, 1) := by decide +kernel
theorem d_X12_takeBytes_12 : decode b_X12_takeBytes 12 = .ok (.getfield 9, 3) := by decide +kernel
theorem d_X12_takeBytes_15 : decode b_X12_takeBytes 15 = .ok (.arraylength, 1) := by decide +kernel
theorem d_X12_takeBytes_16 : decode b_X12_takeBytes 16 = .ok (.if_icmp .ge 32, 3) := by decide +kernel
theorem d_X12_takeBytes_19 : decode b_X12_takeBytes 19 = .ok (.aload_n 0, 1) := by decide +kernel
theorem d_X12_takeBytes_20 : decode b_X12_takeBytes 20 = .ok (.getfield 9, 3) := by decide +kernel
theorem d_X12_takeBytes_23 : decode b_X12_takeBytes 23 = .ok (.aload_n 0, 1) := by decide +kernel
theorem d_X12_takeBytes_24 : decode b_X12_takeBytes 24 = .ok (.getfield 13, 3) := by decide +kernel
theorem d_X12_takeBytes_27 : decode b_X12_takeBytes 27 = .ok (.iload_n 1, 1) := by decide +kernel
theorem d_X12_takeBytes_28 : decode b_X12_takeBytes 28 = .ok (.iload_n 2, 1) := by decide +kernel
theorem d_X12_takeBytes_29 : decode b_X12_takeBytes 29 = .ok (.ishr, 1) := by decide +kernel
theorem d_X12_takeBytes_30 : decode b_X12_takeBytes 30 = .ok (.i2b, 1) := by decide +kernel
theorem d_X12_takeBytes_31 : decode b_X12_takeBytes 31 = .ok (.bastore, 1) := by decide +kernel
theorem d_X12_takeBytes_32 : decode b_X12_takeBytes 32 = .ok (.aload_n 0, 1) := by decide +kernel
theorem d_X12_takeBytes_33 : decode b_X12_takeBytes 33 = .ok (.dup, 1) := by decide +kernel
theorem d_X12_takeBytes_34 : decode b_X12_takeBytes 34 = .ok (.getfield 13, 3) := by decide +kernel
theorem d_X12_takeBytes_37 : decode b_X12_takeBytes 37 = .ok (.iconst 1, 1) := by decide +kernel
theorem d_X12_takeBytes_38 : decode b_X12_takeBytes 38 = .ok (.iadd, 1) := by decide +kernel
theorem d_X12_takeBytes_39 : decode b_X12_takeBytes 39 = .ok (.putfield 13, 3) := by decide +kernel
theorem d_X12_takeBytes_42 : decode b_X12_takeBytes 42 = .ok (.iinc 2 (-8), 3) := by decide +kernel
theorem d_X12_takeBytes_45 : decode b_X12_takeBytes 45 = .ok (.goto (-42), 3) := by decide +kernel
theorem d_X12_takeBytes_48 : decode b_X12_takeBytes 48 = .ok (.return_, 1) := by decide +kernel
theorem d_X12_feed_0 : decode b_X12_feed 0 = .ok (.aload_n 0, 1) := by decide +kernel
theorem d_X12_feed_1 : decode b_X12_feed 1 = .ok (.getfield 13, 3) := by decide +kernel
theorem d_X12_feed_4 : decode b_X12_feed 4 = .ok (.bipush 20, 2) := by decide +kernel
theorem d_X12_feed_6 : decode b_X12_feed 6 = .ok (.iadd, 1) := by decide +kernel
theorem d_X12_feed_7 : decode b_X12_feed 7 = .ok (.sipush 16000, 3) := by decide +kernel
theorem d_X12_feed_10 : decode b_X12_feed 10 = .ok (.if_icmp .gt 15, 3) := by decide +kernel
theorem d_X12_feed_13 : decode b_X12_feed 13 = .ok (.aload_n 0, 1) := by decide +kernel
theorem d_X12_feed_14 : decode b_X12_feed 14 = .ok (.getfield 17, 3) := by decide +kernel
theorem d_X12_feed_17 : decode b_X12_feed 17 = .ok (.bipush 20, 2) := by decide +kernel
theorem d_X12_feed_19 : decode b_X12_feed 19 = .ok (.iadd, 1) := by decide +kernel
theorem d_X12_feed_20 : decode b_X12_feed 20 = .ok (.ldc 118, 2) := by decide +kernel
theorem d_X12_feed_22 : decode b_X12_feed 22 = .ok (.if_icmp .le 5, 3) := by decide +kernel
theorem d_X12_feed_27 : decode b_X12_feed 27 = .ok (.aload_n 0, 1) := by decide +kernel
theorem d_X12_feed_28 : decode b_X12_feed 28 = .ok (.iload_n 1, 1) := by decide +kernel
theorem d_X12_feed_29 : decode b_X12_feed 29 = .ok (.invokevirtual 119, 3) := by decide +kernel
theorem d_X12_feed_32 : decode b_X12_feed 32 = .ok (.aload_n 0, 1) := by decide +kernel
theorem d_X12_feed_33 : decode b_X12_feed 33 = .ok (.iload_n 2, 1) := by decide +kernel
theorem d_X12_feed_34 : decode b_X12_feed 34 = .ok (.invokevirtual 119, 3) := by decide +kernel
theorem d_X12_feed_37 : decode b_X12_feed 37 = .ok (.aload_n 0, 1) := by decide +kernel
theorem d_X12_feed_38 : decode b_X12_feed 38 = .ok (.iload_n 3, 1) := by decide +kernel
theorem d_X12_feed_39 : decode b_X12_feed 39 = .ok (.invokevirtual 119, 3) := by decide +kernel
theorem d_X12_feed_42 : decode b_X12_feed 42 = .ok (.aload_n 0, 1) := by decide +kernel
theorem d_X12_feed_43 : decode b_X12_feed 43 = .ok (.iload 4, 2) := by decide +kernel
theorem d_X12_feed_45 : decode b_X12_feed 45 = .ok (.invokevirtual 119, 3) := by decide +kernel
theorem d_X12_feed_48 : decode b_X12_feed 48 = .ok (.aload_n 0, 1) := by decide +kernel
theorem d_X12_feed_49 : decode b_X12_feed 49 = .ok (.iload 5, 2) := by decide +kernel
theorem d_X12_feed_51 : decode b_X12_feed 51 = .ok (.invokevirtual 119, 3) := by decide +kernel
theorem d_X12_feed_54 : decode b_X12_feed 54 = .ok (.aload_n 0, 1) := by decide +kernel
theorem d_X12_feed_55 : decode b_X12_feed 55 = .ok (.dup, 1) := by decide +kernel
theorem d_X12_feed_56 : decode b_X12_feed 56 = .ok (.getfield 17, 3) := by decide +kernel
theorem d_X12_feed_59 : decode b_X12_feed 59 = .ok (.bipush 20, 2) := by decide +kernel
theorem d_X12_feed_61 : decode b_X12_feed 61 = .ok (.iadd, 1) := by decide +kernel
theorem d_X12_feed_62 : decode b_X12_feed 62 = .ok (.putfield 17, 3) := by decide +kernel
theorem d_X12_feed_65 : decode b_X12_feed 65 = .ok (.aload_n 0, 1) := by decide +kernel
theorem d_X12_feed_66 : decode b_X12_feed 66 = .ok (.getfield 13, 3) := by decide +kernel
theorem d_X12_feed_69 : decode b_X12_feed 69 = .ok (.ireturn, 1) := by decide +kernel
theorem d_X12_end_0 : decode b_X12_end 0 = .ok (.iload_n 1, 1) := by decide +kernel
theorem d_X12_end_1 : decode b_X12_end 1 = .ok (.ifCond .lt 11, 3) := by decide +kernel
theorem d_X12_end_4 : decode b_X12_end 4 = .ok (.iload_n 1, 1) := by decide +kernel
theorem d_X12_end_5 : decode b_X12_end 5 = .ok (.aload_n 0, 1) := by decide +kernel
theorem d_X12_end_6 : decode b_X12_end 6 = .ok (.getfield 13, 3) := by decide +kernel
theorem d_X12_end_9 : decode b_X12_end 9 = .ok (.if_icmp .le 5, 3) := by decide +kernel
theorem d_X12_end_12 : decode b_X12_end 12 = .ok (.iconst (-1), 1) := by decide +kernel
theorem d_X12_end_13 : decode b_X12_end 13 = .ok (.ireturn, 1) := by decide +kernel
theorem d_X12_end_14 : decode b_X12_end 14 = .ok (.aload_n 0, 1) := by decide +kernel
theorem d_X12_end_15 : decode b_X12_end 15 = .ok (.iload_n 1, 1) := by decide +kernel
theorem d_X12_end_16 : decode b_X12_end 16 = .ok (.putfield 13, 3) := by decide +kernel
theorem d_X12_end_19 : decode b_X12_end 19 = .ok (.iload_n 1, 1) := by decide +kernel
theorem d_X12_end_20 : decode b_X12_end 20 = .ok (.ireturn, 1) := by decide +kernel
theorem d_X12_place_0 : decode b_X12_place 0 = .ok (.aload_n 0, 1) := by decide +kernel
theorem d_X12_place_1 : decode b_X12_place 1 = .ok (.getfield 20, 3) := by decide +kernel
theorem d_X12_place_4 : decode b_X12_place 4 = .ok (.ireturn, 1) := by decide +kernel
theorem d_X12_objects_0 : decode b_X12_objects 0 = .ok (.aload_n 0, 1) := by decide +kernel
theorem d_X12_objects_1 : decode b_X12_objects 1 = .ok (.getfield 53, 3) := by decide +kernel
theorem d_X12_objects_4 : decode b_X12_objects 4 = .ok (.getfield 123, 3) := by decide +kernel
theorem d_X12_objects_7 : decode b_X12_objects 7 = .ok (.ireturn, 1) := by decide +kernel
theorem d_X12_result_0 : decode b_X12_result 0 = .ok (.aload_n 0, 1) := by decide +kernel
theorem d_X12_result_1 : decode b_X12_result 1 = .ok (.getfield 114, 3) := by decide +kernel
theorem d_X12_result_4 : decode b_X12_result 4 = .ok (.getfield 211, 3) := by decide +kernel
theorem d_X12_result_7 : decode b_X12_result 7 = .ok (.ireturn, 1) := by decide +kernel
theorem d_X12_turns_0 : decode b_X12_turns 0 = .ok (.aload_n 0, 1) := by decide +kernel
theorem d_X12_turns_1 : decode b_X12_turns 1 = .ok (.getfield 114, 3) := by decide +kernel
theorem d_X12_turns_4 : decode b_X12_turns 4 = .ok (.getfield 214, 3) := by decide +kernel
theorem d_X12_turns_7 : decode b_X12_turns 7 = .ok (.ireturn, 1) := by decide +kernel
theorem d_X12_written_0 : decode b_X12_written 0 = .ok (.aload_n 0, 1) := by decide +kernel
theorem d_X12_written_1 : decode b_X12_written 1 = .ok (.getfield 105, 3) := by decide +kernel
theorem d_X12_written_4 : decode b_X12_written 4 = .ok (.getfield 226, 3) := by decide +kernel
theorem d_X12_written_7 : decode b_X12_written 7 = .ok (.ireturn, 1) := by decide +kernel
theorem d_X12_strays_0 : decode b_X12_strays 0 = .ok (.aload_n 0, 1) := by decide +kernel
theorem d_X12_strays_1 : decode b_X12_strays 1 = .ok (.getfield 114, 3) := by decide +kernel
theorem d_X12_strays_4 : decode b_X12_strays 4 = .ok (.getfield 235, 3) := by decide +kernel
theorem d_X12_strays_7 : decode b_X12_strays 7 = .ok (.ireturn, 1) := by decide +kernel
theorem d_X8_has_0 : decode b_X8_has 0 = .ok (.iload_n 1, 1) := by decide +kernel
theorem d_X8_has_1 : decode b_X8_has 1 = .ok (.iconst 1, 1) := by decide +kernel
theorem d_X8_has_2 : decode b_X8_has 2 = .ok (.if_icmp .lt 15, 3) := by decide +kernel
theorem d_X8_has_5 : decode b_X8_has 5 = .ok (.iload_n 1, 1) := by decide +kernel
theorem d_X8_has_6 : decode b_X8_has 6 = .ok (.aload_n 0, 1) := by decide +kernel
theorem d_X8_has_7 : decode b_X8_has 7 = .ok (.getfield 52, 3) := by decide +kernel
theorem d_X8_has_10 : decode b_X8_has 10 = .ok (.if_icmp .gt 7, 3) := by decide +kernel
theorem d_X8_has_17 : decode b_X8_has 17 = .ok (.iconst 0, 1) := by decide +kernel
theorem d_X8_has_18 : decode b_X8_has 18 = .ok (.ireturn, 1) := by decide +kernel
theorem d_X8_firstOf_0 : decode b_X8_firstOf 0 = .ok (.iload_n 1, 1) := by decide +kernel
theorem d_X8_firstOf_1 : decode b_X8_firstOf 1 = .ok (.ifCond .gt 7, 3) := by decide +kernel
theorem d_X8_firstOf_4 : decode b_X8_firstOf 4 = .ok (.iconst 0, 1) := by decide +kernel
theorem d_X8_firstOf_5 : decode b_X8_firstOf 5 = .ok (.goto 13, 3) := by decide +kernel
theorem d_X8_firstOf_8 : decode b_X8_firstOf 8 = .ok (.aload_n 0, 1) := by decide +kernel
theorem d_X8_firstOf_9 : decode b_X8_firstOf 9 = .ok (.getfield 55, 3) := by decide +kernel
theorem d_X8_firstOf_12 : decode b_X8_firstOf 12 = .ok (.iload_n 1, 1) := by decide +kernel
theorem d_X8_firstOf_13 : decode b_X8_firstOf 13 = .ok (.iconst 1, 1) := by decide +kernel
theorem d_X8_firstOf_14 : decode b_X8_firstOf 14 = .ok (.isub, 1) := by decide +kernel
theorem d_X8_firstOf_15 : decode b_X8_firstOf 15 = .ok (.invokestatic 88, 3) := by decide +kernel
theorem d_X8_firstOf_18 : decode b_X8_firstOf 18 = .ok (.ireturn, 1) := by decide +kernel
theorem d_X8_symbolAt_0 : decode b_X8_symbolAt 0 = .ok (.aload_n 0, 1) := by decide +kernel
theorem d_X8_symbolAt_1 : decode b_X8_symbolAt 1 = .ok (.iload_n 1, 1) := by decide +kernel
theorem d_X8_symbolAt_2 : decode b_X8_symbolAt 2 = .ok (.invokevirtual 99, 3) := by decide +kernel
theorem d_X8_symbolAt_5 : decode b_X8_symbolAt 5 = .ok (.ifCond .eq 11, 3) := by decide +kernel
theorem d_X8_symbolAt_16 : decode b_X8_symbolAt 16 = .ok (.iconst (-1), 1) := by decide +kernel
theorem d_X8_symbolAt_17 : decode b_X8_symbolAt 17 = .ok (.istore_n 3, 1) := by decide +kernel
theorem d_X8_symbolAt_18 : decode b_X8_symbolAt 18 = .ok (.aload_n 0, 1) := by decide +kernel
theorem d_X8_symbolAt_19 : decode b_X8_symbolAt 19 = .ok (.iload_n 1, 1) := by decide +kernel
theorem d_X8_symbolAt_20 : decode b_X8_symbolAt 20 = .ok (.invokevirtual 92, 3) := by decide +kernel
theorem d_X8_symbolAt_23 : decode b_X8_symbolAt 23 = .ok (.istore 4, 2) := by decide +kernel
theorem d_X8_symbolAt_25 : decode b_X8_symbolAt 25 = .ok (.iload_n 3, 1) := by decide +kernel
theorem d_X8_symbolAt_26 : decode b_X8_symbolAt 26 = .ok (.ifCond .lt 42, 3) := by decide +kernel
theorem d_X8_symbolAt_68 : decode b_X8_symbolAt 68 = .ok (.iconst (-1), 1) := by decide +kernel
theorem d_X8_symbolAt_69 : decode b_X8_symbolAt 69 = .ok (.ireturn, 1) := by decide +kernel
theorem d_X8_nameStart_0 : decode b_X8_nameStart 0 = .ok (.aload_n 0, 1) := by decide +kernel
theorem d_X8_nameStart_1 : decode b_X8_nameStart 1 = .ok (.getfield 28, 3) := by decide +kernel
theorem d_X8_nameStart_4 : decode b_X8_nameStart 4 = .ok (.iload_n 1, 1) := by decide +kernel
theorem d_X8_nameStart_5 : decode b_X8_nameStart 5 = .ok (.iconst 1, 1) := by decide +kernel
theorem d_X8_nameStart_6 : decode b_X8_nameStart 6 = .ok (.isub, 1) := by decide +kernel
theorem d_X8_nameStart_7 : decode b_X8_nameStart 7 = .ok (.invokestatic 88, 3) := by decide +kernel
theorem d_X8_nameStart_10 : decode b_X8_nameStart 10 = .ok (.ireturn, 1) := by decide +kernel
theorem d_X8_nameByte_0 : decode b_X8_nameByte 0 = .ok (.iload_n 1, 1) := by decide +kernel
theorem d_X8_nameByte_1 : decode b_X8_nameByte 1 = .ok (.ifCond .ge 7, 3) := by decide +kernel
theorem d_X8_nameByte_4 : decode b_X8_nameByte 4 = .ok (.iconst 0, 1) := by decide +kernel
theorem d_X8_nameByte_5 : decode b_X8_nameByte 5 = .ok (.goto 17, 3) := by decide +kernel
theorem d_X8_nameByte_22 : decode b_X8_nameByte 22 = .ok (.istore_n 3, 1) := by decide +kernel
theorem d_X8_nameByte_23 : decode b_X8_nameByte 23 = .ok (.aload_n 0, 1) := by decide +kernel
theorem d_X8_nameByte_24 : decode b_X8_nameByte 24 = .ok (.iload_n 1, 1) := by decide +kernel
theorem d_X8_nameByte_25 : decode b_X8_nameByte 25 = .ok (.invokevirtual 103, 3) := by decide +kernel
theorem d_X8_nameByte_28 : decode b_X8_nameByte 28 = .ok (.iload_n 2, 1) := by decide +kernel
theorem d_X8_nameByte_29 : decode b_X8_nameByte 29 = .ok (.iadd, 1) := by decide +kernel
theorem d_X8_nameByte_30 : decode b_X8_nameByte 30 = .ok (.istore 4, 2) := by decide +kernel
theorem d_X8_nameByte_32 : decode b_X8_nameByte 32 = .ok (.iload_n 2, 1) := by decide +kernel
theorem d_X8_nameByte_33 : decode b_X8_nameByte 33 = .ok (.ifCond .lt 32, 3) := by decide +kernel
theorem d_X8_nameByte_36 : decode b_X8_nameByte 36 = .ok (.iload_n 2, 1) := by decide +kernel
theorem d_X8_nameByte_37 : decode b_X8_nameByte 37 = .ok (.iload_n 3, 1) := by decide +kernel
theorem d_X8_nameByte_38 : decode b_X8_nameByte 38 = .ok (.if_icmp .ge 27, 3) := by decide +kernel
theorem d_X8_nameByte_65 : decode b_X8_nameByte 65 = .ok (.iconst (-1), 1) := by decide +kernel
theorem d_X8_nameByte_66 : decode b_X8_nameByte 66 = .ok (.ireturn, 1) := by decide +kernel
theorem d_X8_is_0 : decode b_X8_is 0 = .ok (.aload_n 0, 1) := by decide +kernel
theorem d_X8_is_1 : decode b_X8_is 1 = .ok (.getfield 15, 3) := by decide +kernel
theorem d_X8_is_4 : decode b_X8_is 4 = .ok (.iload_n 1, 1) := by decide +kernel
theorem d_X8_is_5 : decode b_X8_is 5 = .ok (.invokestatic 88, 3) := by decide +kernel
theorem d_X8_is_8 : decode b_X8_is 8 = .ok (.iload_n 2, 1) := by decide +kernel
theorem d_X8_is_9 : decode b_X8_is 9 = .ok (.iand, 1) := by decide +kernel
theorem d_X8_is_10 : decode b_X8_is 10 = .ok (.ifCond .eq 7, 3) := by decide +kernel
theorem d_X8_is_13 : decode b_X8_is 13 = .ok (.iconst 1, 1) := by decide +kernel
theorem d_X8_is_14 : decode b_X8_is 14 = .ok (.goto 4, 3) := by decide +kernel
theorem d_X8_is_17 : decode b_X8_is 17 = .ok (.iconst 0, 1) := by decide +kernel
theorem d_X8_is_18 : decode b_X8_is 18 = .ok (.ireturn, 1) := by decide +kernel
theorem d_X8_isNamed_0 : decode b_X8_isNamed 0 = .ok (.aload_n 0, 1) := by decide +kernel
theorem d_X8_isNamed_1 : decode b_X8_isNamed 1 = .ok (.getfield 28, 3) := by decide +kernel
theorem d_X8_isNamed_4 : decode b_X8_isNamed 4 = .ok (.iload_n 1, 1) := by decide +kernel
theorem d_X8_isNamed_5 : decode b_X8_isNamed 5 = .ok (.iconst 1, 1) := by decide +kernel
theorem d_X8_isNamed_6 : decode b_X8_isNamed 6 = .ok (.isub, 1) := by decide +kernel
theorem d_X8_isNamed_7 : decode b_X8_isNamed 7 = .ok (.invokestatic 88, 3) := by decide +kernel
theorem d_X8_isNamed_10 : decode b_X8_isNamed 10 = .ok (.istore 5, 2) := by decide +kernel
theorem d_X8_isNamed_12 : decode b_X8_isNamed 12 = .ok (.aload_n 0, 1) := by decide +kernel
theorem d_X8_isNamed_13 : decode b_X8_isNamed 13 = .ok (.getfield 28, 3) := by decide +kernel
theorem d_X8_isNamed_16 : decode b_X8_isNamed 16 = .ok (.iload_n 1, 1) := by decide +kernel
theorem d_X8_isNamed_17 : decode b_X8_isNamed 17 = .ok (.invokestatic 88, 3) := by decide +kernel
theorem d_X8_isNamed_20 : decode b_X8_isNamed 20 = .ok (.iload 5, 2) := by decide +kernel
theorem d_X8_isNamed_22 : decode b_X8_isNamed 22 = .ok (.isub, 1) := by decide +kernel
theorem d_X8_isNamed_23 : decode b_X8_isNamed 23 = .ok (.iload 4, 2) := by decide +kernel
theorem d_X8_isNamed_25 : decode b_X8_isNamed 25 = .ok (.if_icmp .eq 5, 3) := by decide +kernel
theorem d_X8_isNamed_28 : decode b_X8_isNamed 28 = .ok (.iconst 0, 1) := by decide +kernel
theorem d_X8_isNamed_29 : decode b_X8_isNamed 29 = .ok (.ireturn, 1) := by decide +kernel
theorem d_X8_isNamed_30 : decode b_X8_isNamed 30 = .ok (.iconst 0, 1) := by decide +kernel
theorem d_X8_isNamed_31 : decode b_X8_isNamed 31 = .ok (.istore 6, 2) := by decide +kernel
theorem d_X8_isNamed_33 : decode b_X8_isNamed 33 = .ok (.iload 6, 2) := by decide +kernel
theorem d_X8_isNamed_35 : decode b_X8_isNamed 35 = .ok (.iload 4, 2) := by decide +kernel
theorem d_X8_isNamed_37 : decode b_X8_isNamed 37 = .ok (.if_icmp .ge 56, 3) := by decide +kernel
theorem d_X8_isNamed_40 : decode b_X8_isNamed 40 = .ok (.iload 5, 2) := by decide +kernel
theorem d_X8_isNamed_42 : decode b_X8_isNamed 42 = .ok (.iload 6, 2) := by decide +kernel
theorem d_X8_isNamed_44 : decode b_X8_isNamed 44 = .ok (.iadd, 1) := by decide +kernel
theorem d_X8_isNamed_45 : decode b_X8_isNamed 45 = .ok (.aload_n 0, 1) := by decide +kernel
theorem d_X8_isNamed_46 : decode b_X8_isNamed 46 = .ok (.getfield 35, 3) := by decide +kernel
theorem d_X8_isNamed_49 : decode b_X8_isNamed 49 = .ok (.arraylength, 1) := by decide +kernel
theorem d_X8_isNamed_50 : decode b_X8_isNamed 50 = .ok (.if_icmp .ge 35, 3) := by decide +kernel
theorem d_X8_isNamed_53 : decode b_X8_isNamed 53 = .ok (.iload_n 3, 1) := by decide +kernel
theorem d_X8_isNamed_54 : decode b_X8_isNamed 54 = .ok (.ifCond .lt 31, 3) := by decide +kernel
theorem d_X8_isNamed_57 : decode b_X8_isNamed 57 = .ok (.iload_n 3, 1) := by decide +kernel
theorem d_X8_isNamed_58 : decode b_X8_isNamed 58 = .ok (.iload 6, 2) := by decide +kernel
theorem d_X8_isNamed_60 : decode b_X8_isNamed 60 = .ok (.iadd, 1) := by decide +kernel
theorem d_X8_isNamed_61 : decode b_X8_isNamed 61 = .ok (.aload_n 2, 1) := by decide +kernel
theorem d_X8_isNamed_62 : decode b_X8_isNamed 62 = .ok (.arraylength, 1) := by decide +kernel
theorem d_X8_isNamed_63 : decode b_X8_isNamed 63 = .ok (.if_icmp .ge 22, 3) := by decide +kernel
theorem d_X8_isNamed_66 : decode b_X8_isNamed 66 = .ok (.aload_n 0, 1) := by decide +kernel
theorem d_X8_isNamed_67 : decode b_X8_isNamed 67 = .ok (.getfield 35, 3) := by decide +kernel
theorem d_X8_isNamed_70 : decode b_X8_isNamed 70 = .ok (.iload 5, 2) := by decide +kernel
theorem d_X8_isNamed_72 : decode b_X8_isNamed 72 = .ok (.iload 6, 2) := by decide +kernel
theorem d_X8_isNamed_74 : decode b_X8_isNamed 74 = .ok (.iadd, 1) := by decide +kernel
theorem d_X8_isNamed_75 : decode b_X8_isNamed 75 = .ok (.baload, 1) := by decide +kernel
theorem d_X8_isNamed_76 : decode b_X8_isNamed 76 = .ok (.aload_n 2, 1) := by decide +kernel
theorem d_X8_isNamed_77 : decode b_X8_isNamed 77 = .ok (.iload_n 3, 1) := by decide +kernel
theorem d_X8_isNamed_78 : decode b_X8_isNamed 78 = .ok (.iload 6, 2) := by decide +kernel
theorem d_X8_isNamed_80 : decode b_X8_isNamed 80 = .ok (.iadd, 1) := by decide +kernel
theorem d_X8_isNamed_81 : decode b_X8_isNamed 81 = .ok (.baload, 1) := by decide +kernel
theorem d_X8_isNamed_82 : decode b_X8_isNamed 82 = .ok (.if_icmp .eq 5, 3) := by decide +kernel
theorem d_X8_isNamed_85 : decode b_X8_isNamed 85 = .ok (.iconst 0, 1) := by decide +kernel
theorem d_X8_isNamed_86 : decode b_X8_isNamed 86 = .ok (.ireturn, 1) := by decide +kernel
theorem d_X8_objectAt_0 : decode b_X8_objectAt 0 = .ok (.iconst 1, 1) := by decide +kernel
theorem d_X8_objectAt_1 : decode b_X8_objectAt 1 = .ok (.istore_n 2, 1) := by decide +kernel
theorem d_X8_objectAt_2 : decode b_X8_objectAt 2 = .ok (.iload_n 2, 1) := by decide +kernel
theorem d_X8_objectAt_3 : decode b_X8_objectAt 3 = .ok (.aload_n 0, 1) := by decide +kernel
theorem d_X8_objectAt_4 : decode b_X8_objectAt 4 = .ok (.getfield 52, 3) := by decide +kernel
theorem d_X8_objectAt_7 : decode b_X8_objectAt 7 = .ok (.if_icmp .gt 27, 3) := by decide +kernel
theorem d_X8_objectAt_34 : decode b_X8_objectAt 34 = .ok (.iconst 0, 1) := by decide +kernel
theorem d_X8_objectAt_35 : decode b_X8_objectAt 35 = .ok (.ireturn, 1) := by decide +kernel
theorem d_X4_find_0 : decode b_X4_find 0 = .ok (.iconst 0, 1) := by decide +kernel
theorem d_X4_find_1 : decode b_X4_find 1 = .ok (.istore 6, 2) := by decide +kernel
theorem d_X4_find_3 : decode b_X4_find 3 = .ok (.iload 6, 2) := by decide +kernel
theorem d_X4_find_5 : decode b_X4_find 5 = .ok (.iload_n 2, 1) := by decide +kernel
theorem d_X4_find_6 : decode b_X4_find 6 = .ok (.if_icmp .ge 97, 3) := by decide +kernel
theorem d_X4_find_9 : decode b_X4_find 9 = .ok (.aload_n 1, 1) := by decide +kernel
theorem d_X4_find_10 : decode b_X4_find 10 = .ok (.iload 6, 2) := by decide +kernel
theorem d_X4_find_12 : decode b_X4_find 12 = .ok (.invokestatic 54, 3) := by decide +kernel
theorem d_X4_find_15 : decode b_X4_find 15 = .ok (.istore 7, 2) := by decide +kernel
theorem d_X4_find_17 : decode b_X4_find 17 = .ok (.aload_n 0, 1) := by decide +kernel
theorem d_X4_find_18 : decode b_X4_find 18 = .ok (.getfield 50, 3) := by decide +kernel
theorem d_X4_find_21 : decode b_X4_find 21 = .ok (.iload 7, 2) := by decide +kernel
theorem d_X4_find_23 : decode b_X4_find 23 = .ok (.invokevirtual 93, 3) := by decide +kernel
theorem d_X4_find_26 : decode b_X4_find 26 = .ok (.istore 8, 2) := by decide +kernel
theorem d_X4_find_28 : decode b_X4_find 28 = .ok (.iload 8, 2) := by decide +kernel
theorem d_X4_find_30 : decode b_X4_find 30 = .ok (.aload_n 0, 1) := by decide +kernel
theorem d_X4_find_31 : decode b_X4_find 31 = .ok (.getfield 50, 3) := by decide +kernel
theorem d_X4_find_34 : decode b_X4_find 34 = .ok (.getfield 96, 3) := by decide +kernel
theorem d_X4_find_37 : decode b_X4_find 37 = .ok (.iload 7, 2) := by decide +kernel
theorem d_X4_find_39 : decode b_X4_find 39 = .ok (.invokestatic 54, 3) := by decide +kernel
theorem d_X4_find_42 : decode b_X4_find 42 = .ok (.if_icmp .ge 55, 3) := by decide +kernel
theorem d_X4_find_45 : decode b_X4_find 45 = .ok (.aload_n 0, 1) := by decide +kernel
theorem d_X4_find_46 : decode b_X4_find 46 = .ok (.getfield 50, 3) := by decide +kernel
theorem d_X4_find_49 : decode b_X4_find 49 = .ok (.iload 8, 2) := by decide +kernel
theorem d_X4_find_51 : decode b_X4_find 51 = .ok (.iconst 4, 1) := by decide +kernel
theorem d_X4_find_52 : decode b_X4_find 52 = .ok (.invokevirtual 81, 3) := by decide +kernel
theorem d_X4_find_55 : decode b_X4_find 55 = .ok (.ifCond .eq 36, 3) := by decide +kernel
theorem d_X4_find_58 : decode b_X4_find 58 = .ok (.aload_n 0, 1) := by decide +kernel
theorem d_X4_find_59 : decode b_X4_find 59 = .ok (.getfield 50, 3) := by decide +kernel
theorem d_X4_find_62 : decode b_X4_find 62 = .ok (.iload 8, 2) := by decide +kernel
theorem d_X4_find_64 : decode b_X4_find 64 = .ok (.iconst 2, 1) := by decide +kernel
theorem d_X4_find_65 : decode b_X4_find 65 = .ok (.invokevirtual 81, 3) := by decide +kernel
theorem d_X4_find_68 : decode b_X4_find 68 = .ok (.ifCond .ne 23, 3) := by decide +kernel
theorem d_X4_find_71 : decode b_X4_find 71 = .ok (.aload_n 0, 1) := by decide +kernel
theorem d_X4_find_72 : decode b_X4_find 72 = .ok (.getfield 50, 3) := by decide +kernel
theorem d_X4_find_75 : decode b_X4_find 75 = .ok (.iload 8, 2) := by decide +kernel
theorem d_X4_find_77 : decode b_X4_find 77 = .ok (.aload_n 3, 1) := by decide +kernel
theorem d_X4_find_78 : decode b_X4_find 78 = .ok (.iload 4, 2) := by decide +kernel
theorem d_X4_find_80 : decode b_X4_find 80 = .ok (.iload 5, 2) := by decide +kernel
theorem d_X4_find_82 : decode b_X4_find 82 = .ok (.invokevirtual 119, 3) := by decide +kernel
theorem d_X4_find_85 : decode b_X4_find 85 = .ok (.ifCond .eq 6, 3) := by decide +kernel
theorem d_X4_find_91 : decode b_X4_find 91 = .ok (.iinc 8 1, 3) := by decide +kernel
theorem d_X4_find_94 : decode b_X4_find 94 = .ok (.goto (-66), 3) := by decide +kernel
theorem d_X4_find_97 : decode b_X4_find 97 = .ok (.iinc 6 1, 3) := by decide +kernel
theorem d_X4_find_100 : decode b_X4_find 100 = .ok (.goto (-97), 3) := by decide +kernel
theorem d_X4_find_103 : decode b_X4_find 103 = .ok (.iconst (-1), 1) := by decide +kernel
theorem d_X4_find_104 : decode b_X4_find 104 = .ok (.ireturn, 1) := by decide +kernel
theorem d_X4_look_0 : decode b_X4_look 0 = .ok (.iconst 1, 1) := by decide +kernel
theorem d_X4_look_1 : decode b_X4_look 1 = .ok (.istore_n 2, 1) := by decide +kernel
theorem d_X4_look_2 : decode b_X4_look 2 = .ok (.iload_n 2, 1) := by decide +kernel
theorem d_X4_look_3 : decode b_X4_look 3 = .ok (.aload_n 0, 1) := by decide +kernel
theorem d_X4_look_4 : decode b_X4_look 4 = .ok (.getfield 26, 3) := by decide +kernel
theorem d_X4_look_7 : decode b_X4_look 7 = .ok (.if_icmp .ge 119, 3) := by decide +kernel
theorem d_X4_look_126 : decode b_X4_look 126 = .ok (.iconst 0, 1) := by decide +kernel
theorem d_X4_look_127 : decode b_X4_look 127 = .ok (.ireturn, 1) := by decide +kernel
theorem d_X4_isMain_0 : decode b_X4_isMain 0 = .ok (.iload_n 1, 1) := by decide +kernel
theorem d_X4_isMain_1 : decode b_X4_isMain 1 = .ok (.ifCond .lt 47, 3) := by decide +kernel
theorem d_X4_isMain_48 : decode b_X4_isMain 48 = .ok (.iconst 0, 1) := by decide +kernel
theorem d_X4_isMain_49 : decode b_X4_isMain 49 = .ok (.ireturn, 1) := by decide +kernel
theorem d_X4_join_0 : decode b_X4_join 0 = .ok (.aload_n 0, 1) := by decide +kernel
theorem d_X4_join_1 : decode b_X4_join 1 = .ok (.iconst (-1), 1) := by decide +kernel
theorem d_X4_join_2 : decode b_X4_join 2 = .ok (.putfield 19, 3) := by decide +kernel
theorem d_X4_join_5 : decode b_X4_join 5 = .ok (.aload_n 0, 1) := by decide +kernel
theorem d_X4_join_6 : decode b_X4_join 6 = .ok (.iconst (-1), 1) := by decide +kernel
theorem d_X4_join_7 : decode b_X4_join 7 = .ok (.putfield 23, 3) := by decide +kernel
theorem d_X4_join_10 : decode b_X4_join 10 = .ok (.aload_n 0, 1) := by decide +kernel
theorem d_X4_join_11 : decode b_X4_join 11 = .ok (.aload_n 0, 1) := by decide +kernel
theorem d_X4_join_12 : decode b_X4_join 12 = .ok (.getfield 29, 3) := by decide +kernel
theorem d_X4_join_15 : decode b_X4_join 15 = .ok (.aload_n 0, 1) := by decide +kernel
theorem d_X4_join_16 : decode b_X4_join 16 = .ok (.getfield 26, 3) := by decide +kernel
theorem d_X4_join_19 : decode b_X4_join 19 = .ok (.aload_n 0, 1) := by decide +kernel
theorem d_X4_join_20 : decode b_X4_join 20 = .ok (.getfield 11, 3) := by decide +kernel
theorem d_X4_join_23 : decode b_X4_join 23 = .ok (.iconst 0, 1) := by decide +kernel
theorem d_X4_join_24 : decode b_X4_join 24 = .ok (.iconst 4, 1) := by decide +kernel
theorem d_X4_join_25 : decode b_X4_join 25 = .ok (.invokevirtual 62, 3) := by decide +kernel
theorem d_X4_join_28 : decode b_X4_join 28 = .ok (.istore_n 1, 1) := by decide +kernel
theorem d_X4_join_29 : decode b_X4_join 29 = .ok (.iconst 0, 1) := by decide +kernel
theorem d_X4_join_30 : decode b_X4_join 30 = .ok (.istore_n 2, 1) := by decide +kernel
theorem d_X4_join_31 : decode b_X4_join 31 = .ok (.bipush 31, 2) := by decide +kernel
theorem d_X4_join_33 : decode b_X4_join 33 = .ok (.istore_n 3, 1) := by decide +kernel
theorem d_X4_join_34 : decode b_X4_join 34 = .ok (.iload_n 3, 1) := by decide +kernel
theorem d_X4_join_35 : decode b_X4_join 35 = .ok (.bipush 33, 2) := by decide +kernel
theorem d_X4_join_37 : decode b_X4_join 37 = .ok (.if_icmp .gt 19, 3) := by decide +kernel
theorem d_X4_join_40 : decode b_X4_join 40 = .ok (.iload_n 2, 1) := by decide +kernel
theorem d_X4_join_41 : decode b_X4_join 41 = .ok (.ifCond .ne 15, 3) := by decide +kernel
theorem d_X4_join_44 : decode b_X4_join 44 = .ok (.aload_n 0, 1) := by decide +kernel
theorem d_X4_join_45 : decode b_X4_join 45 = .ok (.iload_n 3, 1) := by decide +kernel
theorem d_X4_join_46 : decode b_X4_join 46 = .ok (.invokevirtual 66, 3) := by decide +kernel
theorem d_X4_join_49 : decode b_X4_join 49 = .ok (.istore_n 2, 1) := by decide +kernel
theorem d_X4_join_50 : decode b_X4_join 50 = .ok (.iinc 3 1, 3) := by decide +kernel
theorem d_X4_join_53 : decode b_X4_join 53 = .ok (.goto (-19), 3) := by decide +kernel
theorem d_X4_join_56 : decode b_X4_join 56 = .ok (.iload_n 2, 1) := by decide +kernel
theorem d_X4_join_57 : decode b_X4_join 57 = .ok (.ifCond .ne 14, 3) := by decide +kernel
theorem d_X4_join_60 : decode b_X4_join 60 = .ok (.aload_n 0, 1) := by decide +kernel
theorem d_X4_join_61 : decode b_X4_join 61 = .ok (.iload_n 1, 1) := by decide +kernel
theorem d_X4_join_62 : decode b_X4_join 62 = .ok (.invokevirtual 70, 3) := by decide +kernel
theorem d_X4_join_65 : decode b_X4_join 65 = .ok (.ifCond .ne 6, 3) := by decide +kernel
theorem d_X4_join_68 : decode b_X4_join 68 = .ok (.bipush 34, 2) := by decide +kernel
theorem d_X4_join_70 : decode b_X4_join 70 = .ok (.istore_n 2, 1) := by decide +kernel
theorem d_X4_join_71 : decode b_X4_join 71 = .ok (.iload_n 2, 1) := by decide +kernel
theorem d_X4_join_72 : decode b_X4_join 72 = .ok (.ifCond .ne 16, 3) := by decide +kernel
theorem d_X4_join_88 : decode b_X4_join 88 = .ok (.iload_n 2, 1) := by decide +kernel
theorem d_X4_join_89 : decode b_X4_join 89 = .ok (.ifCond .ne 24, 3) := by decide +kernel
theorem d_X4_join_113 : decode b_X4_join 113 = .ok (.aload_n 0, 1) := by decide +kernel
theorem d_X4_join_114 : decode b_X4_join 114 = .ok (.iconst 1, 1) := by decide +kernel
theorem d_X4_join_115 : decode b_X4_join 115 = .ok (.putfield 26, 3) := by decide +kernel
theorem d_X4_join_118 : decode b_X4_join 118 = .ok (.iload_n 2, 1) := by decide +kernel
theorem d_X4_join_119 : decode b_X4_join 119 = .ok (.ineg, 1) := by decide +kernel
theorem d_X4_join_120 : decode b_X4_join 120 = .ok (.ireturn, 1) := by decide +kernel
theorem d_X4_cellOf_0 : decode b_X4_cellOf 0 = .ok (.aload_n 0, 1) := by decide +kernel
theorem d_X4_cellOf_1 : decode b_X4_cellOf 1 = .ok (.getfield 15, 3) := by decide +kernel
theorem d_X4_cellOf_4 : decode b_X4_cellOf 4 = .ok (.ifCond .eq 21, 3) := by decide +kernel
theorem d_X4_cellOf_25 : decode b_X4_cellOf 25 = .ok (.iconst (-1), 1) := by decide +kernel
theorem d_X4_cellOf_26 : decode b_X4_cellOf 26 = .ok (.istore_n 3, 1) := by decide +kernel
theorem d_X4_cellOf_27 : decode b_X4_cellOf 27 = .ok (.iload_n 3, 1) := by decide +kernel
theorem d_X4_cellOf_28 : decode b_X4_cellOf 28 = .ok (.ifCond .ge 5, 3) := by decide +kernel
theorem d_X4_cellOf_31 : decode b_X4_cellOf 31 = .ok (.iconst (-1), 1) := by decide +kernel
theorem d_X4_cellOf_32 : decode b_X4_cellOf 32 = .ok (.ireturn, 1) := by decide +kernel
theorem d_X9_give_0 : decode b_X9_give 0 = .ok (.aload_n 0, 1) := by decide +kernel
theorem d_X9_give_1 : decode b_X9_give 1 = .ok (.getfield 7, 3) := by decide +kernel
theorem d_X9_give_4 : decode b_X9_give 4 = .ok (.sipush 4096, 3) := by decide +kernel
theorem d_X9_give_7 : decode b_X9_give 7 = .ok (.if_icmp .ge 15, 3) := by decide +kernel
theorem d_X9_give_10 : decode b_X9_give 10 = .ok (.aload_n 0, 1) := by decide +kernel
theorem d_X9_give_11 : decode b_X9_give 11 = .ok (.getfield 7, 3) := by decide +kernel
theorem d_X9_give_14 : decode b_X9_give 14 = .ok (.aload_n 0, 1) := by decide +kernel
theorem d_X9_give_15 : decode b_X9_give 15 = .ok (.getfield 19, 3) := by decide +kernel
theorem d_X9_give_18 : decode b_X9_give 18 = .ok (.arraylength, 1) := by decide +kernel
theorem d_X9_give_19 : decode b_X9_give 19 = .ok (.if_icmp .lt 5, 3) := by decide +kernel
theorem d_X9_give_24 : decode b_X9_give 24 = .ok (.aload_n 0, 1) := by decide +kernel
theorem d_X9_give_25 : decode b_X9_give 25 = .ok (.getfield 19, 3) := by decide +kernel
theorem d_X9_give_28 : decode b_X9_give 28 = .ok (.aload_n 0, 1) := by decide +kernel
theorem d_X9_give_29 : decode b_X9_give 29 = .ok (.getfield 7, 3) := by decide +kernel
theorem d_X9_give_32 : decode b_X9_give 32 = .ok (.iload_n 1, 1) := by decide +kernel
theorem d_X9_give_33 : decode b_X9_give 33 = .ok (.i2b, 1) := by decide +kernel
theorem d_X9_give_34 : decode b_X9_give 34 = .ok (.bastore, 1) := by decide +kernel
theorem d_X9_give_35 : decode b_X9_give 35 = .ok (.aload_n 0, 1) := by decide +kernel
theorem d_X9_give_36 : decode b_X9_give 36 = .ok (.dup, 1) := by decide +kernel
theorem d_X9_give_37 : decode b_X9_give 37 = .ok (.getfield 7, 3) := by decide +kernel
theorem d_X9_give_40 : decode b_X9_give 40 = .ok (.iconst 1, 1) := by decide +kernel
theorem d_X9_give_41 : decode b_X9_give 41 = .ok (.iadd, 1) := by decide +kernel
theorem d_X9_give_42 : decode b_X9_give 42 = .ok (.putfield 7, 3) := by decide +kernel
theorem d_X9_give_45 : decode b_X9_give 45 = .ok (.aload_n 0, 1) := by decide +kernel
theorem d_X9_give_46 : decode b_X9_give 46 = .ok (.getfield 7, 3) := by decide +kernel
theorem d_X9_give_49 : decode b_X9_give 49 = .ok (.ireturn, 1) := by decide +kernel
theorem d_X9_byteAt_0 : decode b_X9_byteAt 0 = .ok (.iload_n 1, 1) := by decide +kernel
theorem d_X9_byteAt_1 : decode b_X9_byteAt 1 = .ok (.ifCond .lt 33, 3) := by decide +kernel
theorem d_X9_byteAt_4 : decode b_X9_byteAt 4 = .ok (.iload_n 1, 1) := by decide +kernel
theorem d_X9_byteAt_5 : decode b_X9_byteAt 5 = .ok (.aload_n 0, 1) := by decide +kernel
theorem d_X9_byteAt_6 : decode b_X9_byteAt 6 = .ok (.getfield 16, 3) := by decide +kernel
theorem d_X9_byteAt_9 : decode b_X9_byteAt 9 = .ok (.if_icmp .ge 25, 3) := by decide +kernel
theorem d_X9_byteAt_34 : decode b_X9_byteAt 34 = .ok (.iconst (-1), 1) := by decide +kernel
theorem d_X9_byteAt_35 : decode b_X9_byteAt 35 = .ok (.ireturn, 1) := by decide +kernel
theorem d_X12_count_0 : decode b_X12_count 0 = .ok (.aload_n 0, 1) := by decide +kernel
theorem d_X12_count_1 : decode b_X12_count 1 = .ok (.getfield 53, 3) := by decide +kernel
theorem d_X12_count_4 : decode b_X12_count 4 = .ok (.iload_n 1, 1) := by decide +kernel
theorem d_X12_count_5 : decode b_X12_count 5 = .ok (.invokevirtual 163, 3) := by decide +kernel
theorem d_X12_count_8 : decode b_X12_count 8 = .ok (.ifCond .eq 12, 3) := by decide +kernel
theorem d_X12_count_20 : decode b_X12_count 20 = .ok (.iconst (-1), 1) := by decide +kernel
theorem d_X12_count_21 : decode b_X12_count 21 = .ok (.ireturn, 1) := by decide +kernel
theorem d_X12_name_0 : decode b_X12_name 0 = .ok (.aload_n 0, 1) := by decide +kernel
theorem d_X12_name_1 : decode b_X12_name 1 = .ok (.getfield 53, 3) := by decide +kernel
theorem d_X12_name_4 : decode b_X12_name 4 = .ok (.aload_n 0, 1) := by decide +kernel
theorem d_X12_name_5 : decode b_X12_name 5 = .ok (.getfield 53, 3) := by decide +kernel
theorem d_X12_name_8 : decode b_X12_name 8 = .ok (.iload_n 1, 1) := by decide +kernel
theorem d_X12_name_9 : decode b_X12_name 9 = .ok (.iload_n 2, 1) := by decide +kernel
theorem d_X12_name_10 : decode b_X12_name 10 = .ok (.invokevirtual 173, 3) := by decide +kernel
theorem d_X12_name_13 : decode b_X12_name 13 = .ok (.iload_n 3, 1) := by decide +kernel
theorem d_X12_name_14 : decode b_X12_name 14 = .ok (.invokevirtual 177, 3) := by decide +kernel
theorem d_X12_name_17 : decode b_X12_name 17 = .ok (.ireturn, 1) := by decide +kernel
theorem d_X12_symbol_0 : decode b_X12_symbol 0 = .ok (.aload_n 0, 1) := by decide +kernel
theorem d_X12_symbol_1 : decode b_X12_symbol 1 = .ok (.getfield 53, 3) := by decide +kernel
theorem d_X12_symbol_4 : decode b_X12_symbol 4 = .ok (.iload_n 1, 1) := by decide +kernel
theorem d_X12_symbol_5 : decode b_X12_symbol 5 = .ok (.iload_n 2, 1) := by decide +kernel
theorem d_X12_symbol_6 : decode b_X12_symbol 6 = .ok (.invokevirtual 173, 3) := by decide +kernel
theorem d_X12_symbol_9 : decode b_X12_symbol 9 = .ok (.istore_n 3, 1) := by decide +kernel
theorem d_X12_symbol_10 : decode b_X12_symbol 10 = .ok (.iload_n 3, 1) := by decide +kernel
theorem d_X12_symbol_11 : decode b_X12_symbol 11 = .ok (.ifCond .ge 5, 3) := by decide +kernel
theorem d_X12_symbol_14 : decode b_X12_symbol 14 = .ok (.iconst (-1), 1) := by decide +kernel
theorem d_X12_symbol_15 : decode b_X12_symbol 15 = .ok (.ireturn, 1) := by decide +kernel
theorem d_X12_pick_0 : decode b_X12_pick 0 = .ok (.aload_n 0, 1) := by decide +kernel
theorem d_X12_pick_1 : decode b_X12_pick 1 = .ok (.getfield 53, 3) := by decide +kernel
theorem d_X12_pick_4 : decode b_X12_pick 4 = .ok (.iload_n 1, 1) := by decide +kernel
theorem d_X12_pick_5 : decode b_X12_pick 5 = .ok (.invokevirtual 163, 3) := by decide +kernel
theorem d_X12_pick_8 : decode b_X12_pick 8 = .ok (.ifCond .eq 14, 3) := by decide +kernel
theorem d_X12_pick_22 : decode b_X12_pick 22 = .ok (.iconst (-1), 1) := by decide +kernel
theorem d_X12_pick_23 : decode b_X12_pick 23 = .ok (.ireturn, 1) := by decide +kernel
theorem d_X12_link_0 : decode b_X12_link 0 = .ok (.aload_n 0, 1) := by decide +kernel
theorem d_X12_link_1 : decode b_X12_link 1 = .ok (.getfield 98, 3) := by decide +kernel
theorem d_X12_link_4 : decode b_X12_link 4 = .ok (.invokevirtual 187, 3) := by decide +kernel
theorem d_X12_link_7 : decode b_X12_link 7 = .ok (.ireturn, 1) := by decide +kernel
theorem d_X12_fault_0 : decode b_X12_fault 0 = .ok (.iload_n 1, 1) := by decide +kernel
theorem d_X12_fault_1 : decode b_X12_fault 1 = .ok (.ifCond .ne 13, 3) := by decide +kernel
theorem d_X12_fault_4 : decode b_X12_fault 4 = .ok (.aload_n 0, 1) := by decide +kernel
theorem d_X12_fault_5 : decode b_X12_fault 5 = .ok (.getfield 98, 3) := by decide +kernel
theorem d_X12_fault_8 : decode b_X12_fault 8 = .ok (.getfield 191, 3) := by decide +kernel
theorem d_X12_fault_11 : decode b_X12_fault 11 = .ok (.goto 19, 3) := by decide +kernel
theorem d_X12_fault_14 : decode b_X12_fault 14 = .ok (.iload_n 1, 1) := by decide +kernel
theorem d_X12_fault_15 : decode b_X12_fault 15 = .ok (.iconst 1, 1) := by decide +kernel
theorem d_X12_fault_16 : decode b_X12_fault 16 = .ok (.if_icmp .ne 13, 3) := by decide +kernel
theorem d_X12_fault_19 : decode b_X12_fault 19 = .ok (.aload_n 0, 1) := by decide +kernel
theorem d_X12_fault_20 : decode b_X12_fault 20 = .ok (.getfield 98, 3) := by decide +kernel
theorem d_X12_fault_23 : decode b_X12_fault 23 = .ok (.getfield 194, 3) := by decide +kernel
theorem d_X12_fault_26 : decode b_X12_fault 26 = .ok (.goto 4, 3) := by decide +kernel
theorem d_X12_fault_29 : decode b_X12_fault 29 = .ok (.iconst (-1), 1) := by decide +kernel
theorem d_X12_fault_30 : decode b_X12_fault 30 = .ok (.ireturn, 1) := by decide +kernel
theorem d_X12_cell_0 : decode b_X12_cell 0 = .ok (.aload_n 0, 1) := by decide +kernel
theorem d_X12_cell_1 : decode b_X12_cell 1 = .ok (.getfield 13, 3) := by decide +kernel
theorem d_X12_cell_4 : decode b_X12_cell 4 = .ok (.istore_n 1, 1) := by decide +kernel
theorem d_X12_cell_5 : decode b_X12_cell 5 = .ok (.aload_n 0, 1) := by decide +kernel
theorem d_X12_cell_6 : decode b_X12_cell 6 = .ok (.iconst 0, 1) := by decide +kernel
theorem d_X12_cell_7 : decode b_X12_cell 7 = .ok (.putfield 13, 3) := by decide +kernel
theorem d_X12_cell_10 : decode b_X12_cell 10 = .ok (.aload_n 0, 1) := by decide +kernel
theorem d_X12_cell_11 : decode b_X12_cell 11 = .ok (.getfield 98, 3) := by decide +kernel
theorem d_X12_cell_14 : decode b_X12_cell 14 = .ok (.aload_n 0, 1) := by decide +kernel
theorem d_X12_cell_15 : decode b_X12_cell 15 = .ok (.getfield 9, 3) := by decide +kernel
theorem d_X12_cell_18 : decode b_X12_cell 18 = .ok (.iload_n 1, 1) := by decide +kernel
theorem d_X12_cell_19 : decode b_X12_cell 19 = .ok (.invokevirtual 197, 3) := by decide +kernel
theorem d_X12_cell_22 : decode b_X12_cell 22 = .ok (.ireturn, 1) := by decide +kernel
theorem d_X12_input_0 : decode b_X12_input 0 = .ok (.aload_n 0, 1) := by decide +kernel
theorem d_X12_input_1 : decode b_X12_input 1 = .ok (.getfield 105, 3) := by decide +kernel
theorem d_X12_input_4 : decode b_X12_input 4 = .ok (.iload_n 1, 1) := by decide +kernel
theorem d_X12_input_5 : decode b_X12_input 5 = .ok (.invokevirtual 201, 3) := by decide +kernel
theorem d_X12_input_8 : decode b_X12_input 8 = .ok (.ireturn, 1) := by decide +kernel
theorem d_X12_run_0 : decode b_X12_run 0 = .ok (.aload_n 0, 1) := by decide +kernel
theorem d_X12_run_1 : decode b_X12_run 1 = .ok (.getfield 98, 3) := by decide +kernel
theorem d_X12_run_4 : decode b_X12_run 4 = .ok (.getfield 204, 3) := by decide +kernel
theorem d_X12_run_7 : decode b_X12_run 7 = .ok (.ifCond .ne 5, 3) := by decide +kernel
theorem d_X12_run_10 : decode b_X12_run 10 = .ok (.iconst (-1), 1) := by decide +kernel
theorem d_X12_run_11 : decode b_X12_run 11 = .ok (.ireturn, 1) := by decide +kernel
theorem d_X12_trap_0 : decode b_X12_trap 0 = .ok (.iload_n 1, 1) := by decide +kernel
theorem d_X12_trap_1 : decode b_X12_trap 1 = .ok (.ifCond .ne 20, 3) := by decide +kernel
theorem d_X12_trap_4 : decode b_X12_trap 4 = .ok (.aload_n 0, 1) := by decide +kernel
theorem d_X12_trap_5 : decode b_X12_trap 5 = .ok (.getfield 53, 3) := by decide +kernel
theorem d_X12_trap_8 : decode b_X12_trap 8 = .ok (.aload_n 0, 1) := by decide +kernel
theorem d_X12_trap_9 : decode b_X12_trap 9 = .ok (.getfield 114, 3) := by decide +kernel
theorem d_X12_trap_12 : decode b_X12_trap 12 = .ok (.getfield 217, 3) := by decide +kernel
theorem d_X12_trap_15 : decode b_X12_trap 15 = .ok (.invokevirtual 220, 3) := by decide +kernel
theorem d_X12_trap_18 : decode b_X12_trap 18 = .ok (.goto 19, 3) := by decide +kernel
theorem d_X12_trap_21 : decode b_X12_trap 21 = .ok (.iload_n 1, 1) := by decide +kernel
theorem d_X12_trap_22 : decode b_X12_trap 22 = .ok (.iconst 1, 1) := by decide +kernel
theorem d_X12_trap_23 : decode b_X12_trap 23 = .ok (.if_icmp .ne 13, 3) := by decide +kernel
theorem d_X12_trap_26 : decode b_X12_trap 26 = .ok (.aload_n 0, 1) := by decide +kernel
theorem d_X12_trap_27 : decode b_X12_trap 27 = .ok (.getfield 114, 3) := by decide +kernel
theorem d_X12_trap_30 : decode b_X12_trap 30 = .ok (.getfield 223, 3) := by decide +kernel
theorem d_X12_trap_33 : decode b_X12_trap 33 = .ok (.goto 4, 3) := by decide +kernel
theorem d_X12_trap_36 : decode b_X12_trap 36 = .ok (.iconst 0, 1) := by decide +kernel
theorem d_X12_trap_37 : decode b_X12_trap 37 = .ok (.ireturn, 1) := by decide +kernel
theorem d_X12_out_0 : decode b_X12_out 0 = .ok (.aload_n 0, 1) := by decide +kernel
theorem d_X12_out_1 : decode b_X12_out 1 = .ok (.getfield 105, 3) := by decide +kernel
theorem d_X12_out_4 : decode b_X12_out 4 = .ok (.iload_n 1, 1) := by decide +kernel
theorem d_X12_out_5 : decode b_X12_out 5 = .ok (.invokevirtual 229, 3) := by decide +kernel
theorem d_X12_out_8 : decode b_X12_out 8 = .ok (.ireturn, 1) := by decide +kernel
theorem d_X12_peek_0 : decode b_X12_peek 0 = .ok (.aload_n 0, 1) := by decide +kernel
theorem d_X12_peek_1 : decode b_X12_peek 1 = .ok (.getfield 114, 3) := by decide +kernel
theorem d_X12_peek_4 : decode b_X12_peek 4 = .ok (.getfield 232, 3) := by decide +kernel
theorem d_X12_peek_7 : decode b_X12_peek 7 = .ok (.iload_n 1, 1) := by decide +kernel
theorem d_X12_peek_8 : decode b_X12_peek 8 = .ok (.invokestatic 140, 3) := by decide +kernel
theorem d_X12_peek_11 : decode b_X12_peek 11 = .ok (.ireturn, 1) := by decide +kernel
theorem d_X10_byteAt_0 : decode b_X10_byteAt 0 = .ok (.iload_n 1, 1) := by decide +kernel
theorem d_X10_byteAt_1 : decode b_X10_byteAt 1 = .ok (.ifCond .lt 33, 3) := by decide +kernel
theorem d_X10_byteAt_4 : decode b_X10_byteAt 4 = .ok (.iload_n 1, 1) := by decide +kernel
theorem d_X10_byteAt_5 : decode b_X10_byteAt 5 = .ok (.aload_n 0, 1) := by decide +kernel
theorem d_X10_byteAt_6 : decode b_X10_byteAt 6 = .ok (.getfield 31, 3) := by decide +kernel
theorem d_X10_byteAt_9 : decode b_X10_byteAt 9 = .ok (.if_icmp .ge 25, 3) := by decide +kernel
theorem d_X10_byteAt_34 : decode b_X10_byteAt 34 = .ok (.iconst (-1), 1) := by decide +kernel
theorem d_X10_byteAt_35 : decode b_X10_byteAt 35 = .ok (.ireturn, 1) := by decide +kernel
theorem d_X10_skipBlanks_0 : decode b_X10_skipBlanks 0 = .ok (.iconst 0, 1) := by decide +kernel
theorem d_X10_skipBlanks_1 : decode b_X10_skipBlanks 1 = .ok (.istore_n 1, 1) := by decide +kernel
theorem d_X10_skipBlanks_2 : decode b_X10_skipBlanks 2 = .ok (.iload_n 1, 1) := by decide +kernel
theorem d_X10_skipBlanks_3 : decode b_X10_skipBlanks 3 = .ok (.aload_n 0, 1) := by decide +kernel
theorem d_X10_skipBlanks_4 : decode b_X10_skipBlanks 4 = .ok (.getfield 31, 3) := by decide +kernel
theorem d_X10_skipBlanks_7 : decode b_X10_skipBlanks 7 = .ok (.if_icmp .gt 135, 3) := by decide +kernel
theorem d_X10_skipBlanks_10 : decode b_X10_skipBlanks 10 = .ok (.aload_n 0, 1) := by decide +kernel
theorem d_X10_skipBlanks_11 : decode b_X10_skipBlanks 11 = .ok (.aload_n 0, 1) := by decide +kernel
theorem d_X10_skipBlanks_12 : decode b_X10_skipBlanks 12 = .ok (.getfield 35, 3) := by decide +kernel
theorem d_X10_skipBlanks_15 : decode b_X10_skipBlanks 15 = .ok (.invokevirtual 51, 3) := by decide +kernel
theorem d_X10_skipBlanks_18 : decode b_X10_skipBlanks 18 = .ok (.istore_n 2, 1) := by decide +kernel
theorem d_X10_skipBlanks_19 : decode b_X10_skipBlanks 19 = .ok (.iload_n 2, 1) := by decide +kernel
theorem d_X10_skipBlanks_20 : decode b_X10_skipBlanks 20 = .ok (.bipush 47, 2) := by decide +kernel
theorem d_X10_skipBlanks_22 : decode b_X10_skipBlanks 22 = .ok (.if_icmp .ne 16, 3) := by decide +kernel
theorem d_X10_skipBlanks_38 : decode b_X10_skipBlanks 38 = .ok (.iconst (-1), 1) := by decide +kernel
theorem d_X10_skipBlanks_39 : decode b_X10_skipBlanks 39 = .ok (.istore_n 3, 1) := by decide +kernel
theorem d_X10_skipBlanks_40 : decode b_X10_skipBlanks 40 = .ok (.iload_n 3, 1) := by decide +kernel
theorem d_X10_skipBlanks_41 : decode b_X10_skipBlanks 41 = .ok (.bipush 47, 2) := by decide +kernel
theorem d_X10_skipBlanks_43 : decode b_X10_skipBlanks 43 = .ok (.if_icmp .eq 9, 3) := by decide +kernel
theorem d_X10_skipBlanks_46 : decode b_X10_skipBlanks 46 = .ok (.iload_n 3, 1) := by decide +kernel
theorem d_X10_skipBlanks_47 : decode b_X10_skipBlanks 47 = .ok (.bipush 42, 2) := by decide +kernel
theorem d_X10_skipBlanks_49 : decode b_X10_skipBlanks 49 = .ok (.if_icmp .ne 28, 3) := by decide +kernel
theorem d_X10_skipBlanks_77 : decode b_X10_skipBlanks 77 = .ok (.iload_n 2, 1) := by decide +kernel
theorem d_X10_skipBlanks_78 : decode b_X10_skipBlanks 78 = .ok (.bipush 9, 2) := by decide +kernel
theorem d_X10_skipBlanks_80 : decode b_X10_skipBlanks 80 = .ok (.if_icmp .eq 21, 3) := by decide +kernel
theorem d_X10_skipBlanks_83 : decode b_X10_skipBlanks 83 = .ok (.iload_n 2, 1) := by decide +kernel
theorem d_X10_skipBlanks_84 : decode b_X10_skipBlanks 84 = .ok (.bipush 10, 2) := by decide +kernel
theorem d_X10_skipBlanks_86 : decode b_X10_skipBlanks 86 = .ok (.if_icmp .eq 15, 3) := by decide +kernel
theorem d_X10_skipBlanks_89 : decode b_X10_skipBlanks 89 = .ok (.iload_n 2, 1) := by decide +kernel
theorem d_X10_skipBlanks_90 : decode b_X10_skipBlanks 90 = .ok (.bipush 13, 2) := by decide +kernel
theorem d_X10_skipBlanks_92 : decode b_X10_skipBlanks 92 = .ok (.if_icmp .eq 9, 3) := by decide +kernel
theorem d_X10_skipBlanks_95 : decode b_X10_skipBlanks 95 = .ok (.iload_n 2, 1) := by decide +kernel
theorem d_X10_skipBlanks_96 : decode b_X10_skipBlanks 96 = .ok (.bipush 32, 2) := by decide +kernel
theorem d_X10_skipBlanks_98 : decode b_X10_skipBlanks 98 = .ok (.if_icmp .ne 36, 3) := by decide +kernel
theorem d_X10_skipBlanks_134 : decode b_X10_skipBlanks 134 = .ok (.iconst 1, 1) := by decide +kernel
theorem d_X10_skipBlanks_135 : decode b_X10_skipBlanks 135 = .ok (.ireturn, 1) := by decide +kernel
theorem d_X10_add_0 : decode b_X10_add 0 = .ok (.aload_n 0, 1) := by decide +kernel
theorem d_X10_add_1 : decode b_X10_add 1 = .ok (.getfield 41, 3) := by decide +kernel
theorem d_X10_add_4 : decode b_X10_add 4 = .ok (.ifCond .lt 107, 3) := by decide +kernel
theorem d_X10_add_7 : decode b_X10_add 7 = .ok (.aload_n 0, 1) := by decide +kernel
theorem d_X10_add_8 : decode b_X10_add 8 = .ok (.getfield 41, 3) := by decide +kernel
theorem d_X10_add_11 : decode b_X10_add 11 = .ok (.aload_n 0, 1) := by decide +kernel
theorem d_X10_add_12 : decode b_X10_add 12 = .ok (.getfield 9, 3) := by decide +kernel
theorem d_X10_add_15 : decode b_X10_add 15 = .ok (.arraylength, 1) := by decide +kernel
theorem d_X10_add_16 : decode b_X10_add 16 = .ok (.if_icmp .ge 95, 3) := by decide +kernel
theorem d_X10_add_19 : decode b_X10_add 19 = .ok (.aload_n 0, 1) := by decide +kernel
theorem d_X10_add_20 : decode b_X10_add 20 = .ok (.getfield 41, 3) := by decide +kernel
theorem d_X10_add_23 : decode b_X10_add 23 = .ok (.aload_n 0, 1) := by decide +kernel
theorem d_X10_add_24 : decode b_X10_add 24 = .ok (.getfield 15, 3) := by decide +kernel
theorem d_X10_add_27 : decode b_X10_add 27 = .ok (.arraylength, 1) := by decide +kernel
theorem d_X10_add_28 : decode b_X10_add 28 = .ok (.if_icmp .ge 83, 3) := by decide +kernel
theorem d_X10_add_31 : decode b_X10_add 31 = .ok (.aload_n 0, 1) := by decide +kernel
theorem d_X10_add_32 : decode b_X10_add 32 = .ok (.getfield 41, 3) := by decide +kernel
theorem d_X10_add_35 : decode b_X10_add 35 = .ok (.aload_n 0, 1) := by decide +kernel
theorem d_X10_add_36 : decode b_X10_add 36 = .ok (.getfield 18, 3) := by decide +kernel
theorem d_X10_add_39 : decode b_X10_add 39 = .ok (.arraylength, 1) := by decide +kernel
theorem d_X10_add_40 : decode b_X10_add 40 = .ok (.if_icmp .ge 71, 3) := by decide +kernel
theorem d_X10_add_43 : decode b_X10_add 43 = .ok (.aload_n 0, 1) := by decide +kernel
theorem d_X10_add_44 : decode b_X10_add 44 = .ok (.getfield 41, 3) := by decide +kernel
theorem d_X10_add_47 : decode b_X10_add 47 = .ok (.aload_n 0, 1) := by decide +kernel
theorem d_X10_add_48 : decode b_X10_add 48 = .ok (.getfield 21, 3) := by decide +kernel
theorem d_X10_add_51 : decode b_X10_add 51 = .ok (.arraylength, 1) := by decide +kernel
theorem d_X10_add_52 : decode b_X10_add 52 = .ok (.if_icmp .ge 59, 3) := by decide +kernel
theorem d_X10_add_55 : decode b_X10_add 55 = .ok (.aload_n 0, 1) := by decide +kernel
theorem d_X10_add_56 : decode b_X10_add 56 = .ok (.getfield 9, 3) := by decide +kernel
theorem d_X10_add_59 : decode b_X10_add 59 = .ok (.aload_n 0, 1) := by decide +kernel
theorem d_X10_add_60 : decode b_X10_add 60 = .ok (.getfield 41, 3) := by decide +kernel
theorem d_X10_add_63 : decode b_X10_add 63 = .ok (.iload_n 1, 1) := by decide +kernel
theorem d_X10_add_64 : decode b_X10_add 64 = .ok (.iastore, 1) := by decide +kernel
theorem d_X10_add_65 : decode b_X10_add 65 = .ok (.aload_n 0, 1) := by decide +kernel
theorem d_X10_add_66 : decode b_X10_add 66 = .ok (.getfield 15, 3) := by decide +kernel
theorem d_X10_add_69 : decode b_X10_add 69 = .ok (.aload_n 0, 1) := by decide +kernel
theorem d_X10_add_70 : decode b_X10_add 70 = .ok (.getfield 41, 3) := by decide +kernel
theorem d_X10_add_73 : decode b_X10_add 73 = .ok (.iload_n 2, 1) := by decide +kernel
theorem d_X10_add_74 : decode b_X10_add 74 = .ok (.iastore, 1) := by decide +kernel
theorem d_X10_add_75 : decode b_X10_add 75 = .ok (.aload_n 0, 1) := by decide +kernel
theorem d_X10_add_76 : decode b_X10_add 76 = .ok (.getfield 18, 3) := by decide +kernel
theorem d_X10_add_79 : decode b_X10_add 79 = .ok (.aload_n 0, 1) := by decide +kernel
theorem d_X10_add_80 : decode b_X10_add 80 = .ok (.getfield 41, 3) := by decide +kernel
theorem d_X10_add_83 : decode b_X10_add 83 = .ok (.aload_n 0, 1) := by decide +kernel
theorem d_X10_add_84 : decode b_X10_add 84 = .ok (.getfield 35, 3) := by decide +kernel
theorem d_X10_add_87 : decode b_X10_add 87 = .ok (.iastore, 1) := by decide +kernel
theorem d_X10_add_88 : decode b_X10_add 88 = .ok (.aload_n 0, 1) := by decide +kernel
theorem d_X10_add_89 : decode b_X10_add 89 = .ok (.getfield 21, 3) := by decide +kernel
theorem d_X10_add_92 : decode b_X10_add 92 = .ok (.aload_n 0, 1) := by decide +kernel
theorem d_X10_add_93 : decode b_X10_add 93 = .ok (.getfield 41, 3) := by decide +kernel
theorem d_X10_add_96 : decode b_X10_add 96 = .ok (.aload_n 0, 1) := by decide +kernel
theorem d_X10_add_97 : decode b_X10_add 97 = .ok (.getfield 38, 3) := by decide +kernel
theorem d_X10_add_100 : decode b_X10_add 100 = .ok (.iastore, 1) := by decide +kernel
theorem d_X10_add_101 : decode b_X10_add 101 = .ok (.aload_n 0, 1) := by decide +kernel
theorem d_X10_add_102 : decode b_X10_add 102 = .ok (.dup, 1) := by decide +kernel
theorem d_X10_add_103 : decode b_X10_add 103 = .ok (.getfield 41, 3) := by decide +kernel
theorem d_X10_add_106 : decode b_X10_add 106 = .ok (.iconst 1, 1) := by decide +kernel
theorem d_X10_add_107 : decode b_X10_add 107 = .ok (.iadd, 1) := by decide +kernel
theorem d_X10_add_108 : decode b_X10_add 108 = .ok (.putfield 41, 3) := by decide +kernel
theorem d_X10_add_111 : decode b_X10_add 111 = .ok (.aload_n 0, 1) := by decide +kernel
theorem d_X10_add_112 : decode b_X10_add 112 = .ok (.dup, 1) := by decide +kernel
theorem d_X10_add_113 : decode b_X10_add 113 = .ok (.getfield 35, 3) := by decide +kernel
theorem d_X10_add_116 : decode b_X10_add 116 = .ok (.iload_n 3, 1) := by decide +kernel
theorem d_X10_add_117 : decode b_X10_add 117 = .ok (.iadd, 1) := by decide +kernel
theorem d_X10_add_118 : decode b_X10_add 118 = .ok (.putfield 35, 3) := by decide +kernel
theorem d_X10_add_121 : decode b_X10_add 121 = .ok (.iconst 1, 1) := by decide +kernel
theorem d_X10_add_122 : decode b_X10_add 122 = .ok (.ireturn, 1) := by decide +kernel
theorem d_X10_token_0 : decode b_X10_token 0 = .ok (.aload_n 0, 1) := by decide +kernel
theorem d_X10_token_1 : decode b_X10_token 1 = .ok (.aload_n 0, 1) := by decide +kernel
theorem d_X10_token_2 : decode b_X10_token 2 = .ok (.getfield 35, 3) := by decide +kernel
theorem d_X10_token_5 : decode b_X10_token 5 = .ok (.invokevirtual 51, 3) := by decide +kernel
theorem d_X10_token_8 : decode b_X10_token 8 = .ok (.istore_n 1, 1) := by decide +kernel
theorem d_X10_token_9 : decode b_X10_token 9 = .ok (.iload_n 1, 1) := by decide +kernel
theorem d_X10_token_10 : decode b_X10_token 10 = .ok (.ifCond .ge 13, 3) := by decide +kernel
theorem d_X10_token_13 : decode b_X10_token 13 = .ok (.aload_n 0, 1) := by decide +kernel
theorem d_X10_token_14 : decode b_X10_token 14 = .ok (.iconst 0, 1) := by decide +kernel
theorem d_X10_token_15 : decode b_X10_token 15 = .ok (.iconst 0, 1) := by decide +kernel
theorem d_X10_token_16 : decode b_X10_token 16 = .ok (.iconst 0, 1) := by decide +kernel
theorem d_X10_token_17 : decode b_X10_token 17 = .ok (.invokevirtual 68, 3) := by decide +kernel
theorem d_X10_token_20 : decode b_X10_token 20 = .ok (.pop, 1) := by decide +kernel
theorem d_X10_token_21 : decode b_X10_token 21 = .ok (.iconst 0, 1) := by decide +kernel
theorem d_X10_token_22 : decode b_X10_token 22 = .ok (.ireturn, 1) := by decide +kernel
theorem d_X10_scan_0 : decode b_X10_scan 0 = .ok (.aload_n 0, 1) := by decide +kernel
theorem d_X10_scan_1 : decode b_X10_scan 1 = .ok (.iload_n 1, 1) := by decide +kernel
theorem d_X10_scan_2 : decode b_X10_scan 2 = .ok (.putfield 31, 3) := by decide +kernel
theorem d_X10_scan_5 : decode b_X10_scan 5 = .ok (.aload_n 0, 1) := by decide +kernel
theorem d_X10_scan_6 : decode b_X10_scan 6 = .ok (.iconst 0, 1) := by decide +kernel
theorem d_X10_scan_7 : decode b_X10_scan 7 = .ok (.putfield 35, 3) := by decide +kernel
theorem d_X10_scan_10 : decode b_X10_scan 10 = .ok (.aload_n 0, 1) := by decide +kernel
theorem d_X10_scan_11 : decode b_X10_scan 11 = .ok (.iconst 1, 1) := by decide +kernel
theorem d_X10_scan_12 : decode b_X10_scan 12 = .ok (.putfield 38, 3) := by decide +kernel
theorem d_X10_scan_15 : decode b_X10_scan 15 = .ok (.aload_n 0, 1) := by decide +kernel
theorem d_X10_scan_16 : decode b_X10_scan 16 = .ok (.iconst 0, 1) := by decide +kernel
theorem d_X10_scan_17 : decode b_X10_scan 17 = .ok (.putfield 41, 3) := by decide +kernel
theorem d_X10_scan_20 : decode b_X10_scan 20 = .ok (.iconst 1, 1) := by decide +kernel
theorem d_X10_scan_21 : decode b_X10_scan 21 = .ok (.istore_n 2, 1) := by decide +kernel
theorem d_X10_scan_22 : decode b_X10_scan 22 = .ok (.iconst 0, 1) := by decide +kernel
theorem d_X10_scan_23 : decode b_X10_scan 23 = .ok (.istore_n 3, 1) := by decide +kernel
theorem d_X10_scan_24 : decode b_X10_scan 24 = .ok (.iload_n 3, 1) := by decide +kernel
theorem d_X10_scan_25 : decode b_X10_scan 25 = .ok (.aload_n 0, 1) := by decide +kernel
theorem d_X10_scan_26 : decode b_X10_scan 26 = .ok (.getfield 31, 3) := by decide +kernel
theorem d_X10_scan_29 : decode b_X10_scan 29 = .ok (.if_icmp .gt 33, 3) := by decide +kernel
theorem d_X10_scan_32 : decode b_X10_scan 32 = .ok (.iload_n 2, 1) := by decide +kernel
theorem d_X10_scan_33 : decode b_X10_scan 33 = .ok (.ifCond .eq 29, 3) := by decide +kernel
theorem d_X10_scan_36 : decode b_X10_scan 36 = .ok (.aload_n 0, 1) := by decide +kernel
theorem d_X10_scan_37 : decode b_X10_scan 37 = .ok (.invokevirtual 44, 3) := by decide +kernel
theorem d_X10_scan_40 : decode b_X10_scan 40 = .ok (.ifCond .eq 14, 3) := by decide +kernel
theorem d_X10_scan_43 : decode b_X10_scan 43 = .ok (.aload_n 0, 1) := by decide +kernel
theorem d_X10_scan_44 : decode b_X10_scan 44 = .ok (.invokevirtual 48, 3) := by decide +kernel
theorem d_X10_scan_47 : decode b_X10_scan 47 = .ok (.ifCond .eq 7, 3) := by decide +kernel
theorem d_X10_scan_54 : decode b_X10_scan 54 = .ok (.iconst 0, 1) := by decide +kernel
theorem d_X10_scan_55 : decode b_X10_scan 55 = .ok (.istore_n 2, 1) := by decide +kernel
theorem d_X10_scan_56 : decode b_X10_scan 56 = .ok (.iinc 3 1, 3) := by decide +kernel
theorem d_X10_scan_59 : decode b_X10_scan 59 = .ok (.goto (-35), 3) := by decide +kernel
theorem d_X10_scan_62 : decode b_X10_scan 62 = .ok (.return_, 1) := by decide +kernel
theorem d_X3_advance_0 : decode b_X3_advance 0 = .ok (.aload_n 0, 1) := by decide +kernel
theorem d_X3_advance_1 : decode b_X3_advance 1 = .ok (.dup, 1) := by decide +kernel
theorem d_X3_advance_2 : decode b_X3_advance 2 = .ok (.getfield 44, 3) := by decide +kernel
theorem d_X3_advance_5 : decode b_X3_advance 5 = .ok (.iconst 1, 1) := by decide +kernel
theorem d_X3_advance_6 : decode b_X3_advance 6 = .ok (.iadd, 1) := by decide +kernel
theorem d_X3_advance_7 : decode b_X3_advance 7 = .ok (.putfield 44, 3) := by decide +kernel
theorem d_X3_advance_10 : decode b_X3_advance 10 = .ok (.aload_n 0, 1) := by decide +kernel
theorem d_X3_advance_11 : decode b_X3_advance 11 = .ok (.getfield 44, 3) := by decide +kernel
theorem d_X3_advance_14 : decode b_X3_advance 14 = .ok (.ifCond .lt 36, 3) := by decide +kernel
theorem d_X3_advance_17 : decode b_X3_advance 17 = .ok (.aload_n 0, 1) := by decide +kernel
theorem d_X3_advance_18 : decode b_X3_advance 18 = .ok (.getfield 44, 3) := by decide +kernel
theorem d_X3_advance_21 : decode b_X3_advance 21 = .ok (.aload_n 0, 1) := by decide +kernel
theorem d_X3_advance_22 : decode b_X3_advance 22 = .ok (.getfield 30, 3) := by decide +kernel
theorem d_X3_advance_25 : decode b_X3_advance 25 = .ok (.getfield 50, 3) := by decide +kernel
theorem d_X3_advance_28 : decode b_X3_advance 28 = .ok (.if_icmp .ge 22, 3) := by decide +kernel
theorem d_X3_advance_31 : decode b_X3_advance 31 = .ok (.aload_n 0, 1) := by decide +kernel
theorem d_X3_advance_32 : decode b_X3_advance 32 = .ok (.getfield 44, 3) := by decide +kernel
theorem d_X3_advance_35 : decode b_X3_advance 35 = .ok (.aload_n 0, 1) := by decide +kernel
theorem d_X3_advance_36 : decode b_X3_advance 36 = .ok (.getfield 30, 3) := by decide +kernel
theorem d_X3_advance_39 : decode b_X3_advance 39 = .ok (.getfield 79, 3) := by decide +kernel
theorem d_X3_advance_42 : decode b_X3_advance 42 = .ok (.arraylength, 1) := by decide +kernel
theorem d_X3_advance_43 : decode b_X3_advance 43 = .ok (.if_icmp .ge 7, 3) := by decide +kernel
theorem d_X3_advance_46 : decode b_X3_advance 46 = .ok (.iconst 1, 1) := by decide +kernel
theorem d_X3_advance_47 : decode b_X3_advance 47 = .ok (.goto 4, 3) := by decide +kernel
theorem d_X3_advance_51 : decode b_X3_advance 51 = .ok (.istore_n 1, 1) := by decide +kernel
theorem d_X3_advance_52 : decode b_X3_advance 52 = .ok (.aload_n 0, 1) := by decide +kernel
theorem d_X3_advance_53 : decode b_X3_advance 53 = .ok (.iload_n 1, 1) := by decide +kernel
theorem d_X3_advance_54 : decode b_X3_advance 54 = .ok (.ifCond .eq 18, 3) := by decide +kernel
theorem d_X3_advance_57 : decode b_X3_advance 57 = .ok (.aload_n 0, 1) := by decide +kernel
theorem d_X3_advance_58 : decode b_X3_advance 58 = .ok (.getfield 30, 3) := by decide +kernel
theorem d_X3_advance_61 : decode b_X3_advance 61 = .ok (.getfield 79, 3) := by decide +kernel
theorem d_X3_advance_64 : decode b_X3_advance 64 = .ok (.aload_n 0, 1) := by decide +kernel
theorem d_X3_advance_65 : decode b_X3_advance 65 = .ok (.getfield 44, 3) := by decide +kernel
theorem d_X3_advance_68 : decode b_X3_advance 68 = .ok (.iaload, 1) := by decide +kernel
theorem d_X3_advance_69 : decode b_X3_advance 69 = .ok (.goto 4, 3) := by decide +kernel
theorem d_X3_advance_73 : decode b_X3_advance 73 = .ok (.putfield 53, 3) := by decide +kernel
theorem d_X3_advance_76 : decode b_X3_advance 76 = .ok (.return_, 1) := by decide +kernel
theorem d_X3_read_0 : decode b_X3_read 0 = .ok (.aload_n 0, 1) := by decide +kernel
theorem d_X3_read_1 : decode b_X3_read 1 = .ok (.iconst 0, 1) := by decide +kernel
theorem d_X3_read_2 : decode b_X3_read 2 = .ok (.putfield 34, 3) := by decide +kernel
theorem d_X3_read_5 : decode b_X3_read 5 = .ok (.aload_n 0, 1) := by decide +kernel
theorem d_X3_read_6 : decode b_X3_read 6 = .ok (.iconst 0, 1) := by decide +kernel
theorem d_X3_read_7 : decode b_X3_read 7 = .ok (.putfield 38, 3) := by decide +kernel
theorem d_X3_read_10 : decode b_X3_read 10 = .ok (.aload_n 0, 1) := by decide +kernel
theorem d_X3_read_11 : decode b_X3_read 11 = .ok (.iconst (-1), 1) := by decide +kernel
theorem d_X3_read_12 : decode b_X3_read 12 = .ok (.putfield 41, 3) := by decide +kernel
theorem d_X3_read_15 : decode b_X3_read 15 = .ok (.aload_n 0, 1) := by decide +kernel
theorem d_X3_read_16 : decode b_X3_read 16 = .ok (.iconst (-1), 1) := by decide +kernel
theorem d_X3_read_17 : decode b_X3_read 17 = .ok (.putfield 44, 3) := by decide +kernel
theorem d_X3_read_20 : decode b_X3_read 20 = .ok (.aload_n 0, 1) := by decide +kernel
theorem d_X3_read_21 : decode b_X3_read 21 = .ok (.invokevirtual 47, 3) := by decide +kernel
theorem d_X3_read_24 : decode b_X3_read 24 = .ok (.aload_n 0, 1) := by decide +kernel
theorem d_X3_read_25 : decode b_X3_read 25 = .ok (.getfield 30, 3) := by decide +kernel
theorem d_X3_read_28 : decode b_X3_read 28 = .ok (.getfield 50, 3) := by decide +kernel
theorem d_X3_read_31 : decode b_X3_read 31 = .ok (.istore_n 1, 1) := by decide +kernel
theorem d_X3_read_32 : decode b_X3_read 32 = .ok (.iload_n 1, 1) := by decide +kernel
theorem d_X3_read_33 : decode b_X3_read 33 = .ok (.ifCond .le 166, 3) := by decide +kernel
theorem d_X3_read_36 : decode b_X3_read 36 = .ok (.aload_n 0, 1) := by decide +kernel
theorem d_X3_read_37 : decode b_X3_read 37 = .ok (.getfield 41, 3) := by decide +kernel
theorem d_X3_read_40 : decode b_X3_read 40 = .ok (.ifCond .ge 159, 3) := by decide +kernel
theorem d_X3_read_43 : decode b_X3_read 43 = .ok (.aload_n 0, 1) := by decide +kernel
theorem d_X3_read_44 : decode b_X3_read 44 = .ok (.getfield 53, 3) := by decide +kernel
theorem d_X3_read_47 : decode b_X3_read 47 = .ok (.ifCond .eq 152, 3) := by decide +kernel
theorem d_X3_read_199 : decode b_X3_read 199 = .ok (.aload_n 0, 1) := by decide +kernel
theorem d_X3_read_200 : decode b_X3_read 200 = .ok (.getfield 41, 3) := by decide +kernel
theorem d_X3_read_203 : decode b_X3_read 203 = .ok (.ifCond .ge 7, 3) := by decide +kernel
theorem d_X3_read_206 : decode b_X3_read 206 = .ok (.iconst 1, 1) := by decide +kernel
theorem d_X3_read_207 : decode b_X3_read 207 = .ok (.goto 4, 3) := by decide +kernel
theorem d_X3_read_211 : decode b_X3_read 211 = .ok (.ireturn, 1) := by decide +kernel
theorem d_X11_leave_0 : decode b_X11_leave 0 = .ok (.aload_n 0, 1) := by decide +kernel
theorem d_X11_leave_1 : decode b_X11_leave 1 = .ok (.iconst (-1), 1) := by decide +kernel
theorem d_X11_leave_2 : decode b_X11_leave 2 = .ok (.putfield 63, 3) := by decide +kernel
theorem d_X11_leave_5 : decode b_X11_leave 5 = .ok (.aload_n 0, 1) := by decide +kernel
theorem d_X11_leave_6 : decode b_X11_leave 6 = .ok (.iconst 0, 1) := by decide +kernel
theorem d_X11_leave_7 : decode b_X11_leave 7 = .ok (.putfield 69, 3) := by decide +kernel
theorem d_X11_leave_10 : decode b_X11_leave 10 = .ok (.aload_n 0, 1) := by decide +kernel
theorem d_X11_leave_11 : decode b_X11_leave 11 = .ok (.iconst 0, 1) := by decide +kernel
theorem d_X11_leave_12 : decode b_X11_leave 12 = .ok (.putfield 72, 3) := by decide +kernel
theorem d_X11_leave_15 : decode b_X11_leave 15 = .ok (.aload_n 0, 1) := by decide +kernel
theorem d_X11_leave_16 : decode b_X11_leave 16 = .ok (.iconst 0, 1) := by decide +kernel
theorem d_X11_leave_17 : decode b_X11_leave 17 = .ok (.putfield 75, 3) := by decide +kernel
theorem d_X11_leave_20 : decode b_X11_leave 20 = .ok (.return_, 1) := by decide +kernel
theorem d_X11_begin_0 : decode b_X11_begin 0 = .ok (.aload_n 0, 1) := by decide +kernel
theorem d_X11_begin_1 : decode b_X11_begin 1 = .ok (.iload_n 1, 1) := by decide +kernel
theorem d_X11_begin_2 : decode b_X11_begin 2 = .ok (.putfield 44, 3) := by decide +kernel
theorem d_X11_begin_5 : decode b_X11_begin 5 = .ok (.aload_n 0, 1) := by decide +kernel
theorem d_X11_begin_6 : decode b_X11_begin 6 = .ok (.iconst 0, 1) := by decide +kernel
theorem d_X11_begin_7 : decode b_X11_begin 7 = .ok (.putfield 48, 3) := by decide +kernel
theorem d_X11_begin_10 : decode b_X11_begin 10 = .ok (.aload_n 0, 1) := by decide +kernel
theorem d_X11_begin_11 : decode b_X11_begin 11 = .ok (.iconst (-1), 1) := by decide +kernel
theorem d_X11_begin_12 : decode b_X11_begin 12 = .ok (.putfield 51, 3) := by decide +kernel
theorem d_X11_begin_15 : decode b_X11_begin 15 = .ok (.aload_n 0, 1) := by decide +kernel
theorem d_X11_begin_16 : decode b_X11_begin 16 = .ok (.iconst 0, 1) := by decide +kernel
theorem d_X11_begin_17 : decode b_X11_begin 17 = .ok (.putfield 54, 3) := by decide +kernel
theorem d_X11_begin_20 : decode b_X11_begin 20 = .ok (.aload_n 0, 1) := by decide +kernel
theorem d_X11_begin_21 : decode b_X11_begin 21 = .ok (.iconst 0, 1) := by decide +kernel
theorem d_X11_begin_22 : decode b_X11_begin 22 = .ok (.putfield 57, 3) := by decide +kernel
theorem d_X11_begin_25 : decode b_X11_begin 25 = .ok (.aload_n 0, 1) := by decide +kernel
theorem d_X11_begin_26 : decode b_X11_begin 26 = .ok (.invokevirtual 60, 3) := by decide +kernel
theorem d_X11_begin_29 : decode b_X11_begin 29 = .ok (.return_, 1) := by decide +kernel
theorem d_X1_begin_0 : decode b_X1_begin 0 = .ok (.aload_n 0, 1) := by decide +kernel
theorem d_X1_begin_1 : decode b_X1_begin 1 = .ok (.iconst (-1), 1) := by decide +kernel
theorem d_X1_begin_2 : decode b_X1_begin 2 = .ok (.putfield 46, 3) := by decide +kernel
theorem d_X1_begin_5 : decode b_X1_begin 5 = .ok (.aload_n 0, 1) := by decide +kernel
theorem d_X1_begin_6 : decode b_X1_begin 6 = .ok (.iconst 0, 1) := by decide +kernel
theorem d_X1_begin_7 : decode b_X1_begin 7 = .ok (.putfield 50, 3) := by decide +kernel
theorem d_X1_begin_10 : decode b_X1_begin 10 = .ok (.return_, 1) := by decide +kernel
theorem d_X11_finish_0 : decode b_X11_finish 0 = .ok (.iconst (-1), 1) := by decide +kernel
theorem d_X11_finish_1 : decode b_X11_finish 1 = .ok (.istore_n 1, 1) := by decide +kernel
theorem d_X11_finish_2 : decode b_X11_finish 2 = .ok (.iconst 0, 1) := by decide +kernel
theorem d_X11_finish_3 : decode b_X11_finish 3 = .ok (.istore_n 2, 1) := by decide +kernel
theorem d_X11_finish_4 : decode b_X11_finish 4 = .ok (.iload_n 2, 1) := by decide +kernel
theorem d_X11_finish_5 : decode b_X11_finish 5 = .ok (.aload_n 0, 1) := by decide +kernel
theorem d_X11_finish_6 : decode b_X11_finish 6 = .ok (.getfield 57, 3) := by decide +kernel
theorem d_X11_finish_9 : decode b_X11_finish 9 = .ok (.if_icmp .ge 88, 3) := by decide +kernel
theorem d_X11_finish_97 : decode b_X11_finish 97 = .ok (.iload_n 1, 1) := by decide +kernel
theorem d_X11_finish_98 : decode b_X11_finish 98 = .ok (.ifCond .lt 9, 3) := by decide +kernel
theorem d_X11_finish_107 : decode b_X11_finish 107 = .ok (.return_, 1) := by decide +kernel
theorem d_X7_walk_0 : decode b_X7_walk 0 = .ok (.aload_n 0, 1) := by decide +kernel
theorem d_X7_walk_1 : decode b_X7_walk 1 = .ok (.getfield 34, 3) := by decide +kernel
theorem d_X7_walk_4 : decode b_X7_walk 4 = .ok (.iload_n 1, 1) := by decide +kernel
theorem d_X7_walk_5 : decode b_X7_walk 5 = .ok (.invokevirtual 54, 3) := by decide +kernel
theorem d_X7_walk_8 : decode b_X7_walk 8 = .ok (.aload_n 0, 1) := by decide +kernel
theorem d_X7_walk_9 : decode b_X7_walk 9 = .ok (.getfield 50, 3) := by decide +kernel
theorem d_X7_walk_12 : decode b_X7_walk 12 = .ok (.invokevirtual 60, 3) := by decide +kernel
theorem d_X7_walk_15 : decode b_X7_walk 15 = .ok (.aload_n 0, 1) := by decide +kernel
theorem d_X7_walk_16 : decode b_X7_walk 16 = .ok (.getfield 49, 3) := by decide +kernel
theorem d_X7_walk_19 : decode b_X7_walk 19 = .ok (.iconst 0, 1) := by decide +kernel
theorem d_X7_walk_20 : decode b_X7_walk 20 = .ok (.putfield 62, 3) := by decide +kernel
theorem d_X7_walk_23 : decode b_X7_walk 23 = .ok (.aload_n 0, 1) := by decide +kernel
theorem d_X7_walk_24 : decode b_X7_walk 24 = .ok (.iconst 0, 1) := by decide +kernel
theorem d_X7_walk_25 : decode b_X7_walk 25 = .ok (.putfield 68, 3) := by decide +kernel
theorem d_X7_walk_28 : decode b_X7_walk 28 = .ok (.iconst 0, 1) := by decide +kernel
theorem d_X7_walk_29 : decode b_X7_walk 29 = .ok (.istore_n 2, 1) := by decide +kernel
theorem d_X7_walk_30 : decode b_X7_walk 30 = .ok (.aload_n 0, 1) := by decide +kernel
theorem d_X7_walk_31 : decode b_X7_walk 31 = .ok (.getfield 30, 3) := by decide +kernel
theorem d_X7_walk_34 : decode b_X7_walk 34 = .ok (.getfield 71, 3) := by decide +kernel
theorem d_X7_walk_37 : decode b_X7_walk 37 = .ok (.istore_n 3, 1) := by decide +kernel
theorem d_X7_walk_38 : decode b_X7_walk 38 = .ok (.iload_n 3, 1) := by decide +kernel
theorem d_X7_walk_39 : decode b_X7_walk 39 = .ok (.ifCond .le 137, 3) := by decide +kernel
theorem d_X7_walk_176 : decode b_X7_walk 176 = .ok (.aload_n 0, 1) := by decide +kernel
theorem d_X7_walk_177 : decode b_X7_walk 177 = .ok (.getfield 34, 3) := by decide +kernel
theorem d_X7_walk_180 : decode b_X7_walk 180 = .ok (.invokevirtual 106, 3) := by decide +kernel
theorem d_X7_walk_183 : decode b_X7_walk 183 = .ok (.return_, 1) := by decide +kernel
theorem d_X8_keep_0 : decode b_X8_keep 0 = .ok (.aload_n 0, 1) := by decide +kernel
theorem d_X8_keep_1 : decode b_X8_keep 1 = .ok (.dup, 1) := by decide +kernel
theorem d_X8_keep_2 : decode b_X8_keep 2 = .ok (.getfield 52, 3) := by decide +kernel
theorem d_X8_keep_5 : decode b_X8_keep 5 = .ok (.iconst 1, 1) := by decide +kernel
theorem d_X8_keep_6 : decode b_X8_keep 6 = .ok (.iadd, 1) := by decide +kernel
theorem d_X8_keep_7 : decode b_X8_keep 7 = .ok (.putfield 52, 3) := by decide +kernel
theorem d_X8_keep_10 : decode b_X8_keep 10 = .ok (.aload_n 0, 1) := by decide +kernel
theorem d_X8_keep_11 : decode b_X8_keep 11 = .ok (.getfield 55, 3) := by decide +kernel
theorem d_X8_keep_14 : decode b_X8_keep 14 = .ok (.aload_n 0, 1) := by decide +kernel
theorem d_X8_keep_15 : decode b_X8_keep 15 = .ok (.getfield 52, 3) := by decide +kernel
theorem d_X8_keep_18 : decode b_X8_keep 18 = .ok (.aload_n 0, 1) := by decide +kernel
theorem d_X8_keep_19 : decode b_X8_keep 19 = .ok (.getfield 9, 3) := by decide +kernel
theorem d_X8_keep_22 : decode b_X8_keep 22 = .ok (.invokestatic 112, 3) := by decide +kernel
theorem d_X8_keep_25 : decode b_X8_keep 25 = .ok (.aload_n 0, 1) := by decide +kernel
theorem d_X8_keep_26 : decode b_X8_keep 26 = .ok (.getfield 58, 3) := by decide +kernel
theorem d_X8_keep_29 : decode b_X8_keep 29 = .ok (.aload_n 0, 1) := by decide +kernel
theorem d_X8_keep_30 : decode b_X8_keep 30 = .ok (.getfield 52, 3) := by decide +kernel
theorem d_X8_keep_33 : decode b_X8_keep 33 = .ok (.aload_n 0, 1) := by decide +kernel
theorem d_X8_keep_34 : decode b_X8_keep 34 = .ok (.getfield 39, 3) := by decide +kernel
theorem d_X8_keep_37 : decode b_X8_keep 37 = .ok (.invokestatic 112, 3) := by decide +kernel
theorem d_X8_keep_40 : decode b_X8_keep 40 = .ok (.aload_n 0, 1) := by decide +kernel
theorem d_X8_keep_41 : decode b_X8_keep 41 = .ok (.getfield 61, 3) := by decide +kernel
theorem d_X8_keep_44 : decode b_X8_keep 44 = .ok (.aload_n 0, 1) := by decide +kernel
theorem d_X8_keep_45 : decode b_X8_keep 45 = .ok (.getfield 52, 3) := by decide +kernel
theorem d_X8_keep_48 : decode b_X8_keep 48 = .ok (.aload_n 0, 1) := by decide +kernel
theorem d_X8_keep_49 : decode b_X8_keep 49 = .ok (.getfield 67, 3) := by decide +kernel
theorem d_X8_keep_52 : decode b_X8_keep 52 = .ok (.getfield 122, 3) := by decide +kernel
theorem d_X8_keep_55 : decode b_X8_keep 55 = .ok (.invokestatic 112, 3) := by decide +kernel
theorem d_X8_keep_58 : decode b_X8_keep 58 = .ok (.aload_n 0, 1) := by decide +kernel
theorem d_X8_keep_59 : decode b_X8_keep 59 = .ok (.getfield 64, 3) := by decide +kernel
theorem d_X8_keep_62 : decode b_X8_keep 62 = .ok (.aload_n 0, 1) := by decide +kernel
theorem d_X8_keep_63 : decode b_X8_keep 63 = .ok (.getfield 52, 3) := by decide +kernel
theorem d_X8_keep_66 : decode b_X8_keep 66 = .ok (.iload_n 1, 1) := by decide +kernel
theorem d_X8_keep_67 : decode b_X8_keep 67 = .ok (.invokestatic 112, 3) := by decide +kernel
theorem d_X8_keep_70 : decode b_X8_keep 70 = .ok (.aload_n 0, 1) := by decide +kernel
theorem d_X8_keep_71 : decode b_X8_keep 71 = .ok (.getfield 52, 3) := by decide +kernel
theorem d_X8_keep_74 : decode b_X8_keep 74 = .ok (.ireturn, 1) := by decide +kernel
theorem d_X12_compile_0 : decode b_X12_compile 0 = .ok (.aload_n 0, 1) := by decide +kernel
theorem d_X12_compile_1 : decode b_X12_compile 1 = .ok (.getfield 13, 3) := by decide +kernel
theorem d_X12_compile_4 : decode b_X12_compile 4 = .ok (.istore_n 2, 1) := by decide +kernel
theorem d_X12_compile_5 : decode b_X12_compile 5 = .ok (.aload_n 0, 1) := by decide +kernel
theorem d_X12_compile_6 : decode b_X12_compile 6 = .ok (.iconst 0, 1) := by decide +kernel
theorem d_X12_compile_7 : decode b_X12_compile 7 = .ok (.putfield 13, 3) := by decide +kernel
theorem d_X12_compile_10 : decode b_X12_compile 10 = .ok (.aload_n 0, 1) := by decide +kernel
theorem d_X12_compile_11 : decode b_X12_compile 11 = .ok (.iconst (-1), 1) := by decide +kernel
theorem d_X12_compile_12 : decode b_X12_compile 12 = .ok (.putfield 20, 3) := by decide +kernel
theorem d_X12_compile_15 : decode b_X12_compile 15 = .ok (.iload_n 1, 1) := by decide +kernel
theorem d_X12_compile_16 : decode b_X12_compile 16 = .ok (.ifCond .lt 20, 3) := by decide +kernel
theorem d_X12_compile_19 : decode b_X12_compile 19 = .ok (.iload_n 1, 1) := by decide +kernel
theorem d_X12_compile_20 : decode b_X12_compile 20 = .ok (.iconst 3, 1) := by decide +kernel
theorem d_X12_compile_21 : decode b_X12_compile 21 = .ok (.if_icmp .gt 15, 3) := by decide +kernel
theorem d_X12_compile_24 : decode b_X12_compile 24 = .ok (.aload_n 0, 1) := by decide +kernel
theorem d_X12_compile_25 : decode b_X12_compile 25 = .ok (.getfield 53, 3) := by decide +kernel
theorem d_X12_compile_28 : decode b_X12_compile 28 = .ok (.getfield 123, 3) := by decide +kernel
theorem d_X12_compile_31 : decode b_X12_compile 31 = .ok (.bipush 100, 2) := by decide +kernel
theorem d_X12_compile_33 : decode b_X12_compile 33 = .ok (.if_icmp .lt 6, 3) := by decide +kernel
theorem d_X12_compile_36 : decode b_X12_compile 36 = .ok (.bipush (-14), 2) := by decide +kernel
theorem d_X12_compile_38 : decode b_X12_compile 38 = .ok (.ireturn, 1) := by decide +kernel
theorem d_X12_compile_39 : decode b_X12_compile 39 = .ok (.aload_n 0, 1) := by decide +kernel
theorem d_X12_compile_40 : decode b_X12_compile 40 = .ok (.getfield 28, 3) := by decide +kernel
theorem d_X12_compile_43 : decode b_X12_compile 43 = .ok (.iload_n 2, 1) := by decide +kernel
theorem d_X12_compile_44 : decode b_X12_compile 44 = .ok (.invokevirtual 126, 3) := by decide +kernel
theorem d_X12_compile_47 : decode b_X12_compile 47 = .ok (.aload_n 0, 1) := by decide +kernel
theorem d_X12_compile_48 : decode b_X12_compile 48 = .ok (.getfield 37, 3) := by decide +kernel
theorem d_X12_compile_51 : decode b_X12_compile 51 = .ok (.invokevirtual 129, 3) := by decide +kernel
theorem d_X12_compile_54 : decode b_X12_compile 54 = .ok (.ifCond .ne 27, 3) := by decide +kernel
theorem d_X12_compile_81 : decode b_X12_compile 81 = .ok (.aload_n 0, 1) := by decide +kernel
theorem d_X12_compile_82 : decode b_X12_compile 82 = .ok (.getfield 89, 3) := by decide +kernel
theorem d_X12_compile_85 : decode b_X12_compile 85 = .ok (.iload_n 1, 1) := by decide +kernel
theorem d_X12_compile_86 : decode b_X12_compile 86 = .ok (.invokevirtual 144, 3) := by decide +kernel
theorem d_X12_compile_89 : decode b_X12_compile 89 = .ok (.aload_n 0, 1) := by decide +kernel
theorem d_X12_compile_90 : decode b_X12_compile 90 = .ok (.getfield 62, 3) := by decide +kernel
theorem d_X12_compile_93 : decode b_X12_compile 93 = .ok (.getfield 147, 3) := by decide +kernel
theorem d_X12_compile_96 : decode b_X12_compile 96 = .ok (.ifCond .eq 42, 3) := by decide +kernel
theorem d_X12_compile_138 : decode b_X12_compile 138 = .ok (.aload_n 0, 1) := by decide +kernel
theorem d_X12_compile_139 : decode b_X12_compile 139 = .ok (.getfield 53, 3) := by decide +kernel
theorem d_X12_compile_142 : decode b_X12_compile 142 = .ok (.aload_n 0, 1) := by decide +kernel
theorem d_X12_compile_143 : decode b_X12_compile 143 = .ok (.getfield 62, 3) := by decide +kernel
theorem d_X12_compile_146 : decode b_X12_compile 146 = .ok (.getfield 156, 3) := by decide +kernel
theorem d_X12_compile_149 : decode b_X12_compile 149 = .ok (.invokevirtual 159, 3) := by decide +kernel
theorem d_X12_compile_152 : decode b_X12_compile 152 = .ok (.ireturn, 1) := by decide +kernel
theorem d_X14_feed_0 : decode b_X14_feed 0 = .ok (.aload_n 0, 1) := by decide +kernel
theorem d_X14_feed_1 : decode b_X14_feed 1 = .ok (.getfield 197, 3) := by decide +kernel
theorem d_X14_feed_4 : decode b_X14_feed 4 = .ok (.bipush 20, 2) := by decide +kernel
theorem d_X14_feed_6 : decode b_X14_feed 6 = .ok (.iadd, 1) := by decide +kernel
theorem d_X14_feed_7 : decode b_X14_feed 7 = .ok (.sipush 16000, 3) := by decide +kernel
theorem d_X14_feed_10 : decode b_X14_feed 10 = .ok (.if_icmp .gt 15, 3) := by decide +kernel
theorem d_X14_feed_13 : decode b_X14_feed 13 = .ok (.aload_n 0, 1) := by decide +kernel
theorem d_X14_feed_14 : decode b_X14_feed 14 = .ok (.getfield 200, 3) := by decide +kernel
theorem d_X14_feed_17 : decode b_X14_feed 17 = .ok (.bipush 20, 2) := by decide +kernel
theorem d_X14_feed_19 : decode b_X14_feed 19 = .ok (.iadd, 1) := by decide +kernel
theorem d_X14_feed_20 : decode b_X14_feed 20 = .ok (.ldc 79, 2) := by decide +kernel
theorem d_X14_feed_22 : decode b_X14_feed 22 = .ok (.if_icmp .le 5, 3) := by decide +kernel
theorem d_X14_feed_27 : decode b_X14_feed 27 = .ok (.iconst 0, 1) := by decide +kernel
theorem d_X14_feed_28 : decode b_X14_feed 28 = .ok (.istore 6, 2) := by decide +kernel
theorem d_X14_feed_30 : decode b_X14_feed 30 = .ok (.iload 6, 2) := by decide +kernel
theorem d_X14_feed_32 : decode b_X14_feed 32 = .ok (.bipush 20, 2) := by decide +kernel
theorem d_X14_feed_34 : decode b_X14_feed 34 = .ok (.if_icmp .ge 83, 3) := by decide +kernel
theorem d_X14_feed_37 : decode b_X14_feed 37 = .ok (.iload 6, 2) := by decide +kernel
theorem d_X14_feed_39 : decode b_X14_feed 39 = .ok (.iconst 4, 1) := by decide +kernel
theorem d_X14_feed_40 : decode b_X14_feed 40 = .ok (.if_icmp .ge 7, 3) := by decide +kernel
theorem d_X14_feed_43 : decode b_X14_feed 43 = .ok (.iload_n 1, 1) := by decide +kernel
theorem d_X14_feed_44 : decode b_X14_feed 44 = .ok (.goto 39, 3) := by decide +kernel
theorem d_X14_feed_47 : decode b_X14_feed 47 = .ok (.iload 6, 2) := by decide +kernel
theorem d_X14_feed_49 : decode b_X14_feed 49 = .ok (.bipush 8, 2) := by decide +kernel
theorem d_X14_feed_51 : decode b_X14_feed 51 = .ok (.if_icmp .ge 7, 3) := by decide +kernel
theorem d_X14_feed_54 : decode b_X14_feed 54 = .ok (.iload_n 2, 1) := by decide +kernel
theorem d_X14_feed_55 : decode b_X14_feed 55 = .ok (.goto 28, 3) := by decide +kernel
theorem d_X14_feed_58 : decode b_X14_feed 58 = .ok (.iload 6, 2) := by decide +kernel
theorem d_X14_feed_60 : decode b_X14_feed 60 = .ok (.bipush 12, 2) := by decide +kernel
theorem d_X14_feed_62 : decode b_X14_feed 62 = .ok (.if_icmp .ge 7, 3) := by decide +kernel
theorem d_X14_feed_65 : decode b_X14_feed 65 = .ok (.iload_n 3, 1) := by decide +kernel
theorem d_X14_feed_66 : decode b_X14_feed 66 = .ok (.goto 17, 3) := by decide +kernel
theorem d_X14_feed_69 : decode b_X14_feed 69 = .ok (.iload 6, 2) := by decide +kernel
theorem d_X14_feed_71 : decode b_X14_feed 71 = .ok (.bipush 16, 2) := by decide +kernel
theorem d_X14_feed_73 : decode b_X14_feed 73 = .ok (.if_icmp .ge 8, 3) := by decide +kernel
theorem d_X14_feed_76 : decode b_X14_feed 76 = .ok (.iload 4, 2) := by decide +kernel
theorem d_X14_feed_78 : decode b_X14_feed 78 = .ok (.goto 5, 3) := by decide +kernel
theorem d_X14_feed_81 : decode b_X14_feed 81 = .ok (.iload 5, 2) := by decide +kernel
theorem d_X14_feed_83 : decode b_X14_feed 83 = .ok (.istore 7, 2) := by decide +kernel
theorem d_X14_feed_85 : decode b_X14_feed 85 = .ok (.aload_n 0, 1) := by decide +kernel
theorem d_X14_feed_86 : decode b_X14_feed 86 = .ok (.getfield 9, 3) := by decide +kernel
theorem d_X14_feed_89 : decode b_X14_feed 89 = .ok (.aload_n 0, 1) := by decide +kernel
theorem d_X14_feed_90 : decode b_X14_feed 90 = .ok (.getfield 197, 3) := by decide +kernel
theorem d_X14_feed_93 : decode b_X14_feed 93 = .ok (.iload 6, 2) := by decide +kernel
theorem d_X14_feed_95 : decode b_X14_feed 95 = .ok (.iadd, 1) := by decide +kernel
theorem d_X14_feed_96 : decode b_X14_feed 96 = .ok (.iload 7, 2) := by decide +kernel
theorem d_X14_feed_98 : decode b_X14_feed 98 = .ok (.bipush 24, 2) := by decide +kernel
theorem d_X14_feed_100 : decode b_X14_feed 100 = .ok (.bipush 8, 2) := by decide +kernel
theorem d_X14_feed_102 : decode b_X14_feed 102 = .ok (.iload 6, 2) := by decide +kernel
theorem d_X14_feed_104 : decode b_X14_feed 104 = .ok (.iconst 4, 1) := by decide +kernel
theorem d_X14_feed_105 : decode b_X14_feed 105 = .ok (.irem, 1) := by decide +kernel
theorem d_X14_feed_106 : decode b_X14_feed 106 = .ok (.imul, 1) := by decide +kernel
theorem d_X14_feed_107 : decode b_X14_feed 107 = .ok (.isub, 1) := by decide +kernel
theorem d_X14_feed_108 : decode b_X14_feed 108 = .ok (.ishr, 1) := by decide +kernel
theorem d_X14_feed_109 : decode b_X14_feed 109 = .ok (.i2b, 1) := by decide +kernel
theorem d_X14_feed_110 : decode b_X14_feed 110 = .ok (.bastore, 1) := by decide +kernel
theorem d_X14_feed_111 : decode b_X14_feed 111 = .ok (.iinc 6 1, 3) := by decide +kernel
theorem d_X14_feed_114 : decode b_X14_feed 114 = .ok (.goto (-84), 3) := by decide +kernel
theorem d_X14_feed_117 : decode b_X14_feed 117 = .ok (.aload_n 0, 1) := by decide +kernel
theorem d_X14_feed_118 : decode b_X14_feed 118 = .ok (.dup, 1) := by decide +kernel
theorem d_X14_feed_119 : decode b_X14_feed 119 = .ok (.getfield 197, 3) := by decide +kernel
theorem d_X14_feed_122 : decode b_X14_feed 122 = .ok (.bipush 20, 2) := by decide +kernel
theorem d_X14_feed_124 : decode b_X14_feed 124 = .ok (.iadd, 1) := by decide +kernel
theorem d_X14_feed_125 : decode b_X14_feed 125 = .ok (.putfield 197, 3) := by decide +kernel
theorem d_X14_feed_128 : decode b_X14_feed 128 = .ok (.aload_n 0, 1) := by decide +kernel
theorem d_X14_feed_129 : decode b_X14_feed 129 = .ok (.dup, 1) := by decide +kernel
theorem d_X14_feed_130 : decode b_X14_feed 130 = .ok (.getfield 200, 3) := by decide +kernel
theorem d_X14_feed_133 : decode b_X14_feed 133 = .ok (.bipush 20, 2) := by decide +kernel
theorem d_X14_feed_135 : decode b_X14_feed 135 = .ok (.iadd, 1) := by decide +kernel
theorem d_X14_feed_136 : decode b_X14_feed 136 = .ok (.putfield 200, 3) := by decide +kernel
theorem d_X14_feed_139 : decode b_X14_feed 139 = .ok (.aload_n 0, 1) := by decide +kernel
theorem d_X14_feed_140 : decode b_X14_feed 140 = .ok (.getfield 197, 3) := by decide +kernel
theorem d_X14_feed_143 : decode b_X14_feed 143 = .ok (.ireturn, 1) := by decide +kernel
theorem d_X14_end_0 : decode b_X14_end 0 = .ok (.iload_n 1, 1) := by decide +kernel
theorem d_X14_end_1 : decode b_X14_end 1 = .ok (.ifCond .lt 11, 3) := by decide +kernel
theorem d_X14_end_4 : decode b_X14_end 4 = .ok (.iload_n 1, 1) := by decide +kernel
theorem d_X14_end_5 : decode b_X14_end 5 = .ok (.aload_n 0, 1) := by decide +kernel
theorem d_X14_end_6 : decode b_X14_end 6 = .ok (.getfield 197, 3) := by decide +kernel
theorem d_X14_end_9 : decode b_X14_end 9 = .ok (.if_icmp .le 5, 3) := by decide +kernel
theorem d_X14_end_12 : decode b_X14_end 12 = .ok (.iconst (-1), 1) := by decide +kernel
theorem d_X14_end_13 : decode b_X14_end 13 = .ok (.ireturn, 1) := by decide +kernel
theorem d_X14_end_14 : decode b_X14_end 14 = .ok (.aload_n 0, 1) := by decide +kernel
theorem d_X14_end_15 : decode b_X14_end 15 = .ok (.iload_n 1, 1) := by decide +kernel
theorem d_X14_end_16 : decode b_X14_end 16 = .ok (.putfield 197, 3) := by decide +kernel
theorem d_X14_end_19 : decode b_X14_end 19 = .ok (.iload_n 1, 1) := by decide +kernel
theorem d_X14_end_20 : decode b_X14_end 20 = .ok (.ireturn, 1) := by decide +kernel
theorem d_X14_place_0 : decode b_X14_place 0 = .ok (.aload_n 0, 1) := by decide +kernel
theorem d_X14_place_1 : decode b_X14_place 1 = .ok (.getfield 36, 3) := by decide +kernel
theorem d_X14_place_4 : decode b_X14_place 4 = .ok (.ireturn, 1) := by decide +kernel
theorem d_X14_objects_0 : decode b_X14_objects 0 = .ok (.aload_n 0, 1) := by decide +kernel
theorem d_X14_objects_1 : decode b_X14_objects 1 = .ok (.getfield 327, 3) := by decide +kernel
theorem d_X14_objects_4 : decode b_X14_objects 4 = .ok (.ireturn, 1) := by decide +kernel
theorem d_X14_result_0 : decode b_X14_result 0 = .ok (.aload_n 0, 1) := by decide +kernel
theorem d_X14_result_1 : decode b_X14_result 1 = .ok (.getfield 759, 3) := by decide +kernel
theorem d_X14_result_4 : decode b_X14_result 4 = .ok (.ireturn, 1) := by decide +kernel
theorem d_X14_turns_0 : decode b_X14_turns 0 = .ok (.aload_n 0, 1) := by decide +kernel
theorem d_X14_turns_1 : decode b_X14_turns 1 = .ok (.getfield 756, 3) := by decide +kernel
theorem d_X14_turns_4 : decode b_X14_turns 4 = .ok (.ireturn, 1) := by decide +kernel
theorem d_X14_written_0 : decode b_X14_written 0 = .ok (.aload_n 0, 1) := by decide +kernel
theorem d_X14_written_1 : decode b_X14_written 1 = .ok (.getfield 753, 3) := by decide +kernel
theorem d_X14_written_4 : decode b_X14_written 4 = .ok (.ireturn, 1) := by decide +kernel
theorem d_X14_strays_0 : decode b_X14_strays 0 = .ok (.iconst 0, 1) := by decide +kernel
theorem d_X14_strays_1 : decode b_X14_strays 1 = .ok (.ireturn, 1) := by decide +kernel
theorem d_X14_isObject_0 : decode b_X14_isObject 0 = .ok (.iload_n 1, 1) := by decide +kernel
theorem d_X14_isObject_1 : decode b_X14_isObject 1 = .ok (.iconst 1, 1) := by decide +kernel
theorem d_X14_isObject_2 : decode b_X14_isObject 2 = .ok (.if_icmp .lt 15, 3) := by decide +kernel
theorem d_X14_isObject_5 : decode b_X14_isObject 5 = .ok (.iload_n 1, 1) := by decide +kernel
theorem d_X14_isObject_6 : decode b_X14_isObject 6 = .ok (.aload_n 0, 1) := by decide +kernel
theorem d_X14_isObject_7 : decode b_X14_isObject 7 = .ok (.getfield 327, 3) := by decide +kernel
theorem d_X14_isObject_10 : decode b_X14_isObject 10 = .ok (.if_icmp .gt 7, 3) := by decide +kernel
theorem d_X14_isObject_17 : decode b_X14_isObject 17 = .ok (.iconst 0, 1) := by decide +kernel
theorem d_X14_isObject_18 : decode b_X14_isObject 18 = .ok (.ireturn, 1) := by decide +kernel
theorem d_X14_count_0 : decode b_X14_count 0 = .ok (.aload_n 0, 1) := by decide +kernel
theorem d_X14_count_1 : decode b_X14_count 1 = .ok (.iload_n 1, 1) := by decide +kernel
theorem d_X14_count_2 : decode b_X14_count 2 = .ok (.invokevirtual 680, 3) := by decide +kernel
theorem d_X14_count_5 : decode b_X14_count 5 = .ok (.ifCond .ne 7, 3) := by decide +kernel
theorem d_X14_count_8 : decode b_X14_count 8 = .ok (.iconst (-1), 1) := by decide +kernel
theorem d_X14_count_9 : decode b_X14_count 9 = .ok (.goto 32, 3) := by decide +kernel
theorem d_X14_count_41 : decode b_X14_count 41 = .ok (.ireturn, 1) := by decide +kernel
theorem d_X14_symbolAt_0 : decode b_X14_symbolAt 0 = .ok (.aload_n 0, 1) := by decide +kernel
theorem d_X14_symbolAt_1 : decode b_X14_symbolAt 1 = .ok (.iload_n 1, 1) := by decide +kernel
theorem d_X14_symbolAt_2 : decode b_X14_symbolAt 2 = .ok (.invokevirtual 680, 3) := by decide +kernel
theorem d_X14_symbolAt_5 : decode b_X14_symbolAt 5 = .ok (.ifCond .eq 7, 3) := by decide +kernel
theorem d_X14_symbolAt_12 : decode b_X14_symbolAt 12 = .ok (.iconst (-1), 1) := by decide +kernel
theorem d_X14_symbolAt_13 : decode b_X14_symbolAt 13 = .ok (.ireturn, 1) := by decide +kernel
theorem d_X14_name_0 : decode b_X14_name 0 = .ok (.aload_n 0, 1) := by decide +kernel
theorem d_X14_name_1 : decode b_X14_name 1 = .ok (.iload_n 1, 1) := by decide +kernel
theorem d_X14_name_2 : decode b_X14_name 2 = .ok (.iload_n 2, 1) := by decide +kernel
theorem d_X14_name_3 : decode b_X14_name 3 = .ok (.invokevirtual 686, 3) := by decide +kernel
theorem d_X14_name_6 : decode b_X14_name 6 = .ok (.istore 4, 2) := by decide +kernel
theorem d_X14_name_8 : decode b_X14_name 8 = .ok (.iload 4, 2) := by decide +kernel
theorem d_X14_name_10 : decode b_X14_name 10 = .ok (.ifCond .lt 35, 3) := by decide +kernel
theorem d_X14_name_45 : decode b_X14_name 45 = .ok (.iconst (-1), 1) := by decide +kernel
theorem d_X14_name_46 : decode b_X14_name 46 = .ok (.ireturn, 1) := by decide +kernel
theorem d_X14_symbol_0 : decode b_X14_symbol 0 = .ok (.aload_n 0, 1) := by decide +kernel
theorem d_X14_symbol_1 : decode b_X14_symbol 1 = .ok (.iload_n 1, 1) := by decide +kernel
theorem d_X14_symbol_2 : decode b_X14_symbol 2 = .ok (.iload_n 2, 1) := by decide +kernel
theorem d_X14_symbol_3 : decode b_X14_symbol 3 = .ok (.invokevirtual 686, 3) := by decide +kernel
theorem d_X14_symbol_6 : decode b_X14_symbol 6 = .ok (.istore_n 3, 1) := by decide +kernel
theorem d_X14_symbol_7 : decode b_X14_symbol 7 = .ok (.iload_n 3, 1) := by decide +kernel
theorem d_X14_symbol_8 : decode b_X14_symbol 8 = .ok (.ifCond .ge 5, 3) := by decide +kernel
theorem d_X14_symbol_11 : decode b_X14_symbol 11 = .ok (.iconst (-1), 1) := by decide +kernel
theorem d_X14_symbol_12 : decode b_X14_symbol 12 = .ok (.ireturn, 1) := by decide +kernel
theorem d_X14_pick_0 : decode b_X14_pick 0 = .ok (.aload_n 0, 1) := by decide +kernel
theorem d_X14_pick_1 : decode b_X14_pick 1 = .ok (.iload_n 1, 1) := by decide +kernel
theorem d_X14_pick_2 : decode b_X14_pick 2 = .ok (.invokevirtual 680, 3) := by decide +kernel
theorem d_X14_pick_5 : decode b_X14_pick 5 = .ok (.ifCond .ne 5, 3) := by decide +kernel
theorem d_X14_pick_8 : decode b_X14_pick 8 = .ok (.iconst (-1), 1) := by decide +kernel
theorem d_X14_pick_9 : decode b_X14_pick 9 = .ok (.ireturn, 1) := by decide +kernel
theorem d_X14_isFault_0 : decode b_X14_isFault 0 = .ok (.iconst 0, 1) := by decide +kernel
theorem d_X14_isFault_1 : decode b_X14_isFault 1 = .ok (.istore_n 3, 1) := by decide +kernel
theorem d_X14_isFault_2 : decode b_X14_isFault 2 = .ok (.iload_n 3, 1) := by decide +kernel
theorem d_X14_isFault_3 : decode b_X14_isFault 3 = .ok (.iload_n 2, 1) := by decide +kernel
theorem d_X14_isFault_4 : decode b_X14_isFault 4 = .ok (.if_icmp .ge 90, 3) := by decide +kernel
theorem d_X14_isFault_94 : decode b_X14_isFault 94 = .ok (.iconst 0, 1) := by decide +kernel
theorem d_X14_isFault_95 : decode b_X14_isFault 95 = .ok (.ireturn, 1) := by decide +kernel
theorem d_X14_mainOf_0 : decode b_X14_mainOf 0 = .ok (.iconst 0, 1) := by decide +kernel
theorem d_X14_mainOf_1 : decode b_X14_mainOf 1 = .ok (.istore_n 2, 1) := by decide +kernel
theorem d_X14_mainOf_2 : decode b_X14_mainOf 2 = .ok (.iload_n 2, 1) := by decide +kernel
theorem d_X14_mainOf_3 : decode b_X14_mainOf 3 = .ok (.iload_n 1, 1) := by decide +kernel
theorem d_X14_mainOf_4 : decode b_X14_mainOf 4 = .ok (.if_icmp .ge 180, 3) := by decide +kernel
theorem d_X14_mainOf_184 : decode b_X14_mainOf 184 = .ok (.iconst (-1), 1) := by decide +kernel
theorem d_X14_mainOf_185 : decode b_X14_mainOf 185 = .ok (.ireturn, 1) := by decide +kernel
theorem d_X14_link_0 : decode b_X14_link 0 = .ok (.aload_n 0, 1) := by decide +kernel
theorem d_X14_link_1 : decode b_X14_link 1 = .ok (.getfield 689, 3) := by decide +kernel
theorem d_X14_link_4 : decode b_X14_link 4 = .ok (.istore_n 1, 1) := by decide +kernel
theorem d_X14_link_5 : decode b_X14_link 5 = .ok (.aload_n 0, 1) := by decide +kernel
theorem d_X14_link_6 : decode b_X14_link 6 = .ok (.iconst 0, 1) := by decide +kernel
theorem d_X14_link_7 : decode b_X14_link 7 = .ok (.putfield 689, 3) := by decide +kernel
theorem d_X14_link_10 : decode b_X14_link 10 = .ok (.aload_n 0, 1) := by decide +kernel
theorem d_X14_link_11 : decode b_X14_link 11 = .ok (.iconst (-1), 1) := by decide +kernel
theorem d_X14_link_12 : decode b_X14_link 12 = .ok (.putfield 153, 3) := by decide +kernel
theorem d_X14_link_15 : decode b_X14_link 15 = .ok (.aload_n 0, 1) := by decide +kernel
theorem d_X14_link_16 : decode b_X14_link 16 = .ok (.iconst (-1), 1) := by decide +kernel
theorem d_X14_link_17 : decode b_X14_link 17 = .ok (.putfield 156, 3) := by decide +kernel
theorem d_X14_link_20 : decode b_X14_link 20 = .ok (.bipush 31, 2) := by decide +kernel
theorem d_X14_link_22 : decode b_X14_link 22 = .ok (.istore_n 2, 1) := by decide +kernel
theorem d_X14_link_23 : decode b_X14_link 23 = .ok (.iload_n 2, 1) := by decide +kernel
theorem d_X14_link_24 : decode b_X14_link 24 = .ok (.bipush 34, 2) := by decide +kernel
theorem d_X14_link_26 : decode b_X14_link 26 = .ok (.if_icmp .ge 21, 3) := by decide +kernel
theorem d_X14_link_29 : decode b_X14_link 29 = .ok (.aload_n 0, 1) := by decide +kernel
theorem d_X14_link_30 : decode b_X14_link 30 = .ok (.iload_n 2, 1) := by decide +kernel
theorem d_X14_link_31 : decode b_X14_link 31 = .ok (.iload_n 1, 1) := by decide +kernel
theorem d_X14_link_32 : decode b_X14_link 32 = .ok (.invokevirtual 723, 3) := by decide +kernel
theorem d_X14_link_35 : decode b_X14_link 35 = .ok (.ifCond .eq 6, 3) := by decide +kernel
theorem d_X14_link_41 : decode b_X14_link 41 = .ok (.iinc 2 1, 3) := by decide +kernel
theorem d_X14_link_44 : decode b_X14_link 44 = .ok (.goto (-21), 3) := by decide +kernel
theorem d_X14_link_47 : decode b_X14_link 47 = .ok (.aload_n 0, 1) := by decide +kernel
theorem d_X14_link_48 : decode b_X14_link 48 = .ok (.iload_n 1, 1) := by decide +kernel
theorem d_X14_link_49 : decode b_X14_link 49 = .ok (.invokevirtual 726, 3) := by decide +kernel
theorem d_X14_link_52 : decode b_X14_link 52 = .ok (.istore_n 2, 1) := by decide +kernel
theorem d_X14_link_53 : decode b_X14_link 53 = .ok (.iload_n 2, 1) := by decide +kernel
theorem d_X14_link_54 : decode b_X14_link 54 = .ok (.ifCond .ge 6, 3) := by decide +kernel
theorem d_X14_link_57 : decode b_X14_link 57 = .ok (.bipush (-34), 2) := by decide +kernel
theorem d_X14_link_59 : decode b_X14_link 59 = .ok (.ireturn, 1) := by decide +kernel
theorem d_X14_fault_0 : decode b_X14_fault 0 = .ok (.iload_n 1, 1) := by decide +kernel
theorem d_X14_fault_1 : decode b_X14_fault 1 = .ok (.ifCond .ne 10, 3) := by decide +kernel
theorem d_X14_fault_4 : decode b_X14_fault 4 = .ok (.aload_n 0, 1) := by decide +kernel
theorem d_X14_fault_5 : decode b_X14_fault 5 = .ok (.getfield 153, 3) := by decide +kernel
theorem d_X14_fault_8 : decode b_X14_fault 8 = .ok (.goto 16, 3) := by decide +kernel
theorem d_X14_fault_11 : decode b_X14_fault 11 = .ok (.iload_n 1, 1) := by decide +kernel
theorem d_X14_fault_12 : decode b_X14_fault 12 = .ok (.iconst 1, 1) := by decide +kernel
theorem d_X14_fault_13 : decode b_X14_fault 13 = .ok (.if_icmp .ne 10, 3) := by decide +kernel
theorem d_X14_fault_16 : decode b_X14_fault 16 = .ok (.aload_n 0, 1) := by decide +kernel
theorem d_X14_fault_17 : decode b_X14_fault 17 = .ok (.getfield 156, 3) := by decide +kernel
theorem d_X14_fault_20 : decode b_X14_fault 20 = .ok (.goto 4, 3) := by decide +kernel
theorem d_X14_fault_23 : decode b_X14_fault 23 = .ok (.iconst (-1), 1) := by decide +kernel
theorem d_X14_fault_24 : decode b_X14_fault 24 = .ok (.ireturn, 1) := by decide +kernel
theorem d_X14_cell_0 : decode b_X14_cell 0 = .ok (.aload_n 0, 1) := by decide +kernel
theorem d_X14_cell_1 : decode b_X14_cell 1 = .ok (.getfield 197, 3) := by decide +kernel
theorem d_X14_cell_4 : decode b_X14_cell 4 = .ok (.istore_n 1, 1) := by decide +kernel
theorem d_X14_cell_5 : decode b_X14_cell 5 = .ok (.aload_n 0, 1) := by decide +kernel
theorem d_X14_cell_6 : decode b_X14_cell 6 = .ok (.iconst 0, 1) := by decide +kernel
theorem d_X14_cell_7 : decode b_X14_cell 7 = .ok (.putfield 197, 3) := by decide +kernel
theorem d_X14_cell_10 : decode b_X14_cell 10 = .ok (.aload_n 0, 1) := by decide +kernel
theorem d_X14_cell_11 : decode b_X14_cell 11 = .ok (.getfield 150, 3) := by decide +kernel
theorem d_X14_cell_14 : decode b_X14_cell 14 = .ok (.ifCond .ge 5, 3) := by decide +kernel
theorem d_X14_cell_17 : decode b_X14_cell 17 = .ok (.iconst (-1), 1) := by decide +kernel
theorem d_X14_cell_18 : decode b_X14_cell 18 = .ok (.ireturn, 1) := by decide +kernel
theorem d_X14_input_0 : decode b_X14_input 0 = .ok (.aload_n 0, 1) := by decide +kernel
theorem d_X14_input_1 : decode b_X14_input 1 = .ok (.getfield 741, 3) := by decide +kernel
theorem d_X14_input_4 : decode b_X14_input 4 = .ok (.aload_n 0, 1) := by decide +kernel
theorem d_X14_input_5 : decode b_X14_input 5 = .ok (.getfield 188, 3) := by decide +kernel
theorem d_X14_input_8 : decode b_X14_input 8 = .ok (.arraylength, 1) := by decide +kernel
theorem d_X14_input_9 : decode b_X14_input 9 = .ok (.if_icmp .ne 5, 3) := by decide +kernel
theorem d_X14_input_14 : decode b_X14_input 14 = .ok (.aload_n 0, 1) := by decide +kernel
theorem d_X14_input_15 : decode b_X14_input 15 = .ok (.getfield 188, 3) := by decide +kernel
theorem d_X14_input_18 : decode b_X14_input 18 = .ok (.aload_n 0, 1) := by decide +kernel
theorem d_X14_input_19 : decode b_X14_input 19 = .ok (.getfield 741, 3) := by decide +kernel
theorem d_X14_input_22 : decode b_X14_input 22 = .ok (.iload_n 1, 1) := by decide +kernel
theorem d_X14_input_23 : decode b_X14_input 23 = .ok (.i2b, 1) := by decide +kernel
theorem d_X14_input_24 : decode b_X14_input 24 = .ok (.bastore, 1) := by decide +kernel
theorem d_X14_input_25 : decode b_X14_input 25 = .ok (.aload_n 0, 1) := by decide +kernel
theorem d_X14_input_26 : decode b_X14_input 26 = .ok (.dup, 1) := by decide +kernel
theorem d_X14_input_27 : decode b_X14_input 27 = .ok (.getfield 741, 3) := by decide +kernel
theorem d_X14_input_30 : decode b_X14_input 30 = .ok (.iconst 1, 1) := by decide +kernel
theorem d_X14_input_31 : decode b_X14_input 31 = .ok (.iadd, 1) := by decide +kernel
theorem d_X14_input_32 : decode b_X14_input 32 = .ok (.putfield 741, 3) := by decide +kernel
theorem d_X14_input_35 : decode b_X14_input 35 = .ok (.aload_n 0, 1) := by decide +kernel
theorem d_X14_input_36 : decode b_X14_input 36 = .ok (.getfield 741, 3) := by decide +kernel
theorem d_X14_input_39 : decode b_X14_input 39 = .ok (.ireturn, 1) := by decide +kernel
theorem d_X14_run_0 : decode b_X14_run 0 = .ok (.aload_n 0, 1) := by decide +kernel
theorem d_X14_run_1 : decode b_X14_run 1 = .ok (.getfield 150, 3) := by decide +kernel
theorem d_X14_run_4 : decode b_X14_run 4 = .ok (.ifCond .ge 5, 3) := by decide +kernel
theorem d_X14_run_7 : decode b_X14_run 7 = .ok (.iconst (-1), 1) := by decide +kernel
theorem d_X14_run_8 : decode b_X14_run 8 = .ok (.ireturn, 1) := by decide +kernel
theorem d_X14_trap_0 : decode b_X14_trap 0 = .ok (.iload_n 1, 1) := by decide +kernel
theorem d_X14_trap_1 : decode b_X14_trap 1 = .ok (.ifCond .ne 10, 3) := by decide +kernel
theorem d_X14_trap_4 : decode b_X14_trap 4 = .ok (.aload_n 0, 1) := by decide +kernel
theorem d_X14_trap_5 : decode b_X14_trap 5 = .ok (.getfield 762, 3) := by decide +kernel
theorem d_X14_trap_8 : decode b_X14_trap 8 = .ok (.goto 16, 3) := by decide +kernel
theorem d_X14_trap_11 : decode b_X14_trap 11 = .ok (.iload_n 1, 1) := by decide +kernel
theorem d_X14_trap_12 : decode b_X14_trap 12 = .ok (.iconst 1, 1) := by decide +kernel
theorem d_X14_trap_13 : decode b_X14_trap 13 = .ok (.if_icmp .ne 10, 3) := by decide +kernel
theorem d_X14_trap_16 : decode b_X14_trap 16 = .ok (.aload_n 0, 1) := by decide +kernel
theorem d_X14_trap_17 : decode b_X14_trap 17 = .ok (.getfield 765, 3) := by decide +kernel
theorem d_X14_trap_20 : decode b_X14_trap 20 = .ok (.goto 4, 3) := by decide +kernel
theorem d_X14_trap_23 : decode b_X14_trap 23 = .ok (.iconst 0, 1) := by decide +kernel
theorem d_X14_trap_24 : decode b_X14_trap 24 = .ok (.ireturn, 1) := by decide +kernel
theorem d_X14_out_0 : decode b_X14_out 0 = .ok (.iload_n 1, 1) := by decide +kernel
theorem d_X14_out_1 : decode b_X14_out 1 = .ok (.ifCond .lt 24, 3) := by decide +kernel
theorem d_X14_out_4 : decode b_X14_out 4 = .ok (.iload_n 1, 1) := by decide +kernel
theorem d_X14_out_5 : decode b_X14_out 5 = .ok (.aload_n 0, 1) := by decide +kernel
theorem d_X14_out_6 : decode b_X14_out 6 = .ok (.getfield 753, 3) := by decide +kernel
theorem d_X14_out_9 : decode b_X14_out 9 = .ok (.if_icmp .ge 16, 3) := by decide +kernel
theorem d_X14_out_25 : decode b_X14_out 25 = .ok (.iconst (-1), 1) := by decide +kernel
theorem d_X14_out_26 : decode b_X14_out 26 = .ok (.ireturn, 1) := by decide +kernel
theorem d_X14_peek_0 : decode b_X14_peek 0 = .ok (.aload_n 0, 1) := by decide +kernel
theorem d_X14_peek_1 : decode b_X14_peek 1 = .ok (.getfield 744, 3) := by decide +kernel
theorem d_X14_peek_4 : decode b_X14_peek 4 = .ok (.ifCond .eq 22, 3) := by decide +kernel
theorem d_X14_peek_26 : decode b_X14_peek 26 = .ok (.iconst 0, 1) := by decide +kernel
theorem d_X14_peek_27 : decode b_X14_peek 27 = .ok (.ireturn, 1) := by decide +kernel
theorem d_X14_token_0 : decode b_X14_token 0 = .ok (.aload_n 0, 1) := by decide +kernel
theorem d_X14_token_1 : decode b_X14_token 1 = .ok (.getfield 13, 3) := by decide +kernel
theorem d_X14_token_4 : decode b_X14_token 4 = .ok (.aload_n 0, 1) := by decide +kernel
theorem d_X14_token_5 : decode b_X14_token 5 = .ok (.getfield 206, 3) := by decide +kernel
theorem d_X14_token_8 : decode b_X14_token 8 = .ok (.iload_n 1, 1) := by decide +kernel
theorem d_X14_token_9 : decode b_X14_token 9 = .ok (.iastore, 1) := by decide +kernel
theorem d_X14_token_10 : decode b_X14_token 10 = .ok (.aload_n 0, 1) := by decide +kernel
theorem d_X14_token_11 : decode b_X14_token 11 = .ok (.getfield 17, 3) := by decide +kernel
theorem d_X14_token_14 : decode b_X14_token 14 = .ok (.aload_n 0, 1) := by decide +kernel
theorem d_X14_token_15 : decode b_X14_token 15 = .ok (.getfield 206, 3) := by decide +kernel
theorem d_X14_token_18 : decode b_X14_token 18 = .ok (.iload_n 2, 1) := by decide +kernel
theorem d_X14_token_19 : decode b_X14_token 19 = .ok (.iastore, 1) := by decide +kernel
theorem d_X14_token_20 : decode b_X14_token 20 = .ok (.aload_n 0, 1) := by decide +kernel
theorem d_X14_token_21 : decode b_X14_token 21 = .ok (.getfield 20, 3) := by decide +kernel
theorem d_X14_token_24 : decode b_X14_token 24 = .ok (.aload_n 0, 1) := by decide +kernel
theorem d_X14_token_25 : decode b_X14_token 25 = .ok (.getfield 206, 3) := by decide +kernel
theorem d_X14_token_28 : decode b_X14_token 28 = .ok (.iload_n 3, 1) := by decide +kernel
theorem d_X14_token_29 : decode b_X14_token 29 = .ok (.iastore, 1) := by decide +kernel
theorem d_X14_token_30 : decode b_X14_token 30 = .ok (.aload_n 0, 1) := by decide +kernel
theorem d_X14_token_31 : decode b_X14_token 31 = .ok (.getfield 23, 3) := by decide +kernel
theorem d_X14_token_34 : decode b_X14_token 34 = .ok (.aload_n 0, 1) := by decide +kernel
theorem d_X14_token_35 : decode b_X14_token 35 = .ok (.getfield 206, 3) := by decide +kernel
theorem d_X14_token_38 : decode b_X14_token 38 = .ok (.iload 4, 2) := by decide +kernel
theorem d_X14_token_40 : decode b_X14_token 40 = .ok (.iastore, 1) := by decide +kernel
theorem d_X14_token_41 : decode b_X14_token 41 = .ok (.aload_n 0, 1) := by decide +kernel
theorem d_X14_token_42 : decode b_X14_token 42 = .ok (.getfield 26, 3) := by decide +kernel
theorem d_X14_token_45 : decode b_X14_token 45 = .ok (.aload_n 0, 1) := by decide +kernel
theorem d_X14_token_46 : decode b_X14_token 46 = .ok (.getfield 206, 3) := by decide +kernel
theorem d_X14_token_49 : decode b_X14_token 49 = .ok (.iload 5, 2) := by decide +kernel
theorem d_X14_token_51 : decode b_X14_token 51 = .ok (.iastore, 1) := by decide +kernel
theorem d_X14_token_52 : decode b_X14_token 52 = .ok (.aload_n 0, 1) := by decide +kernel
theorem d_X14_token_53 : decode b_X14_token 53 = .ok (.dup, 1) := by decide +kernel
theorem d_X14_token_54 : decode b_X14_token 54 = .ok (.getfield 206, 3) := by decide +kernel
theorem d_X14_token_57 : decode b_X14_token 57 = .ok (.iconst 1, 1) := by decide +kernel
theorem d_X14_token_58 : decode b_X14_token 58 = .ok (.iadd, 1) := by decide +kernel
theorem d_X14_token_59 : decode b_X14_token 59 = .ok (.putfield 206, 3) := by decide +kernel
theorem d_X14_token_62 : decode b_X14_token 62 = .ok (.return_, 1) := by decide +kernel
theorem d_X14_cut_0 : decode b_X14_cut 0 = .ok (.aload_n 0, 1) := by decide +kernel
theorem d_X14_cut_1 : decode b_X14_cut 1 = .ok (.iconst 0, 1) := by decide +kernel
theorem d_X14_cut_2 : decode b_X14_cut 2 = .ok (.putfield 206, 3) := by decide +kernel
theorem d_X14_cut_5 : decode b_X14_cut 5 = .ok (.iconst 0, 1) := by decide +kernel
theorem d_X14_cut_6 : decode b_X14_cut 6 = .ok (.istore_n 1, 1) := by decide +kernel
theorem d_X14_cut_7 : decode b_X14_cut 7 = .ok (.iconst 1, 1) := by decide +kernel
theorem d_X14_cut_8 : decode b_X14_cut 8 = .ok (.istore_n 2, 1) := by decide +kernel
theorem d_X14_cut_9 : decode b_X14_cut 9 = .ok (.iload_n 1, 1) := by decide +kernel
theorem d_X14_cut_10 : decode b_X14_cut 10 = .ok (.aload_n 0, 1) := by decide +kernel
theorem d_X14_cut_11 : decode b_X14_cut 11 = .ok (.getfield 203, 3) := by decide +kernel
theorem d_X14_cut_14 : decode b_X14_cut 14 = .ok (.if_icmp .ge 173, 3) := by decide +kernel
theorem d_X14_cut_187 : decode b_X14_cut 187 = .ok (.aload_n 0, 1) := by decide +kernel
theorem d_X14_cut_188 : decode b_X14_cut 188 = .ok (.iconst 0, 1) := by decide +kernel
theorem d_X14_cut_189 : decode b_X14_cut 189 = .ok (.aload_n 0, 1) := by decide +kernel
theorem d_X14_cut_190 : decode b_X14_cut 190 = .ok (.getfield 203, 3) := by decide +kernel
theorem d_X14_cut_193 : decode b_X14_cut 193 = .ok (.aload_n 0, 1) := by decide +kernel
theorem d_X14_cut_194 : decode b_X14_cut 194 = .ok (.getfield 203, 3) := by decide +kernel
theorem d_X14_cut_197 : decode b_X14_cut 197 = .ok (.iload_n 2, 1) := by decide +kernel
theorem d_X14_cut_198 : decode b_X14_cut 198 = .ok (.iconst 0, 1) := by decide +kernel
theorem d_X14_cut_199 : decode b_X14_cut 199 = .ok (.invokevirtual 217, 3) := by decide +kernel
theorem d_X14_cut_202 : decode b_X14_cut 202 = .ok (.return_, 1) := by decide +kernel
theorem d_X14_bodiless_0 : decode b_X14_bodiless 0 = .ok (.iconst (-1), 1) := by decide +kernel
theorem d_X14_bodiless_1 : decode b_X14_bodiless 1 = .ok (.istore_n 1, 1) := by decide +kernel
theorem d_X14_bodiless_2 : decode b_X14_bodiless 2 = .ok (.aload_n 0, 1) := by decide +kernel
theorem d_X14_bodiless_3 : decode b_X14_bodiless 3 = .ok (.getfield 86, 3) := by decide +kernel
theorem d_X14_bodiless_6 : decode b_X14_bodiless 6 = .ok (.aload_n 0, 1) := by decide +kernel
theorem d_X14_bodiless_7 : decode b_X14_bodiless 7 = .ok (.getfield 327, 3) := by decide +kernel
theorem d_X14_bodiless_10 : decode b_X14_bodiless 10 = .ok (.iaload, 1) := by decide +kernel
theorem d_X14_bodiless_11 : decode b_X14_bodiless 11 = .ok (.istore_n 2, 1) := by decide +kernel
theorem d_X14_bodiless_12 : decode b_X14_bodiless 12 = .ok (.iload_n 2, 1) := by decide +kernel
theorem d_X14_bodiless_13 : decode b_X14_bodiless 13 = .ok (.aload_n 0, 1) := by decide +kernel
theorem d_X14_bodiless_14 : decode b_X14_bodiless 14 = .ok (.getfield 330, 3) := by decide +kernel
theorem d_X14_bodiless_17 : decode b_X14_bodiless 17 = .ok (.if_icmp .ge 69, 3) := by decide +kernel
theorem d_X14_bodiless_86 : decode b_X14_bodiless 86 = .ok (.iload_n 1, 1) := by decide +kernel
theorem d_X14_bodiless_87 : decode b_X14_bodiless 87 = .ok (.ifCond .lt 9, 3) := by decide +kernel
theorem d_X14_bodiless_96 : decode b_X14_bodiless 96 = .ok (.return_, 1) := by decide +kernel
theorem d_X14_read_0_0 : decode b_X14_read_0 0 = .ok (.aload_n 0, 1) := by decide +kernel
theorem d_X14_read_0_1 : decode b_X14_read_0 1 = .ok (.invokevirtual 671, 3) := by decide +kernel
theorem d_X14_read_0_4 : decode b_X14_read_0 4 = .ok (.aload_n 0, 1) := by decide +kernel
theorem d_X14_read_0_5 : decode b_X14_read_0 5 = .ok (.iconst 0, 1) := by decide +kernel
theorem d_X14_read_0_6 : decode b_X14_read_0 6 = .ok (.putfield 288, 3) := by decide +kernel
theorem d_X14_read_0_9 : decode b_X14_read_0 9 = .ok (.aload_n 0, 1) := by decide +kernel
theorem d_X14_read_0_10 : decode b_X14_read_0 10 = .ok (.getfield 13, 3) := by decide +kernel
theorem d_X14_read_0_13 : decode b_X14_read_0 13 = .ok (.aload_n 0, 1) := by decide +kernel
theorem d_X14_read_0_14 : decode b_X14_read_0 14 = .ok (.getfield 288, 3) := by decide +kernel
theorem d_X14_read_0_17 : decode b_X14_read_0 17 = .ok (.iaload, 1) := by decide +kernel
theorem d_X14_read_0_18 : decode b_X14_read_0 18 = .ok (.ifCond .eq 28, 3) := by decide +kernel
theorem d_X14_read_0_46 : decode b_X14_read_0 46 = .ok (.goto 7, 3) := by decide +kernel
theorem d_X14_read_0_53 : decode b_X14_read_0 53 = .ok (.aload_n 0, 1) := by decide +kernel
theorem d_X14_read_0_54 : decode b_X14_read_0 54 = .ok (.invokevirtual 677, 3) := by decide +kernel
theorem d_X14_read_0_57 : decode b_X14_read_0 57 = .ok (.aload_n 0, 1) := by decide +kernel
theorem d_X14_read_0_58 : decode b_X14_read_0 58 = .ok (.getfield 295, 3) := by decide +kernel
theorem d_X14_read_0_61 : decode b_X14_read_0 61 = .ok (.ifCond .ne 5, 3) := by decide +kernel
theorem d_X14_read_0_64 : decode b_X14_read_0 64 = .ok (.iconst 0, 1) := by decide +kernel
theorem d_X14_read_0_65 : decode b_X14_read_0 65 = .ok (.ireturn, 1) := by decide +kernel
theorem d_X14_compile_0 : decode b_X14_compile 0 = .ok (.aload_n 0, 1) := by decide +kernel
theorem d_X14_compile_1 : decode b_X14_compile 1 = .ok (.aload_n 0, 1) := by decide +kernel
theorem d_X14_compile_2 : decode b_X14_compile 2 = .ok (.getfield 197, 3) := by decide +kernel
theorem d_X14_compile_5 : decode b_X14_compile 5 = .ok (.putfield 203, 3) := by decide +kernel
theorem d_X14_compile_8 : decode b_X14_compile 8 = .ok (.aload_n 0, 1) := by decide +kernel
theorem d_X14_compile_9 : decode b_X14_compile 9 = .ok (.iconst 0, 1) := by decide +kernel
theorem d_X14_compile_10 : decode b_X14_compile 10 = .ok (.putfield 197, 3) := by decide +kernel
theorem d_X14_compile_13 : decode b_X14_compile 13 = .ok (.aload_n 0, 1) := by decide +kernel
theorem d_X14_compile_14 : decode b_X14_compile 14 = .ok (.iconst (-1), 1) := by decide +kernel
theorem d_X14_compile_15 : decode b_X14_compile 15 = .ok (.putfield 36, 3) := by decide +kernel
theorem d_X14_compile_18 : decode b_X14_compile 18 = .ok (.iload_n 1, 1) := by decide +kernel
theorem d_X14_compile_19 : decode b_X14_compile 19 = .ok (.ifCond .lt 17, 3) := by decide +kernel
theorem d_X14_compile_22 : decode b_X14_compile 22 = .ok (.iload_n 1, 1) := by decide +kernel
theorem d_X14_compile_23 : decode b_X14_compile 23 = .ok (.iconst 3, 1) := by decide +kernel
theorem d_X14_compile_24 : decode b_X14_compile 24 = .ok (.if_icmp .gt 12, 3) := by decide +kernel
theorem d_X14_compile_27 : decode b_X14_compile 27 = .ok (.aload_n 0, 1) := by decide +kernel
theorem d_X14_compile_28 : decode b_X14_compile 28 = .ok (.getfield 327, 3) := by decide +kernel
theorem d_X14_compile_31 : decode b_X14_compile 31 = .ok (.bipush 100, 2) := by decide +kernel
theorem d_X14_compile_33 : decode b_X14_compile 33 = .ok (.if_icmp .ne 6, 3) := by decide +kernel
theorem d_X14_compile_36 : decode b_X14_compile 36 = .ok (.bipush (-14), 2) := by decide +kernel
theorem d_X14_compile_38 : decode b_X14_compile 38 = .ok (.ireturn, 1) := by decide +kernel
theorem d_X14_compile_39 : decode b_X14_compile 39 = .ok (.aload_n 0, 1) := by decide +kernel
theorem d_X14_compile_40 : decode b_X14_compile 40 = .ok (.getfield 315, 3) := by decide +kernel
theorem d_X14_compile_43 : decode b_X14_compile 43 = .ok (.istore_n 2, 1) := by decide +kernel
theorem d_X14_compile_44 : decode b_X14_compile 44 = .ok (.aload_n 0, 1) := by decide +kernel
theorem d_X14_compile_45 : decode b_X14_compile 45 = .ok (.getfield 337, 3) := by decide +kernel
theorem d_X14_compile_48 : decode b_X14_compile 48 = .ok (.istore_n 3, 1) := by decide +kernel
theorem d_X14_compile_49 : decode b_X14_compile 49 = .ok (.aload_n 0, 1) := by decide +kernel
theorem d_X14_compile_50 : decode b_X14_compile 50 = .ok (.getfield 656, 3) := by decide +kernel
theorem d_X14_compile_53 : decode b_X14_compile 53 = .ok (.istore 4, 2) := by decide +kernel
theorem d_X14_compile_55 : decode b_X14_compile 55 = .ok (.aload_n 0, 1) := by decide +kernel
theorem d_X14_compile_56 : decode b_X14_compile 56 = .ok (.getfield 324, 3) := by decide +kernel
theorem d_X14_compile_59 : decode b_X14_compile 59 = .ok (.istore 5, 2) := by decide +kernel
theorem d_X14_compile_61 : decode b_X14_compile 61 = .ok (.aload_n 0, 1) := by decide +kernel
theorem d_X14_compile_62 : decode b_X14_compile 62 = .ok (.getfield 86, 3) := by decide +kernel
theorem d_X14_compile_65 : decode b_X14_compile 65 = .ok (.aload_n 0, 1) := by decide +kernel
theorem d_X14_compile_66 : decode b_X14_compile 66 = .ok (.getfield 327, 3) := by decide +kernel
theorem d_X14_compile_69 : decode b_X14_compile 69 = .ok (.aload_n 0, 1) := by decide +kernel
theorem d_X14_compile_70 : decode b_X14_compile 70 = .ok (.getfield 330, 3) := by decide +kernel
theorem d_X14_compile_73 : decode b_X14_compile 73 = .ok (.iastore, 1) := by decide +kernel
theorem d_X14_compile_74 : decode b_X14_compile 74 = .ok (.aload_n 0, 1) := by decide +kernel
theorem d_X14_compile_75 : decode b_X14_compile 75 = .ok (.getfield 92, 3) := by decide +kernel
theorem d_X14_compile_78 : decode b_X14_compile 78 = .ok (.aload_n 0, 1) := by decide +kernel
theorem d_X14_compile_79 : decode b_X14_compile 79 = .ok (.getfield 327, 3) := by decide +kernel
theorem d_X14_compile_82 : decode b_X14_compile 82 = .ok (.aload_n 0, 1) := by decide +kernel
theorem d_X14_compile_83 : decode b_X14_compile 83 = .ok (.getfield 324, 3) := by decide +kernel
theorem d_X14_compile_86 : decode b_X14_compile 86 = .ok (.iastore, 1) := by decide +kernel
theorem d_X14_compile_87 : decode b_X14_compile 87 = .ok (.aload_n 0, 1) := by decide +kernel
theorem d_X14_compile_88 : decode b_X14_compile 88 = .ok (.iconst 0, 1) := by decide +kernel
theorem d_X14_compile_89 : decode b_X14_compile 89 = .ok (.putfield 515, 3) := by decide +kernel
theorem d_X14_compile_92 : decode b_X14_compile 92 = .ok (.aload_n 0, 1) := by decide +kernel
theorem d_X14_compile_93 : decode b_X14_compile 93 = .ok (.iconst 0, 1) := by decide +kernel
theorem d_X14_compile_94 : decode b_X14_compile 94 = .ok (.putfield 295, 3) := by decide +kernel
theorem d_X14_compile_97 : decode b_X14_compile 97 = .ok (.aload_n 0, 1) := by decide +kernel
theorem d_X14_compile_98 : decode b_X14_compile 98 = .ok (.iconst 0, 1) := by decide +kernel
theorem d_X14_compile_99 : decode b_X14_compile 99 = .ok (.putfield 298, 3) := by decide +kernel
theorem d_X14_compile_102 : decode b_X14_compile 102 = .ok (.aload_n 0, 1) := by decide +kernel
theorem d_X14_compile_103 : decode b_X14_compile 103 = .ok (.iconst 0, 1) := by decide +kernel
theorem d_X14_compile_104 : decode b_X14_compile 104 = .ok (.putfield 340, 3) := by decide +kernel
theorem d_X14_compile_107 : decode b_X14_compile 107 = .ok (.aload_n 0, 1) := by decide +kernel
theorem d_X14_compile_108 : decode b_X14_compile 108 = .ok (.iconst 0, 1) := by decide +kernel
theorem d_X14_compile_109 : decode b_X14_compile 109 = .ok (.putfield 346, 3) := by decide +kernel
theorem d_X14_compile_112 : decode b_X14_compile 112 = .ok (.aload_n 0, 1) := by decide +kernel
theorem d_X14_compile_113 : decode b_X14_compile 113 = .ok (.iconst 0, 1) := by decide +kernel
theorem d_X14_compile_114 : decode b_X14_compile 114 = .ok (.putfield 349, 3) := by decide +kernel
theorem d_X14_compile_117 : decode b_X14_compile 117 = .ok (.aload_n 0, 1) := by decide +kernel
theorem d_X14_compile_118 : decode b_X14_compile 118 = .ok (.invokevirtual 669, 3) := by decide +kernel
theorem d_X14_compile_121 : decode b_X14_compile 121 = .ok (.istore 6, 2) := by decide +kernel
theorem d_X14_compile_123 : decode b_X14_compile 123 = .ok (.iload 6, 2) := by decide +kernel
theorem d_X14_compile_125 : decode b_X14_compile 125 = .ok (.ifCond .ge 41, 3) := by decide +kernel
theorem d_X14_compile_166 : decode b_X14_compile 166 = .ok (.aload_n 0, 1) := by decide +kernel
theorem d_X14_compile_167 : decode b_X14_compile 167 = .ok (.getfield 89, 3) := by decide +kernel
theorem d_X14_compile_170 : decode b_X14_compile 170 = .ok (.aload_n 0, 1) := by decide +kernel
theorem d_X14_compile_171 : decode b_X14_compile 171 = .ok (.getfield 327, 3) := by decide +kernel
theorem d_X14_compile_174 : decode b_X14_compile 174 = .ok (.aload_n 0, 1) := by decide +kernel
theorem d_X14_compile_175 : decode b_X14_compile 175 = .ok (.getfield 515, 3) := by decide +kernel
theorem d_X14_compile_178 : decode b_X14_compile 178 = .ok (.iastore, 1) := by decide +kernel
theorem d_X14_compile_179 : decode b_X14_compile 179 = .ok (.aload_n 0, 1) := by decide +kernel
theorem d_X14_compile_180 : decode b_X14_compile 180 = .ok (.dup, 1) := by decide +kernel
theorem d_X14_compile_181 : decode b_X14_compile 181 = .ok (.getfield 327, 3) := by decide +kernel
theorem d_X14_compile_184 : decode b_X14_compile 184 = .ok (.iconst 1, 1) := by decide +kernel
theorem d_X14_compile_185 : decode b_X14_compile 185 = .ok (.iadd, 1) := by decide +kernel
theorem d_X14_compile_186 : decode b_X14_compile 186 = .ok (.putfield 327, 3) := by decide +kernel
theorem d_X14_compile_189 : decode b_X14_compile 189 = .ok (.aload_n 0, 1) := by decide +kernel
theorem d_X14_compile_190 : decode b_X14_compile 190 = .ok (.getfield 86, 3) := by decide +kernel
theorem d_X14_compile_193 : decode b_X14_compile 193 = .ok (.aload_n 0, 1) := by decide +kernel
theorem d_X14_compile_194 : decode b_X14_compile 194 = .ok (.getfield 327, 3) := by decide +kernel
theorem d_X14_compile_197 : decode b_X14_compile 197 = .ok (.aload_n 0, 1) := by decide +kernel
theorem d_X14_compile_198 : decode b_X14_compile 198 = .ok (.getfield 330, 3) := by decide +kernel
theorem d_X14_compile_201 : decode b_X14_compile 201 = .ok (.iastore, 1) := by decide +kernel
theorem d_X14_compile_202 : decode b_X14_compile 202 = .ok (.aload_n 0, 1) := by decide +kernel
theorem d_X14_compile_203 : decode b_X14_compile 203 = .ok (.getfield 92, 3) := by decide +kernel
theorem d_X14_compile_206 : decode b_X14_compile 206 = .ok (.aload_n 0, 1) := by decide +kernel
theorem d_X14_compile_207 : decode b_X14_compile 207 = .ok (.getfield 327, 3) := by decide +kernel
theorem d_X14_compile_210 : decode b_X14_compile 210 = .ok (.aload_n 0, 1) := by decide +kernel
theorem d_X14_compile_211 : decode b_X14_compile 211 = .ok (.getfield 324, 3) := by decide +kernel
theorem d_X14_compile_214 : decode b_X14_compile 214 = .ok (.iastore, 1) := by decide +kernel
theorem d_X14_compile_215 : decode b_X14_compile 215 = .ok (.aload_n 0, 1) := by decide +kernel
theorem d_X14_compile_216 : decode b_X14_compile 216 = .ok (.getfield 327, 3) := by decide +kernel
theorem d_X14_compile_219 : decode b_X14_compile 219 = .ok (.ireturn, 1) := by decide +kernel
theorem d_Preconditions_checkIndex_0 : decode b_Preconditions_checkIndex 0 = .ok (.iload_n 0, 1) := by decide +kernel
theorem d_Preconditions_checkIndex_1 : decode b_Preconditions_checkIndex 1 = .ok (.ifCond .lt 8, 3) := by decide +kernel
theorem d_Preconditions_checkIndex_4 : decode b_Preconditions_checkIndex 4 = .ok (.iload_n 0, 1) := by decide +kernel
theorem d_Preconditions_checkIndex_5 : decode b_Preconditions_checkIndex 5 = .ok (.iload_n 1, 1) := by decide +kernel
theorem d_Preconditions_checkIndex_6 : decode b_Preconditions_checkIndex 6 = .ok (.if_icmp .lt 10, 3) := by decide +kernel
theorem d_Preconditions_checkIndex_16 : decode b_Preconditions_checkIndex 16 = .ok (.iload_n 0, 1) := by decide +kernel
theorem d_Preconditions_checkIndex_17 : decode b_Preconditions_checkIndex 17 = .ok (.ireturn, 1) := by decide +kernel
theorem d_String_checkIndex_0 : decode b_String_checkIndex 0 = .ok (.iload_n 0, 1) := by decide +kernel
theorem d_String_checkIndex_1 : decode b_String_checkIndex 1 = .ok (.iload_n 1, 1) := by decide +kernel
theorem d_String_checkIndex_2 : decode b_String_checkIndex 2 = .ok (.getstatic 1053, 3) := by decide +kernel
theorem d_String_checkIndex_5 : decode b_String_checkIndex 5 = .ok (.invokestatic 1059, 3) := by decide +kernel
theorem d_String_checkIndex_8 : decode b_String_checkIndex 8 = .ok (.pop, 1) := by decide +kernel
theorem d_String_checkIndex_9 : decode b_String_checkIndex 9 = .ok (.return_, 1) := by decide +kernel
theorem d_StringLatin1_charAt_0 : decode b_StringLatin1_charAt 0 = .ok (.iload_n 1, 1) := by decide +kernel
theorem d_StringLatin1_charAt_1 : decode b_StringLatin1_charAt 1 = .ok (.aload_n 0, 1) := by decide +kernel
theorem d_StringLatin1_charAt_2 : decode b_StringLatin1_charAt 2 = .ok (.arraylength, 1) := by decide +kernel
theorem d_StringLatin1_charAt_3 : decode b_StringLatin1_charAt 3 = .ok (.invokestatic 9, 3) := by decide +kernel
theorem d_StringLatin1_charAt_6 : decode b_StringLatin1_charAt 6 = .ok (.aload_n 0, 1) := by decide +kernel
theorem d_StringLatin1_charAt_7 : decode b_StringLatin1_charAt 7 = .ok (.iload_n 1, 1) := by decide +kernel
theorem d_StringLatin1_charAt_8 : decode b_StringLatin1_charAt 8 = .ok (.baload, 1) := by decide +kernel
theorem d_StringLatin1_charAt_9 : decode b_StringLatin1_charAt 9 = .ok (.sipush 255, 3) := by decide +kernel
theorem d_StringLatin1_charAt_12 : decode b_StringLatin1_charAt 12 = .ok (.iand, 1) := by decide +kernel
theorem d_StringLatin1_charAt_13 : decode b_StringLatin1_charAt 13 = .ok (.i2c, 1) := by decide +kernel
theorem d_StringLatin1_charAt_14 : decode b_StringLatin1_charAt 14 = .ok (.ireturn, 1) := by decide +kernel
theorem d_String_coder_0 : decode b_String_coder 0 = .ok (.getstatic 38, 3) := by decide +kernel
theorem d_String_coder_3 : decode b_String_coder 3 = .ok (.ifCond .eq 10, 3) := by decide +kernel
theorem d_String_coder_6 : decode b_String_coder 6 = .ok (.aload_n 0, 1) := by decide +kernel
theorem d_String_coder_7 : decode b_String_coder 7 = .ok (.getfield 15, 3) := by decide +kernel
theorem d_String_coder_10 : decode b_String_coder 10 = .ok (.goto 4, 3) := by decide +kernel
theorem d_String_coder_14 : decode b_String_coder 14 = .ok (.ireturn, 1) := by decide +kernel
theorem d_String_isLatin1_0 : decode b_String_isLatin1 0 = .ok (.getstatic 38, 3) := by decide +kernel
theorem d_String_isLatin1_3 : decode b_String_isLatin1 3 = .ok (.ifCond .eq 14, 3) := by decide +kernel
theorem d_String_isLatin1_6 : decode b_String_isLatin1 6 = .ok (.aload_n 0, 1) := by decide +kernel
theorem d_String_isLatin1_7 : decode b_String_isLatin1 7 = .ok (.getfield 15, 3) := by decide +kernel
theorem d_String_isLatin1_10 : decode b_String_isLatin1 10 = .ok (.ifCond .ne 7, 3) := by decide +kernel
theorem d_String_isLatin1_13 : decode b_String_isLatin1 13 = .ok (.iconst 1, 1) := by decide +kernel
theorem d_String_isLatin1_14 : decode b_String_isLatin1 14 = .ok (.goto 4, 3) := by decide +kernel
theorem d_String_isLatin1_18 : decode b_String_isLatin1 18 = .ok (.ireturn, 1) := by decide +kernel
theorem d_String_length_0 : decode b_String_length 0 = .ok (.aload_n 0, 1) := by decide +kernel
theorem d_String_length_1 : decode b_String_length 1 = .ok (.getfield 9, 3) := by decide +kernel
theorem d_String_length_4 : decode b_String_length 4 = .ok (.arraylength, 1) := by decide +kernel
theorem d_String_length_5 : decode b_String_length 5 = .ok (.aload_n 0, 1) := by decide +kernel
theorem d_String_length_6 : decode b_String_length 6 = .ok (.invokevirtual 335, 3) := by decide +kernel
theorem d_String_length_9 : decode b_String_length 9 = .ok (.ishr, 1) := by decide +kernel
theorem d_String_length_10 : decode b_String_length 10 = .ok (.ireturn, 1) := by decide +kernel
theorem d_String_charAt_0 : decode b_String_charAt 0 = .ok (.aload_n 0, 1) := by decide +kernel
theorem d_String_charAt_1 : decode b_String_charAt 1 = .ok (.invokevirtual 492, 3) := by decide +kernel
theorem d_String_charAt_4 : decode b_String_charAt 4 = .ok (.ifCond .eq 12, 3) := by decide +kernel
theorem d_String_charAt_7 : decode b_String_charAt 7 = .ok (.aload_n 0, 1) := by decide +kernel
theorem d_String_charAt_8 : decode b_String_charAt 8 = .ok (.getfield 9, 3) := by decide +kernel
theorem d_String_charAt_11 : decode b_String_charAt 11 = .ok (.iload_n 1, 1) := by decide +kernel
theorem d_String_charAt_12 : decode b_String_charAt 12 = .ok (.invokestatic 495, 3) := by decide +kernel
theorem d_String_charAt_15 : decode b_String_charAt 15 = .ok (.ireturn, 1) := by decide +kernel
theorem d_X10_init_0 : decode b_X10_init 0 = .ok (.aload_n 0, 1) := by decide +kernel
theorem d_X10_init_1 : decode b_X10_init 1 = .ok (.invokespecial 3, 3) := by decide +kernel
theorem d_X10_init_4 : decode b_X10_init 4 = .ok (.aload_n 0, 1) := by decide +kernel
theorem d_X10_init_5 : decode b_X10_init 5 = .ok (.sipush 16002, 3) := by decide +kernel
theorem d_X10_init_8 : decode b_X10_init 8 = .ok (.newarray .int, 2) := by decide +kernel
theorem d_X10_init_10 : decode b_X10_init 10 = .ok (.putfield 9, 3) := by decide +kernel
theorem d_X10_init_13 : decode b_X10_init 13 = .ok (.aload_n 0, 1) := by decide +kernel
theorem d_X10_init_14 : decode b_X10_init 14 = .ok (.sipush 16002, 3) := by decide +kernel
theorem d_X10_init_17 : decode b_X10_init 17 = .ok (.newarray .int, 2) := by decide +kernel
theorem d_X10_init_19 : decode b_X10_init 19 = .ok (.putfield 15, 3) := by decide +kernel
theorem d_X10_init_22 : decode b_X10_init 22 = .ok (.aload_n 0, 1) := by decide +kernel
theorem d_X10_init_23 : decode b_X10_init 23 = .ok (.sipush 16002, 3) := by decide +kernel
theorem d_X10_init_26 : decode b_X10_init 26 = .ok (.newarray .int, 2) := by decide +kernel
theorem d_X10_init_28 : decode b_X10_init 28 = .ok (.putfield 18, 3) := by decide +kernel
theorem d_X10_init_31 : decode b_X10_init 31 = .ok (.aload_n 0, 1) := by decide +kernel
theorem d_X10_init_32 : decode b_X10_init 32 = .ok (.sipush 16002, 3) := by decide +kernel
theorem d_X10_init_35 : decode b_X10_init 35 = .ok (.newarray .int, 2) := by decide +kernel
theorem d_X10_init_37 : decode b_X10_init 37 = .ok (.putfield 21, 3) := by decide +kernel
theorem d_X10_init_40 : decode b_X10_init 40 = .ok (.aload_n 0, 1) := by decide +kernel
theorem d_X10_init_41 : decode b_X10_init 41 = .ok (.sipush 200, 3) := by decide +kernel
theorem d_X10_init_44 : decode b_X10_init 44 = .ok (.newarray .int, 2) := by decide +kernel
theorem d_X10_init_46 : decode b_X10_init 46 = .ok (.putfield 24, 3) := by decide +kernel
theorem d_X10_init_49 : decode b_X10_init 49 = .ok (.aload_n 0, 1) := by decide +kernel
theorem d_X10_init_50 : decode b_X10_init 50 = .ok (.aload_n 1, 1) := by decide +kernel
theorem d_X10_init_51 : decode b_X10_init 51 = .ok (.putfield 27, 3) := by decide +kernel
theorem d_X10_init_54 : decode b_X10_init 54 = .ok (.return_, 1) := by decide +kernel
theorem d_X3_init_0 : decode b_X3_init 0 = .ok (.aload_n 0, 1) := by decide +kernel
theorem d_X3_init_1 : decode b_X3_init 1 = .ok (.invokespecial 3, 3) := by decide +kernel
theorem d_X3_init_4 : decode b_X3_init 4 = .ok (.aload_n 0, 1) := by decide +kernel
theorem d_X3_init_5 : decode b_X3_init 5 = .ok (.sipush 32100, 3) := by decide +kernel
theorem d_X3_init_8 : decode b_X3_init 8 = .ok (.newarray .int, 2) := by decide +kernel
theorem d_X3_init_10 : decode b_X3_init 10 = .ok (.putfield 11, 3) := by decide +kernel
theorem d_X3_init_13 : decode b_X3_init 13 = .ok (.aload_n 0, 1) := by decide +kernel
theorem d_X3_init_14 : decode b_X3_init 14 = .ok (.sipush 32100, 3) := by decide +kernel
theorem d_X3_init_17 : decode b_X3_init 17 = .ok (.newarray .int, 2) := by decide +kernel
theorem d_X3_init_19 : decode b_X3_init 19 = .ok (.putfield 15, 3) := by decide +kernel
theorem d_X3_init_22 : decode b_X3_init 22 = .ok (.aload_n 0, 1) := by decide +kernel
theorem d_X3_init_23 : decode b_X3_init 23 = .ok (.sipush 32100, 3) := by decide +kernel
theorem d_X3_init_26 : decode b_X3_init 26 = .ok (.newarray .int, 2) := by decide +kernel
theorem d_X3_init_28 : decode b_X3_init 28 = .ok (.putfield 18, 3) := by decide +kernel
theorem d_X3_init_31 : decode b_X3_init 31 = .ok (.aload_n 0, 1) := by decide +kernel
theorem d_X3_init_32 : decode b_X3_init 32 = .ok (.sipush 32100, 3) := by decide +kernel
theorem d_X3_init_35 : decode b_X3_init 35 = .ok (.newarray .int, 2) := by decide +kernel
theorem d_X3_init_37 : decode b_X3_init 37 = .ok (.putfield 21, 3) := by decide +kernel
theorem d_X3_init_40 : decode b_X3_init 40 = .ok (.aload_n 0, 1) := by decide +kernel
theorem d_X3_init_41 : decode b_X3_init 41 = .ok (.sipush 400, 3) := by decide +kernel
theorem d_X3_init_44 : decode b_X3_init 44 = .ok (.newarray .int, 2) := by decide +kernel
theorem d_X3_init_46 : decode b_X3_init 46 = .ok (.putfield 24, 3) := by decide +kernel
theorem d_X3_init_49 : decode b_X3_init 49 = .ok (.aload_n 0, 1) := by decide +kernel
theorem d_X3_init_50 : decode b_X3_init 50 = .ok (.bipush 8, 2) := by decide +kernel
theorem d_X3_init_52 : decode b_X3_init 52 = .ok (.newarray .int, 2) := by decide +kernel
theorem d_X3_init_54 : decode b_X3_init 54 = .ok (.putfield 27, 3) := by decide +kernel
theorem d_X3_init_57 : decode b_X3_init 57 = .ok (.aload_n 0, 1) := by decide +kernel
theorem d_X3_init_58 : decode b_X3_init 58 = .ok (.aload_n 1, 1) := by decide +kernel
theorem d_X3_init_59 : decode b_X3_init 59 = .ok (.putfield 30, 3) := by decide +kernel
theorem d_X3_init_62 : decode b_X3_init 62 = .ok (.return_, 1) := by decide +kernel
theorem d_X0_init_0 : decode b_X0_init 0 = .ok (.aload_n 0, 1) := by decide +kernel
theorem d_X0_init_1 : decode b_X0_init 1 = .ok (.invokespecial 7, 3) := by decide +kernel
theorem d_X0_init_4 : decode b_X0_init 4 = .ok (.aload_n 0, 1) := by decide +kernel
theorem d_X0_init_5 : decode b_X0_init 5 = .ok (.ldc 13, 2) := by decide +kernel
theorem d_X0_init_7 : decode b_X0_init 7 = .ok (.newarray .int, 2) := by decide +kernel
theorem d_X0_init_9 : decode b_X0_init 9 = .ok (.putfield 14, 3) := by decide +kernel
theorem d_X0_init_12 : decode b_X0_init 12 = .ok (.aload_n 0, 1) := by decide +kernel
theorem d_X0_init_13 : decode b_X0_init 13 = .ok (.iconst 0, 1) := by decide +kernel
theorem d_X0_init_14 : decode b_X0_init 14 = .ok (.putfield 18, 3) := by decide +kernel
theorem d_X0_init_17 : decode b_X0_init 17 = .ok (.return_, 1) := by decide +kernel
theorem d_X11_init_0 : decode b_X11_init 0 = .ok (.aload_n 0, 1) := by decide +kernel
theorem d_X11_init_1 : decode b_X11_init 1 = .ok (.invokespecial 3, 3) := by decide +kernel
theorem d_X11_init_4 : decode b_X11_init 4 = .ok (.aload_n 0, 1) := by decide +kernel
theorem d_X11_init_5 : decode b_X11_init 5 = .ok (.bipush 100, 2) := by decide +kernel
theorem d_X11_init_7 : decode b_X11_init 7 = .ok (.newarray .int, 2) := by decide +kernel
theorem d_X11_init_9 : decode b_X11_init 9 = .ok (.putfield 9, 3) := by decide +kernel
theorem d_X11_init_12 : decode b_X11_init 12 = .ok (.aload_n 0, 1) := by decide +kernel
theorem d_X11_init_13 : decode b_X11_init 13 = .ok (.bipush 100, 2) := by decide +kernel
theorem d_X11_init_15 : decode b_X11_init 15 = .ok (.newarray .int, 2) := by decide +kernel
theorem d_X11_init_17 : decode b_X11_init 17 = .ok (.putfield 15, 3) := by decide +kernel
theorem d_X11_init_20 : decode b_X11_init 20 = .ok (.aload_n 0, 1) := by decide +kernel
theorem d_X11_init_21 : decode b_X11_init 21 = .ok (.bipush 100, 2) := by decide +kernel
theorem d_X11_init_23 : decode b_X11_init 23 = .ok (.newarray .int, 2) := by decide +kernel
theorem d_X11_init_25 : decode b_X11_init 25 = .ok (.putfield 18, 3) := by decide +kernel
theorem d_X11_init_28 : decode b_X11_init 28 = .ok (.aload_n 0, 1) := by decide +kernel
theorem d_X11_init_29 : decode b_X11_init 29 = .ok (.bipush 100, 2) := by decide +kernel
theorem d_X11_init_31 : decode b_X11_init 31 = .ok (.newarray .int, 2) := by decide +kernel
theorem d_X11_init_33 : decode b_X11_init 33 = .ok (.putfield 21, 3) := by decide +kernel
theorem d_X11_init_36 : decode b_X11_init 36 = .ok (.aload_n 0, 1) := by decide +kernel
theorem d_X11_init_37 : decode b_X11_init 37 = .ok (.bipush 100, 2) := by decide +kernel
theorem d_X11_init_39 : decode b_X11_init 39 = .ok (.newarray .int, 2) := by decide +kernel
theorem d_X11_init_41 : decode b_X11_init 41 = .ok (.putfield 24, 3) := by decide +kernel
theorem d_X11_init_44 : decode b_X11_init 44 = .ok (.aload_n 0, 1) := by decide +kernel
theorem d_X11_init_45 : decode b_X11_init 45 = .ok (.bipush 100, 2) := by decide +kernel
theorem d_X11_init_47 : decode b_X11_init 47 = .ok (.newarray .int, 2) := by decide +kernel
theorem d_X11_init_49 : decode b_X11_init 49 = .ok (.putfield 27, 3) := by decide +kernel
theorem d_X11_init_52 : decode b_X11_init 52 = .ok (.aload_n 0, 1) := by decide +kernel
theorem d_X11_init_53 : decode b_X11_init 53 = .ok (.bipush 100, 2) := by decide +kernel
theorem d_X11_init_55 : decode b_X11_init 55 = .ok (.newarray .int, 2) := by decide +kernel
theorem d_X11_init_57 : decode b_X11_init 57 = .ok (.putfield 30, 3) := by decide +kernel
theorem d_X11_init_60 : decode b_X11_init 60 = .ok (.aload_n 0, 1) := by decide +kernel
theorem d_X11_init_61 : decode b_X11_init 61 = .ok (.bipush 52, 2) := by decide +kernel
theorem d_X11_init_63 : decode b_X11_init 63 = .ok (.newarray .int, 2) := by decide +kernel
theorem d_X11_init_65 : decode b_X11_init 65 = .ok (.putfield 33, 3) := by decide +kernel
theorem d_X11_init_68 : decode b_X11_init 68 = .ok (.aload_n 0, 1) := by decide +kernel
theorem d_X11_init_69 : decode b_X11_init 69 = .ok (.aload_n 1, 1) := by decide +kernel
theorem d_X11_init_70 : decode b_X11_init 70 = .ok (.putfield 36, 3) := by decide +kernel
theorem d_X11_init_73 : decode b_X11_init 73 = .ok (.aload_n 0, 1) := by decide +kernel
theorem d_X11_init_74 : decode b_X11_init 74 = .ok (.aload_n 2, 1) := by decide +kernel
theorem d_X11_init_75 : decode b_X11_init 75 = .ok (.putfield 40, 3) := by decide +kernel
theorem d_X11_init_78 : decode b_X11_init 78 = .ok (.return_, 1) := by decide +kernel
theorem d_X6_init_0 : decode b_X6_init 0 = .ok (.aload_n 0, 1) := by decide +kernel
theorem d_X6_init_1 : decode b_X6_init 1 = .ok (.invokespecial 3, 3) := by decide +kernel
theorem d_X6_init_4 : decode b_X6_init 4 = .ok (.return_, 1) := by decide +kernel
theorem d_X1_init_0 : decode b_X1_init 0 = .ok (.aload_n 0, 1) := by decide +kernel
theorem d_X1_init_1 : decode b_X1_init 1 = .ok (.invokespecial 3, 3) := by decide +kernel
theorem d_X1_init_4 : decode b_X1_init 4 = .ok (.aload_n 0, 1) := by decide +kernel
theorem d_X1_init_5 : decode b_X1_init 5 = .ok (.bipush 100, 2) := by decide +kernel
theorem d_X1_init_7 : decode b_X1_init 7 = .ok (.newarray .int, 2) := by decide +kernel
theorem d_X1_init_9 : decode b_X1_init 9 = .ok (.putfield 9, 3) := by decide +kernel
theorem d_X1_init_12 : decode b_X1_init 12 = .ok (.aload_n 0, 1) := by decide +kernel
theorem d_X1_init_13 : decode b_X1_init 13 = .ok (.aload_n 1, 1) := by decide +kernel
theorem d_X1_init_14 : decode b_X1_init 14 = .ok (.putfield 15, 3) := by decide +kernel
theorem d_X1_init_17 : decode b_X1_init 17 = .ok (.aload_n 0, 1) := by decide +kernel
theorem d_X1_init_18 : decode b_X1_init 18 = .ok (.aload_n 2, 1) := by decide +kernel
theorem d_X1_init_19 : decode b_X1_init 19 = .ok (.getfield 19, 3) := by decide +kernel
theorem d_X1_init_22 : decode b_X1_init 22 = .ok (.putfield 25, 3) := by decide +kernel
theorem d_X1_init_25 : decode b_X1_init 25 = .ok (.aload_n 0, 1) := by decide +kernel
theorem d_X1_init_26 : decode b_X1_init 26 = .ok (.aload_n 2, 1) := by decide +kernel
theorem d_X1_init_27 : decode b_X1_init 27 = .ok (.putfield 26, 3) := by decide +kernel
theorem d_X1_init_30 : decode b_X1_init 30 = .ok (.aload_n 0, 1) := by decide +kernel
theorem d_X1_init_31 : decode b_X1_init 31 = .ok (.aload_n 2, 1) := by decide +kernel
theorem d_X1_init_32 : decode b_X1_init 32 = .ok (.getfield 30, 3) := by decide +kernel
theorem d_X1_init_35 : decode b_X1_init 35 = .ok (.putfield 34, 3) := by decide +kernel
theorem d_X1_init_38 : decode b_X1_init 38 = .ok (.aload_n 0, 1) := by decide +kernel
theorem d_X1_init_39 : decode b_X1_init 39 = .ok (.aload_n 3, 1) := by decide +kernel
theorem d_X1_init_40 : decode b_X1_init 40 = .ok (.getfield 35, 3) := by decide +kernel
theorem d_X1_init_43 : decode b_X1_init 43 = .ok (.putfield 41, 3) := by decide +kernel
theorem d_X1_init_46 : decode b_X1_init 46 = .ok (.aload_n 0, 1) := by decide +kernel
theorem d_X1_init_47 : decode b_X1_init 47 = .ok (.aload_n 3, 1) := by decide +kernel
theorem d_X1_init_48 : decode b_X1_init 48 = .ok (.putfield 42, 3) := by decide +kernel
theorem d_X1_init_51 : decode b_X1_init 51 = .ok (.return_, 1) := by decide +kernel
theorem d_X7_init_0 : decode b_X7_init 0 = .ok (.aload_n 0, 1) := by decide +kernel
theorem d_X7_init_1 : decode b_X7_init 1 = .ok (.invokespecial 3, 3) := by decide +kernel
theorem d_X7_init_4 : decode b_X7_init 4 = .ok (.aload_n 0, 1) := by decide +kernel
theorem d_X7_init_5 : decode b_X7_init 5 = .ok (.bipush 26, 2) := by decide +kernel
theorem d_X7_init_7 : decode b_X7_init 7 = .ok (.newarray .int, 2) := by decide +kernel
theorem d_X7_init_9 : decode b_X7_init 9 = .ok (.putfield 11, 3) := by decide +kernel
theorem d_X7_init_12 : decode b_X7_init 12 = .ok (.aload_n 0, 1) := by decide +kernel
theorem d_X7_init_13 : decode b_X7_init 13 = .ok (.bipush 26, 2) := by decide +kernel
theorem d_X7_init_15 : decode b_X7_init 15 = .ok (.newarray .int, 2) := by decide +kernel
theorem d_X7_init_17 : decode b_X7_init 17 = .ok (.putfield 15, 3) := by decide +kernel
theorem d_X7_init_20 : decode b_X7_init 20 = .ok (.aload_n 0, 1) := by decide +kernel
theorem d_X7_init_21 : decode b_X7_init 21 = .ok (.bipush 26, 2) := by decide +kernel
theorem d_X7_init_23 : decode b_X7_init 23 = .ok (.newarray .int, 2) := by decide +kernel
theorem d_X7_init_25 : decode b_X7_init 25 = .ok (.putfield 18, 3) := by decide +kernel
theorem d_X7_init_28 : decode b_X7_init 28 = .ok (.aload_n 0, 1) := by decide +kernel
theorem d_X7_init_29 : decode b_X7_init 29 = .ok (.bipush 26, 2) := by decide +kernel
theorem d_X7_init_31 : decode b_X7_init 31 = .ok (.newarray .int, 2) := by decide +kernel
theorem d_X7_init_33 : decode b_X7_init 33 = .ok (.putfield 21, 3) := by decide +kernel
theorem d_X7_init_36 : decode b_X7_init 36 = .ok (.aload_n 0, 1) := by decide +kernel
theorem d_X7_init_37 : decode b_X7_init 37 = .ok (.bipush 26, 2) := by decide +kernel
theorem d_X7_init_39 : decode b_X7_init 39 = .ok (.newarray .int, 2) := by decide +kernel
theorem d_X7_init_41 : decode b_X7_init 41 = .ok (.putfield 24, 3) := by decide +kernel
theorem d_X7_init_44 : decode b_X7_init 44 = .ok (.aload_n 0, 1) := by decide +kernel
theorem d_X7_init_45 : decode b_X7_init 45 = .ok (.bipush 26, 2) := by decide +kernel
theorem d_X7_init_47 : decode b_X7_init 47 = .ok (.newarray .int, 2) := by decide +kernel
theorem d_X7_init_49 : decode b_X7_init 49 = .ok (.putfield 27, 3) := by decide +kernel
theorem d_X7_init_52 : decode b_X7_init 52 = .ok (.aload_n 0, 1) := by decide +kernel
theorem d_X7_init_53 : decode b_X7_init 53 = .ok (.aload_n 1, 1) := by decide +kernel
theorem d_X7_init_54 : decode b_X7_init 54 = .ok (.putfield 30, 3) := by decide +kernel
theorem d_X7_init_57 : decode b_X7_init 57 = .ok (.aload_n 0, 1) := by decide +kernel
theorem d_X7_init_58 : decode b_X7_init 58 = .ok (.aload_n 2, 1) := by decide +kernel
theorem d_X7_init_59 : decode b_X7_init 59 = .ok (.putfield 34, 3) := by decide +kernel
theorem d_X7_init_62 : decode b_X7_init 62 = .ok (.aload_n 0, 1) := by decide +kernel
theorem d_X7_init_63 : decode b_X7_init 63 = .ok (.aload_n 3, 1) := by decide +kernel
theorem d_X7_init_64 : decode b_X7_init 64 = .ok (.getfield 38, 3) := by decide +kernel
theorem d_X7_init_67 : decode b_X7_init 67 = .ok (.putfield 44, 3) := by decide +kernel
theorem d_X7_init_70 : decode b_X7_init 70 = .ok (.aload_n 0, 1) := by decide +kernel
theorem d_X7_init_71 : decode b_X7_init 71 = .ok (.aload_n 3, 1) := by decide +kernel
theorem d_X7_init_72 : decode b_X7_init 72 = .ok (.getfield 45, 3) := by decide +kernel
theorem d_X7_init_75 : decode b_X7_init 75 = .ok (.putfield 49, 3) := by decide +kernel
theorem d_X7_init_78 : decode b_X7_init 78 = .ok (.aload_n 0, 1) := by decide +kernel
theorem d_X7_init_79 : decode b_X7_init 79 = .ok (.aload_n 3, 1) := by decide +kernel
theorem d_X7_init_80 : decode b_X7_init 80 = .ok (.putfield 50, 3) := by decide +kernel
theorem d_X7_init_83 : decode b_X7_init 83 = .ok (.return_, 1) := by decide +kernel
theorem d_X4_init_0 : decode b_X4_init 0 = .ok (.aload_n 0, 1) := by decide +kernel
theorem d_X4_init_1 : decode b_X4_init 1 = .ok (.invokespecial 3, 3) := by decide +kernel
theorem d_X4_init_4 : decode b_X4_init 4 = .ok (.aload_n 0, 1) := by decide +kernel
theorem d_X4_init_5 : decode b_X4_init 5 = .ok (.iconst 4, 1) := by decide +kernel
theorem d_X4_init_6 : decode b_X4_init 6 = .ok (.newarray .byte, 2) := by decide +kernel
theorem d_X4_init_8 : decode b_X4_init 8 = .ok (.putfield 11, 3) := by decide +kernel
theorem d_X4_init_11 : decode b_X4_init 11 = .ok (.aload_n 0, 1) := by decide +kernel
theorem d_X4_init_12 : decode b_X4_init 12 = .ok (.iconst 0, 1) := by decide +kernel
theorem d_X4_init_13 : decode b_X4_init 13 = .ok (.putfield 15, 3) := by decide +kernel
theorem d_X4_init_16 : decode b_X4_init 16 = .ok (.aload_n 0, 1) := by decide +kernel
theorem d_X4_init_17 : decode b_X4_init 17 = .ok (.iconst (-1), 1) := by decide +kernel
theorem d_X4_init_18 : decode b_X4_init 18 = .ok (.putfield 19, 3) := by decide +kernel
theorem d_X4_init_21 : decode b_X4_init 21 = .ok (.aload_n 0, 1) := by decide +kernel
theorem d_X4_init_22 : decode b_X4_init 22 = .ok (.iconst (-1), 1) := by decide +kernel
theorem d_X4_init_23 : decode b_X4_init 23 = .ok (.putfield 23, 3) := by decide +kernel
theorem d_X4_init_26 : decode b_X4_init 26 = .ok (.aload_n 0, 1) := by decide +kernel
theorem d_X4_init_27 : decode b_X4_init 27 = .ok (.iconst 1, 1) := by decide +kernel
theorem d_X4_init_28 : decode b_X4_init 28 = .ok (.putfield 26, 3) := by decide +kernel
theorem d_X4_init_31 : decode b_X4_init 31 = .ok (.aload_n 0, 1) := by decide +kernel
theorem d_X4_init_32 : decode b_X4_init 32 = .ok (.bipush 101, 2) := by decide +kernel
theorem d_X4_init_34 : decode b_X4_init 34 = .ok (.newarray .int, 2) := by decide +kernel
theorem d_X4_init_36 : decode b_X4_init 36 = .ok (.putfield 29, 3) := by decide +kernel
theorem d_X4_init_39 : decode b_X4_init 39 = .ok (.aload_n 0, 1) := by decide +kernel
theorem d_X4_init_40 : decode b_X4_init 40 = .ok (.iconst 0, 1) := by decide +kernel
theorem d_X4_init_41 : decode b_X4_init 41 = .ok (.putfield 33, 3) := by decide +kernel
theorem d_X4_init_44 : decode b_X4_init 44 = .ok (.aload_n 0, 1) := by decide +kernel
theorem d_X4_init_45 : decode b_X4_init 45 = .ok (.bipush 101, 2) := by decide +kernel
theorem d_X4_init_47 : decode b_X4_init 47 = .ok (.newarray .int, 2) := by decide +kernel
theorem d_X4_init_49 : decode b_X4_init 49 = .ok (.putfield 36, 3) := by decide +kernel
theorem d_X4_init_52 : decode b_X4_init 52 = .ok (.aload_n 0, 1) := by decide +kernel
theorem d_X4_init_53 : decode b_X4_init 53 = .ok (.bipush 101, 2) := by decide +kernel
theorem d_X4_init_55 : decode b_X4_init 55 = .ok (.newarray .int, 2) := by decide +kernel
theorem d_X4_init_57 : decode b_X4_init 57 = .ok (.putfield 39, 3) := by decide +kernel
theorem d_X4_init_60 : decode b_X4_init 60 = .ok (.aload_n 0, 1) := by decide +kernel
theorem d_X4_init_61 : decode b_X4_init 61 = .ok (.sipush 10100, 3) := by decide +kernel
theorem d_X4_init_64 : decode b_X4_init 64 = .ok (.newarray .int, 2) := by decide +kernel
theorem d_X4_init_66 : decode b_X4_init 66 = .ok (.putfield 44, 3) := by decide +kernel
theorem d_X4_init_69 : decode b_X4_init 69 = .ok (.aload_n 0, 1) := by decide +kernel
theorem d_X4_init_70 : decode b_X4_init 70 = .ok (.iconst 0, 1) := by decide +kernel
theorem d_X4_init_71 : decode b_X4_init 71 = .ok (.putfield 47, 3) := by decide +kernel
theorem d_X4_init_74 : decode b_X4_init 74 = .ok (.aload_n 0, 1) := by decide +kernel
theorem d_X4_init_75 : decode b_X4_init 75 = .ok (.aload_n 1, 1) := by decide +kernel
theorem d_X4_init_76 : decode b_X4_init 76 = .ok (.putfield 50, 3) := by decide +kernel
theorem d_X4_init_79 : decode b_X4_init 79 = .ok (.aload_n 0, 1) := by decide +kernel
theorem d_X4_init_80 : decode b_X4_init 80 = .ok (.getfield 11, 3) := by decide +kernel
theorem d_X4_init_83 : decode b_X4_init 83 = .ok (.iconst 0, 1) := by decide +kernel
theorem d_X4_init_84 : decode b_X4_init 84 = .ok (.bipush 109, 2) := by decide +kernel
theorem d_X4_init_86 : decode b_X4_init 86 = .ok (.bastore, 1) := by decide +kernel
theorem d_X4_init_87 : decode b_X4_init 87 = .ok (.aload_n 0, 1) := by decide +kernel
theorem d_X4_init_88 : decode b_X4_init 88 = .ok (.getfield 11, 3) := by decide +kernel
theorem d_X4_init_91 : decode b_X4_init 91 = .ok (.iconst 1, 1) := by decide +kernel
theorem d_X4_init_92 : decode b_X4_init 92 = .ok (.bipush 97, 2) := by decide +kernel
theorem d_X4_init_94 : decode b_X4_init 94 = .ok (.bastore, 1) := by decide +kernel
theorem d_X4_init_95 : decode b_X4_init 95 = .ok (.aload_n 0, 1) := by decide +kernel
theorem d_X4_init_96 : decode b_X4_init 96 = .ok (.getfield 11, 3) := by decide +kernel
theorem d_X4_init_99 : decode b_X4_init 99 = .ok (.iconst 2, 1) := by decide +kernel
theorem d_X4_init_100 : decode b_X4_init 100 = .ok (.bipush 105, 2) := by decide +kernel
theorem d_X4_init_102 : decode b_X4_init 102 = .ok (.bastore, 1) := by decide +kernel
theorem d_X4_init_103 : decode b_X4_init 103 = .ok (.aload_n 0, 1) := by decide +kernel
theorem d_X4_init_104 : decode b_X4_init 104 = .ok (.getfield 11, 3) := by decide +kernel
theorem d_X4_init_107 : decode b_X4_init 107 = .ok (.iconst 3, 1) := by decide +kernel
theorem d_X4_init_108 : decode b_X4_init 108 = .ok (.bipush 110, 2) := by decide +kernel
theorem d_X4_init_110 : decode b_X4_init 110 = .ok (.bastore, 1) := by decide +kernel
theorem d_X4_init_111 : decode b_X4_init 111 = .ok (.return_, 1) := by decide +kernel
theorem d_X9_init_0 : decode b_X9_init 0 = .ok (.aload_n 0, 1) := by decide +kernel
theorem d_X9_init_1 : decode b_X9_init 1 = .ok (.invokespecial 1, 3) := by decide +kernel
theorem d_X9_init_4 : decode b_X9_init 4 = .ok (.aload_n 0, 1) := by decide +kernel
theorem d_X9_init_5 : decode b_X9_init 5 = .ok (.iconst 0, 1) := by decide +kernel
theorem d_X9_init_6 : decode b_X9_init 6 = .ok (.putfield 7, 3) := by decide +kernel
theorem d_X9_init_9 : decode b_X9_init 9 = .ok (.aload_n 0, 1) := by decide +kernel
theorem d_X9_init_10 : decode b_X9_init 10 = .ok (.iconst 0, 1) := by decide +kernel
theorem d_X9_init_11 : decode b_X9_init 11 = .ok (.putfield 13, 3) := by decide +kernel
theorem d_X9_init_14 : decode b_X9_init 14 = .ok (.aload_n 0, 1) := by decide +kernel
theorem d_X9_init_15 : decode b_X9_init 15 = .ok (.iconst 0, 1) := by decide +kernel
theorem d_X9_init_16 : decode b_X9_init 16 = .ok (.putfield 16, 3) := by decide +kernel
theorem d_X9_init_19 : decode b_X9_init 19 = .ok (.aload_n 0, 1) := by decide +kernel
theorem d_X9_init_20 : decode b_X9_init 20 = .ok (.sipush 4096, 3) := by decide +kernel
theorem d_X9_init_23 : decode b_X9_init 23 = .ok (.newarray .byte, 2) := by decide +kernel
theorem d_X9_init_25 : decode b_X9_init 25 = .ok (.putfield 19, 3) := by decide +kernel
theorem d_X9_init_28 : decode b_X9_init 28 = .ok (.aload_n 0, 1) := by decide +kernel
theorem d_X9_init_29 : decode b_X9_init 29 = .ok (.sipush 4096, 3) := by decide +kernel
theorem d_X9_init_32 : decode b_X9_init 32 = .ok (.newarray .byte, 2) := by decide +kernel
theorem d_X9_init_34 : decode b_X9_init 34 = .ok (.putfield 23, 3) := by decide +kernel
theorem d_X9_init_37 : decode b_X9_init 37 = .ok (.return_, 1) := by decide +kernel
theorem d_X5_init_0 : decode b_X5_init 0 = .ok (.aload_n 0, 1) := by decide +kernel
theorem d_X5_init_1 : decode b_X5_init 1 = .ok (.invokespecial 5, 3) := by decide +kernel
theorem d_X5_init_4 : decode b_X5_init 4 = .ok (.aload_n 0, 1) := by decide +kernel
theorem d_X5_init_5 : decode b_X5_init 5 = .ok (.ldc 11, 2) := by decide +kernel
theorem d_X5_init_7 : decode b_X5_init 7 = .ok (.newarray .int, 2) := by decide +kernel
theorem d_X5_init_9 : decode b_X5_init 9 = .ok (.putfield 12, 3) := by decide +kernel
theorem d_X5_init_12 : decode b_X5_init 12 = .ok (.aload_n 0, 1) := by decide +kernel
theorem d_X5_init_13 : decode b_X5_init 13 = .ok (.ldc 16, 2) := by decide +kernel
theorem d_X5_init_15 : decode b_X5_init 15 = .ok (.newarray .int, 2) := by decide +kernel
theorem d_X5_init_17 : decode b_X5_init 17 = .ok (.putfield 17, 3) := by decide +kernel
theorem d_X5_init_20 : decode b_X5_init 20 = .ok (.aload_n 0, 1) := by decide +kernel
theorem d_X5_init_21 : decode b_X5_init 21 = .ok (.sipush 771, 3) := by decide +kernel
theorem d_X5_init_24 : decode b_X5_init 24 = .ok (.newarray .int, 2) := by decide +kernel
theorem d_X5_init_26 : decode b_X5_init 26 = .ok (.putfield 20, 3) := by decide +kernel
theorem d_X5_init_29 : decode b_X5_init 29 = .ok (.aload_n 0, 1) := by decide +kernel
theorem d_X5_init_30 : decode b_X5_init 30 = .ok (.iconst 0, 1) := by decide +kernel
theorem d_X5_init_31 : decode b_X5_init 31 = .ok (.putfield 23, 3) := by decide +kernel
theorem d_X5_init_34 : decode b_X5_init 34 = .ok (.aload_n 0, 1) := by decide +kernel
theorem d_X5_init_35 : decode b_X5_init 35 = .ok (.iconst 0, 1) := by decide +kernel
theorem d_X5_init_36 : decode b_X5_init 36 = .ok (.putfield 27, 3) := by decide +kernel
theorem d_X5_init_39 : decode b_X5_init 39 = .ok (.aload_n 0, 1) := by decide +kernel
theorem d_X5_init_40 : decode b_X5_init 40 = .ok (.iconst (-1), 1) := by decide +kernel
theorem d_X5_init_41 : decode b_X5_init 41 = .ok (.putfield 30, 3) := by decide +kernel
theorem d_X5_init_44 : decode b_X5_init 44 = .ok (.aload_n 0, 1) := by decide +kernel
theorem d_X5_init_45 : decode b_X5_init 45 = .ok (.iconst 0, 1) := by decide +kernel
theorem d_X5_init_46 : decode b_X5_init 46 = .ok (.putfield 33, 3) := by decide +kernel
theorem d_X5_init_49 : decode b_X5_init 49 = .ok (.aload_n 0, 1) := by decide +kernel
theorem d_X5_init_50 : decode b_X5_init 50 = .ok (.iconst 0, 1) := by decide +kernel
theorem d_X5_init_51 : decode b_X5_init 51 = .ok (.putfield 36, 3) := by decide +kernel
theorem d_X5_init_54 : decode b_X5_init 54 = .ok (.aload_n 0, 1) := by decide +kernel
theorem d_X5_init_55 : decode b_X5_init 55 = .ok (.aload_n 1, 1) := by decide +kernel
theorem d_X5_init_56 : decode b_X5_init 56 = .ok (.putfield 39, 3) := by decide +kernel
theorem d_X5_init_59 : decode b_X5_init 59 = .ok (.aload_n 0, 1) := by decide +kernel
theorem d_X5_init_60 : decode b_X5_init 60 = .ok (.aload_n 1, 1) := by decide +kernel
theorem d_X5_init_61 : decode b_X5_init 61 = .ok (.getfield 43, 3) := by decide +kernel
theorem d_X5_init_64 : decode b_X5_init 64 = .ok (.putfield 49, 3) := by decide +kernel
theorem d_X5_init_67 : decode b_X5_init 67 = .ok (.aload_n 0, 1) := by decide +kernel
theorem d_X5_init_68 : decode b_X5_init 68 = .ok (.aload_n 2, 1) := by decide +kernel
theorem d_X5_init_69 : decode b_X5_init 69 = .ok (.putfield 50, 3) := by decide +kernel
theorem d_X5_init_72 : decode b_X5_init 72 = .ok (.aload_n 0, 1) := by decide +kernel
theorem d_X5_init_73 : decode b_X5_init 73 = .ok (.aload_n 0, 1) := by decide +kernel
theorem d_X5_init_74 : decode b_X5_init 74 = .ok (.getfield 49, 3) := by decide +kernel
theorem d_X5_init_77 : decode b_X5_init 77 = .ok (.getfield 54, 3) := by decide +kernel
theorem d_X5_init_80 : decode b_X5_init 80 = .ok (.getfield 60, 3) := by decide +kernel
theorem d_X5_init_83 : decode b_X5_init 83 = .ok (.putfield 65, 3) := by decide +kernel
theorem d_X5_init_86 : decode b_X5_init 86 = .ok (.return_, 1) := by decide +kernel
theorem d_X8_init_0 : decode b_X8_init 0 = .ok (.aload_n 0, 1) := by decide +kernel
theorem d_X8_init_1 : decode b_X8_init 1 = .ok (.invokespecial 3, 3) := by decide +kernel
theorem d_X8_init_4 : decode b_X8_init 4 = .ok (.aload_n 0, 1) := by decide +kernel
theorem d_X8_init_5 : decode b_X8_init 5 = .ok (.iconst 0, 1) := by decide +kernel
theorem d_X8_init_6 : decode b_X8_init 6 = .ok (.putfield 9, 3) := by decide +kernel
theorem d_X8_init_9 : decode b_X8_init 9 = .ok (.aload_n 0, 1) := by decide +kernel
theorem d_X8_init_10 : decode b_X8_init 10 = .ok (.sipush 10100, 3) := by decide +kernel
theorem d_X8_init_13 : decode b_X8_init 13 = .ok (.newarray .int, 2) := by decide +kernel
theorem d_X8_init_15 : decode b_X8_init 15 = .ok (.putfield 15, 3) := by decide +kernel
theorem d_X8_init_18 : decode b_X8_init 18 = .ok (.aload_n 0, 1) := by decide +kernel
theorem d_X8_init_19 : decode b_X8_init 19 = .ok (.sipush 10100, 3) := by decide +kernel
theorem d_X8_init_22 : decode b_X8_init 22 = .ok (.newarray .int, 2) := by decide +kernel
theorem d_X8_init_24 : decode b_X8_init 24 = .ok (.putfield 19, 3) := by decide +kernel
theorem d_X8_init_27 : decode b_X8_init 27 = .ok (.aload_n 0, 1) := by decide +kernel
theorem d_X8_init_28 : decode b_X8_init 28 = .ok (.sipush 10100, 3) := by decide +kernel
theorem d_X8_init_31 : decode b_X8_init 31 = .ok (.newarray .int, 2) := by decide +kernel
theorem d_X8_init_33 : decode b_X8_init 33 = .ok (.putfield 22, 3) := by decide +kernel
theorem d_X8_init_36 : decode b_X8_init 36 = .ok (.aload_n 0, 1) := by decide +kernel
theorem d_X8_init_37 : decode b_X8_init 37 = .ok (.sipush 10100, 3) := by decide +kernel
theorem d_X8_init_40 : decode b_X8_init 40 = .ok (.newarray .int, 2) := by decide +kernel
theorem d_X8_init_42 : decode b_X8_init 42 = .ok (.putfield 25, 3) := by decide +kernel
theorem d_X8_init_45 : decode b_X8_init 45 = .ok (.aload_n 0, 1) := by decide +kernel
theorem d_X8_init_46 : decode b_X8_init 46 = .ok (.sipush 10100, 3) := by decide +kernel
theorem d_X8_init_49 : decode b_X8_init 49 = .ok (.newarray .int, 2) := by decide +kernel
theorem d_X8_init_51 : decode b_X8_init 51 = .ok (.putfield 28, 3) := by decide +kernel
theorem d_X8_init_54 : decode b_X8_init 54 = .ok (.aload_n 0, 1) := by decide +kernel
theorem d_X8_init_55 : decode b_X8_init 55 = .ok (.iconst 0, 1) := by decide +kernel
theorem d_X8_init_56 : decode b_X8_init 56 = .ok (.putfield 31, 3) := by decide +kernel
theorem d_X8_init_59 : decode b_X8_init 59 = .ok (.aload_n 0, 1) := by decide +kernel
theorem d_X8_init_60 : decode b_X8_init 60 = .ok (.ldc 34, 2) := by decide +kernel
theorem d_X8_init_62 : decode b_X8_init 62 = .ok (.newarray .byte, 2) := by decide +kernel
theorem d_X8_init_64 : decode b_X8_init 64 = .ok (.putfield 35, 3) := by decide +kernel
theorem d_X8_init_67 : decode b_X8_init 67 = .ok (.aload_n 0, 1) := by decide +kernel
theorem d_X8_init_68 : decode b_X8_init 68 = .ok (.iconst 0, 1) := by decide +kernel
theorem d_X8_init_69 : decode b_X8_init 69 = .ok (.putfield 39, 3) := by decide +kernel
theorem d_X8_init_72 : decode b_X8_init 72 = .ok (.aload_n 0, 1) := by decide +kernel
theorem d_X8_init_73 : decode b_X8_init 73 = .ok (.ldc 42, 2) := by decide +kernel
theorem d_X8_init_75 : decode b_X8_init 75 = .ok (.newarray .int, 2) := by decide +kernel
theorem d_X8_init_77 : decode b_X8_init 77 = .ok (.putfield 43, 3) := by decide +kernel
theorem d_X8_init_80 : decode b_X8_init 80 = .ok (.aload_n 0, 1) := by decide +kernel
theorem d_X8_init_81 : decode b_X8_init 81 = .ok (.ldc 42, 2) := by decide +kernel
theorem d_X8_init_83 : decode b_X8_init 83 = .ok (.newarray .int, 2) := by decide +kernel
theorem d_X8_init_85 : decode b_X8_init 85 = .ok (.putfield 46, 3) := by decide +kernel
theorem d_X8_init_88 : decode b_X8_init 88 = .ok (.aload_n 0, 1) := by decide +kernel
theorem d_X8_init_89 : decode b_X8_init 89 = .ok (.ldc 42, 2) := by decide +kernel
theorem d_X8_init_91 : decode b_X8_init 91 = .ok (.newarray .int, 2) := by decide +kernel
theorem d_X8_init_93 : decode b_X8_init 93 = .ok (.putfield 49, 3) := by decide +kernel
theorem d_X8_init_96 : decode b_X8_init 96 = .ok (.aload_n 0, 1) := by decide +kernel
theorem d_X8_init_97 : decode b_X8_init 97 = .ok (.iconst 0, 1) := by decide +kernel
theorem d_X8_init_98 : decode b_X8_init 98 = .ok (.putfield 52, 3) := by decide +kernel
theorem d_X8_init_101 : decode b_X8_init 101 = .ok (.aload_n 0, 1) := by decide +kernel
theorem d_X8_init_102 : decode b_X8_init 102 = .ok (.bipush 101, 2) := by decide +kernel
theorem d_X8_init_104 : decode b_X8_init 104 = .ok (.newarray .int, 2) := by decide +kernel
theorem d_X8_init_106 : decode b_X8_init 106 = .ok (.putfield 55, 3) := by decide +kernel
theorem d_X8_init_109 : decode b_X8_init 109 = .ok (.aload_n 0, 1) := by decide +kernel
theorem d_X8_init_110 : decode b_X8_init 110 = .ok (.bipush 101, 2) := by decide +kernel
theorem d_X8_init_112 : decode b_X8_init 112 = .ok (.newarray .int, 2) := by decide +kernel
theorem d_X8_init_114 : decode b_X8_init 114 = .ok (.putfield 58, 3) := by decide +kernel
theorem d_X8_init_117 : decode b_X8_init 117 = .ok (.aload_n 0, 1) := by decide +kernel
theorem d_X8_init_118 : decode b_X8_init 118 = .ok (.bipush 101, 2) := by decide +kernel
theorem d_X8_init_120 : decode b_X8_init 120 = .ok (.newarray .int, 2) := by decide +kernel
theorem d_X8_init_122 : decode b_X8_init 122 = .ok (.putfield 61, 3) := by decide +kernel
theorem d_X8_init_125 : decode b_X8_init 125 = .ok (.aload_n 0, 1) := by decide +kernel
theorem d_X8_init_126 : decode b_X8_init 126 = .ok (.bipush 101, 2) := by decide +kernel
theorem d_X8_init_128 : decode b_X8_init 128 = .ok (.newarray .int, 2) := by decide +kernel
theorem d_X8_init_130 : decode b_X8_init 130 = .ok (.putfield 64, 3) := by decide +kernel
theorem d_X8_init_133 : decode b_X8_init 133 = .ok (.aload_n 0, 1) := by decide +kernel
theorem d_X8_init_134 : decode b_X8_init 134 = .ok (.aload_n 1, 1) := by decide +kernel
theorem d_X8_init_135 : decode b_X8_init 135 = .ok (.putfield 67, 3) := by decide +kernel
theorem d_X8_init_138 : decode b_X8_init 138 = .ok (.iconst 0, 1) := by decide +kernel
theorem d_X8_init_139 : decode b_X8_init 139 = .ok (.istore_n 2, 1) := by decide +kernel
theorem d_X8_init_140 : decode b_X8_init 140 = .ok (.iload_n 2, 1) := by decide +kernel
theorem d_X8_init_141 : decode b_X8_init 141 = .ok (.ldc 71, 2) := by decide +kernel
theorem d_X8_init_143 : decode b_X8_init 143 = .ok (.invokevirtual 73, 3) := by decide +kernel
theorem d_X8_init_146 : decode b_X8_init 146 = .ok (.if_icmp .ge 140, 3) := by decide +kernel
theorem d_X8_init_149 : decode b_X8_init 149 = .ok (.ldc 71, 2) := by decide +kernel
theorem d_X8_init_151 : decode b_X8_init 151 = .ok (.iload_n 2, 1) := by decide +kernel
theorem d_X8_init_152 : decode b_X8_init 152 = .ok (.invokevirtual 79, 3) := by decide +kernel
theorem d_X8_init_155 : decode b_X8_init 155 = .ok (.bipush 32, 2) := by decide +kernel
theorem d_X8_init_157 : decode b_X8_init 157 = .ok (.if_icmp .eq 32, 3) := by decide +kernel
theorem d_X8_init_160 : decode b_X8_init 160 = .ok (.aload_n 0, 1) := by decide +kernel
theorem d_X8_init_161 : decode b_X8_init 161 = .ok (.getfield 35, 3) := by decide +kernel
theorem d_X8_init_164 : decode b_X8_init 164 = .ok (.aload_n 0, 1) := by decide +kernel
theorem d_X8_init_165 : decode b_X8_init 165 = .ok (.getfield 31, 3) := by decide +kernel
theorem d_X8_init_168 : decode b_X8_init 168 = .ok (.ldc 71, 2) := by decide +kernel
theorem d_X8_init_170 : decode b_X8_init 170 = .ok (.iload_n 2, 1) := by decide +kernel
theorem d_X8_init_171 : decode b_X8_init 171 = .ok (.invokevirtual 79, 3) := by decide +kernel
theorem d_X8_init_174 : decode b_X8_init 174 = .ok (.i2b, 1) := by decide +kernel
theorem d_X8_init_175 : decode b_X8_init 175 = .ok (.bastore, 1) := by decide +kernel
theorem d_X8_init_176 : decode b_X8_init 176 = .ok (.aload_n 0, 1) := by decide +kernel
theorem d_X8_init_177 : decode b_X8_init 177 = .ok (.dup, 1) := by decide +kernel
theorem d_X8_init_178 : decode b_X8_init 178 = .ok (.getfield 31, 3) := by decide +kernel
theorem d_X8_init_181 : decode b_X8_init 181 = .ok (.iconst 1, 1) := by decide +kernel
theorem d_X8_init_182 : decode b_X8_init 182 = .ok (.iadd, 1) := by decide +kernel
theorem d_X8_init_183 : decode b_X8_init 183 = .ok (.putfield 31, 3) := by decide +kernel
theorem d_X8_init_186 : decode b_X8_init 186 = .ok (.goto 94, 3) := by decide +kernel
theorem d_X8_init_189 : decode b_X8_init 189 = .ok (.aload_n 0, 1) := by decide +kernel
theorem d_X8_init_190 : decode b_X8_init 190 = .ok (.getfield 15, 3) := by decide +kernel
theorem d_X8_init_193 : decode b_X8_init 193 = .ok (.aload_n 0, 1) := by decide +kernel
theorem d_X8_init_194 : decode b_X8_init 194 = .ok (.getfield 9, 3) := by decide +kernel
theorem d_X8_init_197 : decode b_X8_init 197 = .ok (.iconst 5, 1) := by decide +kernel
theorem d_X8_init_198 : decode b_X8_init 198 = .ok (.iastore, 1) := by decide +kernel
theorem d_X8_init_199 : decode b_X8_init 199 = .ok (.aload_n 0, 1) := by decide +kernel
theorem d_X8_init_200 : decode b_X8_init 200 = .ok (.getfield 19, 3) := by decide +kernel
theorem d_X8_init_203 : decode b_X8_init 203 = .ok (.aload_n 0, 1) := by decide +kernel
theorem d_X8_init_204 : decode b_X8_init 204 = .ok (.getfield 9, 3) := by decide +kernel
theorem d_X8_init_207 : decode b_X8_init 207 = .ok (.aload_n 0, 1) := by decide +kernel
theorem d_X8_init_208 : decode b_X8_init 208 = .ok (.getfield 9, 3) := by decide +kernel
theorem d_X8_init_211 : decode b_X8_init 211 = .ok (.ifCond .ne 7, 3) := by decide +kernel
theorem d_X8_init_214 : decode b_X8_init 214 = .ok (.iconst 0, 1) := by decide +kernel
theorem d_X8_init_215 : decode b_X8_init 215 = .ok (.goto 4, 3) := by decide +kernel
theorem d_X8_init_218 : decode b_X8_init 218 = .ok (.iconst (-1), 1) := by decide +kernel
theorem d_X8_init_219 : decode b_X8_init 219 = .ok (.iastore, 1) := by decide +kernel
theorem d_X8_init_220 : decode b_X8_init 220 = .ok (.aload_n 0, 1) := by decide +kernel
theorem d_X8_init_221 : decode b_X8_init 221 = .ok (.getfield 22, 3) := by decide +kernel
theorem d_X8_init_224 : decode b_X8_init 224 = .ok (.aload_n 0, 1) := by decide +kernel
theorem d_X8_init_225 : decode b_X8_init 225 = .ok (.getfield 9, 3) := by decide +kernel
theorem d_X8_init_228 : decode b_X8_init 228 = .ok (.aload_n 0, 1) := by decide +kernel
theorem d_X8_init_229 : decode b_X8_init 229 = .ok (.getfield 9, 3) := by decide +kernel
theorem d_X8_init_232 : decode b_X8_init 232 = .ok (.ifCond .ne 7, 3) := by decide +kernel
theorem d_X8_init_235 : decode b_X8_init 235 = .ok (.iconst 0, 1) := by decide +kernel
theorem d_X8_init_236 : decode b_X8_init 236 = .ok (.goto 5, 3) := by decide +kernel
theorem d_X8_init_239 : decode b_X8_init 239 = .ok (.ldc 83, 2) := by decide +kernel
theorem d_X8_init_241 : decode b_X8_init 241 = .ok (.iastore, 1) := by decide +kernel
theorem d_X8_init_242 : decode b_X8_init 242 = .ok (.aload_n 0, 1) := by decide +kernel
theorem d_X8_init_243 : decode b_X8_init 243 = .ok (.getfield 25, 3) := by decide +kernel
theorem d_X8_init_246 : decode b_X8_init 246 = .ok (.aload_n 0, 1) := by decide +kernel
theorem d_X8_init_247 : decode b_X8_init 247 = .ok (.getfield 9, 3) := by decide +kernel
theorem d_X8_init_250 : decode b_X8_init 250 = .ok (.iconst (-1), 1) := by decide +kernel
theorem d_X8_init_251 : decode b_X8_init 251 = .ok (.aload_n 0, 1) := by decide +kernel
theorem d_X8_init_252 : decode b_X8_init 252 = .ok (.getfield 9, 3) := by decide +kernel
theorem d_X8_init_255 : decode b_X8_init 255 = .ok (.isub, 1) := by decide +kernel
theorem d_X8_init_256 : decode b_X8_init 256 = .ok (.iastore, 1) := by decide +kernel
theorem d_X8_init_257 : decode b_X8_init 257 = .ok (.aload_n 0, 1) := by decide +kernel
theorem d_X8_init_258 : decode b_X8_init 258 = .ok (.getfield 28, 3) := by decide +kernel
theorem d_X8_init_261 : decode b_X8_init 261 = .ok (.aload_n 0, 1) := by decide +kernel
theorem d_X8_init_262 : decode b_X8_init 262 = .ok (.getfield 9, 3) := by decide +kernel
theorem d_X8_init_265 : decode b_X8_init 265 = .ok (.aload_n 0, 1) := by decide +kernel
theorem d_X8_init_266 : decode b_X8_init 266 = .ok (.getfield 31, 3) := by decide +kernel
theorem d_X8_init_269 : decode b_X8_init 269 = .ok (.iastore, 1) := by decide +kernel
theorem d_X8_init_270 : decode b_X8_init 270 = .ok (.aload_n 0, 1) := by decide +kernel
theorem d_X8_init_271 : decode b_X8_init 271 = .ok (.dup, 1) := by decide +kernel
theorem d_X8_init_272 : decode b_X8_init 272 = .ok (.getfield 9, 3) := by decide +kernel
theorem d_X8_init_275 : decode b_X8_init 275 = .ok (.iconst 1, 1) := by decide +kernel
theorem d_X8_init_276 : decode b_X8_init 276 = .ok (.iadd, 1) := by decide +kernel
theorem d_X8_init_277 : decode b_X8_init 277 = .ok (.putfield 9, 3) := by decide +kernel
theorem d_X8_init_280 : decode b_X8_init 280 = .ok (.iinc 2 1, 3) := by decide +kernel
theorem d_X8_init_283 : decode b_X8_init 283 = .ok (.goto (-143), 3) := by decide +kernel
theorem d_X8_init_286 : decode b_X8_init 286 = .ok (.aload_n 0, 1) := by decide +kernel
theorem d_X8_init_287 : decode b_X8_init 287 = .ok (.getfield 55, 3) := by decide +kernel
theorem d_X8_init_290 : decode b_X8_init 290 = .ok (.iconst 0, 1) := by decide +kernel
theorem d_X8_init_291 : decode b_X8_init 291 = .ok (.aload_n 0, 1) := by decide +kernel
theorem d_X8_init_292 : decode b_X8_init 292 = .ok (.getfield 9, 3) := by decide +kernel
theorem d_X8_init_295 : decode b_X8_init 295 = .ok (.iastore, 1) := by decide +kernel
theorem d_X8_init_296 : decode b_X8_init 296 = .ok (.return_, 1) := by decide +kernel
theorem d_X2_init_0 : decode b_X2_init 0 = .ok (.aload_n 0, 1) := by decide +kernel
theorem d_X2_init_1 : decode b_X2_init 1 = .ok (.invokespecial 3, 3) := by decide +kernel
theorem d_X2_init_4 : decode b_X2_init 4 = .ok (.aload_n 0, 1) := by decide +kernel
theorem d_X2_init_5 : decode b_X2_init 5 = .ok (.sipush 500, 3) := by decide +kernel
theorem d_X2_init_8 : decode b_X2_init 8 = .ok (.anewarray 11, 3) := by decide +kernel
theorem d_X2_init_11 : decode b_X2_init 11 = .ok (.putfield 13, 3) := by decide +kernel
theorem d_X2_init_14 : decode b_X2_init 14 = .ok (.aload_n 0, 1) := by decide +kernel
theorem d_X2_init_15 : decode b_X2_init 15 = .ok (.new 11, 3) := by decide +kernel
theorem d_X2_init_18 : decode b_X2_init 18 = .ok (.dup, 1) := by decide +kernel
theorem d_X2_init_19 : decode b_X2_init 19 = .ok (.invokespecial 17, 3) := by decide +kernel
theorem d_X2_init_22 : decode b_X2_init 22 = .ok (.putfield 18, 3) := by decide +kernel
theorem d_X2_init_25 : decode b_X2_init 25 = .ok (.aload_n 0, 1) := by decide +kernel
theorem d_X2_init_26 : decode b_X2_init 26 = .ok (.iconst 0, 1) := by decide +kernel
theorem d_X2_init_27 : decode b_X2_init 27 = .ok (.putfield 22, 3) := by decide +kernel
theorem d_X2_init_30 : decode b_X2_init 30 = .ok (.aload_n 0, 1) := by decide +kernel
theorem d_X2_init_31 : decode b_X2_init 31 = .ok (.aload_n 1, 1) := by decide +kernel
theorem d_X2_init_32 : decode b_X2_init 32 = .ok (.putfield 26, 3) := by decide +kernel
theorem d_X2_init_35 : decode b_X2_init 35 = .ok (.aload_n 0, 1) := by decide +kernel
theorem d_X2_init_36 : decode b_X2_init 36 = .ok (.aload_n 2, 1) := by decide +kernel
theorem d_X2_init_37 : decode b_X2_init 37 = .ok (.getfield 30, 3) := by decide +kernel
theorem d_X2_init_40 : decode b_X2_init 40 = .ok (.putfield 36, 3) := by decide +kernel
theorem d_X2_init_43 : decode b_X2_init 43 = .ok (.aload_n 0, 1) := by decide +kernel
theorem d_X2_init_44 : decode b_X2_init 44 = .ok (.aload_n 2, 1) := by decide +kernel
theorem d_X2_init_45 : decode b_X2_init 45 = .ok (.putfield 37, 3) := by decide +kernel
theorem d_X2_init_48 : decode b_X2_init 48 = .ok (.aload_n 0, 1) := by decide +kernel
theorem d_X2_init_49 : decode b_X2_init 49 = .ok (.aload_n 2, 1) := by decide +kernel
theorem d_X2_init_50 : decode b_X2_init 50 = .ok (.getfield 41, 3) := by decide +kernel
theorem d_X2_init_53 : decode b_X2_init 53 = .ok (.putfield 45, 3) := by decide +kernel
theorem d_X2_init_56 : decode b_X2_init 56 = .ok (.aload_n 0, 1) := by decide +kernel
theorem d_X2_init_57 : decode b_X2_init 57 = .ok (.aload_n 3, 1) := by decide +kernel
theorem d_X2_init_58 : decode b_X2_init 58 = .ok (.putfield 46, 3) := by decide +kernel
theorem d_X2_init_61 : decode b_X2_init 61 = .ok (.iconst 0, 1) := by decide +kernel
theorem d_X2_init_62 : decode b_X2_init 62 = .ok (.istore 4, 2) := by decide +kernel
theorem d_X2_init_64 : decode b_X2_init 64 = .ok (.iload 4, 2) := by decide +kernel
theorem d_X2_init_66 : decode b_X2_init 66 = .ok (.aload_n 0, 1) := by decide +kernel
theorem d_X2_init_67 : decode b_X2_init 67 = .ok (.getfield 13, 3) := by decide +kernel
theorem d_X2_init_70 : decode b_X2_init 70 = .ok (.arraylength, 1) := by decide +kernel
theorem d_X2_init_71 : decode b_X2_init 71 = .ok (.if_icmp .ge 23, 3) := by decide +kernel
theorem d_X2_init_74 : decode b_X2_init 74 = .ok (.aload_n 0, 1) := by decide +kernel
theorem d_X2_init_75 : decode b_X2_init 75 = .ok (.getfield 13, 3) := by decide +kernel
theorem d_X2_init_78 : decode b_X2_init 78 = .ok (.iload 4, 2) := by decide +kernel
theorem d_X2_init_80 : decode b_X2_init 80 = .ok (.new 11, 3) := by decide +kernel
theorem d_X2_init_83 : decode b_X2_init 83 = .ok (.dup, 1) := by decide +kernel
theorem d_X2_init_84 : decode b_X2_init 84 = .ok (.invokespecial 17, 3) := by decide +kernel
theorem d_X2_init_87 : decode b_X2_init 87 = .ok (.aastore, 1) := by decide +kernel
theorem d_X2_init_88 : decode b_X2_init 88 = .ok (.iinc 4 1, 3) := by decide +kernel
theorem d_X2_init_91 : decode b_X2_init 91 = .ok (.goto (-27), 3) := by decide +kernel
theorem d_X2_init_94 : decode b_X2_init 94 = .ok (.return_, 1) := by decide +kernel
theorem d_X12_init_0 : decode b_X12_init 0 = .ok (.aload_n 0, 1) := by decide +kernel
theorem d_X12_init_1 : decode b_X12_init 1 = .ok (.invokespecial 1, 3) := by decide +kernel
theorem d_X12_init_4 : decode b_X12_init 4 = .ok (.aload_n 0, 1) := by decide +kernel
theorem d_X12_init_5 : decode b_X12_init 5 = .ok (.sipush 16000, 3) := by decide +kernel
theorem d_X12_init_8 : decode b_X12_init 8 = .ok (.newarray .byte, 2) := by decide +kernel
theorem d_X12_init_10 : decode b_X12_init 10 = .ok (.putfield 9, 3) := by decide +kernel
theorem d_X12_init_13 : decode b_X12_init 13 = .ok (.aload_n 0, 1) := by decide +kernel
theorem d_X12_init_14 : decode b_X12_init 14 = .ok (.iconst 0, 1) := by decide +kernel
theorem d_X12_init_15 : decode b_X12_init 15 = .ok (.putfield 13, 3) := by decide +kernel
theorem d_X12_init_18 : decode b_X12_init 18 = .ok (.aload_n 0, 1) := by decide +kernel
theorem d_X12_init_19 : decode b_X12_init 19 = .ok (.iconst 0, 1) := by decide +kernel
theorem d_X12_init_20 : decode b_X12_init 20 = .ok (.putfield 17, 3) := by decide +kernel
theorem d_X12_init_23 : decode b_X12_init 23 = .ok (.aload_n 0, 1) := by decide +kernel
theorem d_X12_init_24 : decode b_X12_init 24 = .ok (.iconst (-1), 1) := by decide +kernel
theorem d_X12_init_25 : decode b_X12_init 25 = .ok (.putfield 20, 3) := by decide +kernel
theorem d_X12_init_28 : decode b_X12_init 28 = .ok (.aload_n 0, 1) := by decide +kernel
theorem d_X12_init_29 : decode b_X12_init 29 = .ok (.new 23, 3) := by decide +kernel
theorem d_X12_init_32 : decode b_X12_init 32 = .ok (.dup, 1) := by decide +kernel
theorem d_X12_init_33 : decode b_X12_init 33 = .ok (.aload_n 0, 1) := by decide +kernel
theorem d_X12_init_34 : decode b_X12_init 34 = .ok (.getfield 9, 3) := by decide +kernel
theorem d_X12_init_37 : decode b_X12_init 37 = .ok (.invokespecial 25, 3) := by decide +kernel
theorem d_X12_init_40 : decode b_X12_init 40 = .ok (.putfield 28, 3) := by decide +kernel
theorem d_X12_init_43 : decode b_X12_init 43 = .ok (.aload_n 0, 1) := by decide +kernel
theorem d_X12_init_44 : decode b_X12_init 44 = .ok (.new 32, 3) := by decide +kernel
theorem d_X12_init_47 : decode b_X12_init 47 = .ok (.dup, 1) := by decide +kernel
theorem d_X12_init_48 : decode b_X12_init 48 = .ok (.aload_n 0, 1) := by decide +kernel
theorem d_X12_init_49 : decode b_X12_init 49 = .ok (.getfield 28, 3) := by decide +kernel
theorem d_X12_init_52 : decode b_X12_init 52 = .ok (.invokespecial 34, 3) := by decide +kernel
theorem d_X12_init_55 : decode b_X12_init 55 = .ok (.putfield 37, 3) := by decide +kernel
theorem d_X12_init_58 : decode b_X12_init 58 = .ok (.aload_n 0, 1) := by decide +kernel
theorem d_X12_init_59 : decode b_X12_init 59 = .ok (.new 41, 3) := by decide +kernel
theorem d_X12_init_62 : decode b_X12_init 62 = .ok (.dup, 1) := by decide +kernel
theorem d_X12_init_63 : decode b_X12_init 63 = .ok (.invokespecial 43, 3) := by decide +kernel
theorem d_X12_init_66 : decode b_X12_init 66 = .ok (.putfield 44, 3) := by decide +kernel
theorem d_X12_init_69 : decode b_X12_init 69 = .ok (.aload_n 0, 1) := by decide +kernel
theorem d_X12_init_70 : decode b_X12_init 70 = .ok (.new 48, 3) := by decide +kernel
theorem d_X12_init_73 : decode b_X12_init 73 = .ok (.dup, 1) := by decide +kernel
theorem d_X12_init_74 : decode b_X12_init 74 = .ok (.aload_n 0, 1) := by decide +kernel
theorem d_X12_init_75 : decode b_X12_init 75 = .ok (.getfield 44, 3) := by decide +kernel
theorem d_X12_init_78 : decode b_X12_init 78 = .ok (.invokespecial 50, 3) := by decide +kernel
theorem d_X12_init_81 : decode b_X12_init 81 = .ok (.putfield 53, 3) := by decide +kernel
theorem d_X12_init_84 : decode b_X12_init 84 = .ok (.aload_n 0, 1) := by decide +kernel
theorem d_X12_init_85 : decode b_X12_init 85 = .ok (.new 57, 3) := by decide +kernel
theorem d_X12_init_88 : decode b_X12_init 88 = .ok (.dup, 1) := by decide +kernel
theorem d_X12_init_89 : decode b_X12_init 89 = .ok (.aload_n 0, 1) := by decide +kernel
theorem d_X12_init_90 : decode b_X12_init 90 = .ok (.getfield 28, 3) := by decide +kernel
theorem d_X12_init_93 : decode b_X12_init 93 = .ok (.aload_n 0, 1) := by decide +kernel
theorem d_X12_init_94 : decode b_X12_init 94 = .ok (.getfield 53, 3) := by decide +kernel
theorem d_X12_init_97 : decode b_X12_init 97 = .ok (.invokespecial 59, 3) := by decide +kernel
theorem d_X12_init_100 : decode b_X12_init 100 = .ok (.putfield 62, 3) := by decide +kernel
theorem d_X12_init_103 : decode b_X12_init 103 = .ok (.aload_n 0, 1) := by decide +kernel
theorem d_X12_init_104 : decode b_X12_init 104 = .ok (.new 66, 3) := by decide +kernel
theorem d_X12_init_107 : decode b_X12_init 107 = .ok (.dup, 1) := by decide +kernel
theorem d_X12_init_108 : decode b_X12_init 108 = .ok (.aload_n 0, 1) := by decide +kernel
theorem d_X12_init_109 : decode b_X12_init 109 = .ok (.getfield 37, 3) := by decide +kernel
theorem d_X12_init_112 : decode b_X12_init 112 = .ok (.aload_n 0, 1) := by decide +kernel
theorem d_X12_init_113 : decode b_X12_init 113 = .ok (.getfield 62, 3) := by decide +kernel
theorem d_X12_init_116 : decode b_X12_init 116 = .ok (.aload_n 0, 1) := by decide +kernel
theorem d_X12_init_117 : decode b_X12_init 117 = .ok (.getfield 44, 3) := by decide +kernel
theorem d_X12_init_120 : decode b_X12_init 120 = .ok (.invokespecial 68, 3) := by decide +kernel
theorem d_X12_init_123 : decode b_X12_init 123 = .ok (.putfield 71, 3) := by decide +kernel
theorem d_X12_init_126 : decode b_X12_init 126 = .ok (.aload_n 0, 1) := by decide +kernel
theorem d_X12_init_127 : decode b_X12_init 127 = .ok (.new 75, 3) := by decide +kernel
theorem d_X12_init_130 : decode b_X12_init 130 = .ok (.dup, 1) := by decide +kernel
theorem d_X12_init_131 : decode b_X12_init 131 = .ok (.aload_n 0, 1) := by decide +kernel
theorem d_X12_init_132 : decode b_X12_init 132 = .ok (.getfield 37, 3) := by decide +kernel
theorem d_X12_init_135 : decode b_X12_init 135 = .ok (.aload_n 0, 1) := by decide +kernel
theorem d_X12_init_136 : decode b_X12_init 136 = .ok (.getfield 62, 3) := by decide +kernel
theorem d_X12_init_139 : decode b_X12_init 139 = .ok (.aload_n 0, 1) := by decide +kernel
theorem d_X12_init_140 : decode b_X12_init 140 = .ok (.getfield 71, 3) := by decide +kernel
theorem d_X12_init_143 : decode b_X12_init 143 = .ok (.invokespecial 77, 3) := by decide +kernel
theorem d_X12_init_146 : decode b_X12_init 146 = .ok (.putfield 80, 3) := by decide +kernel
theorem d_X12_init_149 : decode b_X12_init 149 = .ok (.aload_n 0, 1) := by decide +kernel
theorem d_X12_init_150 : decode b_X12_init 150 = .ok (.new 84, 3) := by decide +kernel
theorem d_X12_init_153 : decode b_X12_init 153 = .ok (.dup, 1) := by decide +kernel
theorem d_X12_init_154 : decode b_X12_init 154 = .ok (.aload_n 0, 1) := by decide +kernel
theorem d_X12_init_155 : decode b_X12_init 155 = .ok (.getfield 37, 3) := by decide +kernel
theorem d_X12_init_158 : decode b_X12_init 158 = .ok (.aload_n 0, 1) := by decide +kernel
theorem d_X12_init_159 : decode b_X12_init 159 = .ok (.getfield 62, 3) := by decide +kernel
theorem d_X12_init_162 : decode b_X12_init 162 = .ok (.aload_n 0, 1) := by decide +kernel
theorem d_X12_init_163 : decode b_X12_init 163 = .ok (.getfield 80, 3) := by decide +kernel
theorem d_X12_init_166 : decode b_X12_init 166 = .ok (.invokespecial 86, 3) := by decide +kernel
theorem d_X12_init_169 : decode b_X12_init 169 = .ok (.putfield 89, 3) := by decide +kernel
theorem d_X12_init_172 : decode b_X12_init 172 = .ok (.aload_n 0, 1) := by decide +kernel
theorem d_X12_init_173 : decode b_X12_init 173 = .ok (.new 93, 3) := by decide +kernel
theorem d_X12_init_176 : decode b_X12_init 176 = .ok (.dup, 1) := by decide +kernel
theorem d_X12_init_177 : decode b_X12_init 177 = .ok (.aload_n 0, 1) := by decide +kernel
theorem d_X12_init_178 : decode b_X12_init 178 = .ok (.getfield 53, 3) := by decide +kernel
theorem d_X12_init_181 : decode b_X12_init 181 = .ok (.invokespecial 95, 3) := by decide +kernel
theorem d_X12_init_184 : decode b_X12_init 184 = .ok (.putfield 98, 3) := by decide +kernel
theorem d_X12_init_187 : decode b_X12_init 187 = .ok (.aload_n 0, 1) := by decide +kernel
theorem d_X12_init_188 : decode b_X12_init 188 = .ok (.new 102, 3) := by decide +kernel
theorem d_X12_init_191 : decode b_X12_init 191 = .ok (.dup, 1) := by decide +kernel
theorem d_X12_init_192 : decode b_X12_init 192 = .ok (.invokespecial 104, 3) := by decide +kernel
theorem d_X12_init_195 : decode b_X12_init 195 = .ok (.putfield 105, 3) := by decide +kernel
theorem d_X12_init_198 : decode b_X12_init 198 = .ok (.aload_n 0, 1) := by decide +kernel
theorem d_X12_init_199 : decode b_X12_init 199 = .ok (.new 109, 3) := by decide +kernel
theorem d_X12_init_202 : decode b_X12_init 202 = .ok (.dup, 1) := by decide +kernel
theorem d_X12_init_203 : decode b_X12_init 203 = .ok (.aload_n 0, 1) := by decide +kernel
theorem d_X12_init_204 : decode b_X12_init 204 = .ok (.getfield 98, 3) := by decide +kernel
theorem d_X12_init_207 : decode b_X12_init 207 = .ok (.aload_n 0, 1) := by decide +kernel
theorem d_X12_init_208 : decode b_X12_init 208 = .ok (.getfield 105, 3) := by decide +kernel
theorem d_X12_init_211 : decode b_X12_init 211 = .ok (.invokespecial 111, 3) := by decide +kernel
theorem d_X12_init_214 : decode b_X12_init 214 = .ok (.putfield 114, 3) := by decide +kernel
theorem d_X12_init_217 : decode b_X12_init 217 = .ok (.return_, 1) := by decide +kernel
theorem d_X14_init_0 : decode b_X14_init 0 = .ok (.aload_n 0, 1) := by decide +kernel
theorem d_X14_init_1 : decode b_X14_init 1 = .ok (.invokespecial 3, 3) := by decide +kernel
theorem d_X14_init_4 : decode b_X14_init 4 = .ok (.aload_n 0, 1) := by decide +kernel
theorem d_X14_init_5 : decode b_X14_init 5 = .ok (.sipush 16000, 3) := by decide +kernel
theorem d_X14_init_8 : decode b_X14_init 8 = .ok (.newarray .byte, 2) := by decide +kernel
theorem d_X14_init_10 : decode b_X14_init 10 = .ok (.putfield 9, 3) := by decide +kernel
theorem d_X14_init_13 : decode b_X14_init 13 = .ok (.aload_n 0, 1) := by decide +kernel
theorem d_X14_init_14 : decode b_X14_init 14 = .ok (.sipush 16002, 3) := by decide +kernel
theorem d_X14_init_17 : decode b_X14_init 17 = .ok (.newarray .int, 2) := by decide +kernel
theorem d_X14_init_19 : decode b_X14_init 19 = .ok (.putfield 13, 3) := by decide +kernel
theorem d_X14_init_22 : decode b_X14_init 22 = .ok (.aload_n 0, 1) := by decide +kernel
theorem d_X14_init_23 : decode b_X14_init 23 = .ok (.sipush 16002, 3) := by decide +kernel
theorem d_X14_init_26 : decode b_X14_init 26 = .ok (.newarray .int, 2) := by decide +kernel
theorem d_X14_init_28 : decode b_X14_init 28 = .ok (.putfield 17, 3) := by decide +kernel
theorem d_X14_init_31 : decode b_X14_init 31 = .ok (.aload_n 0, 1) := by decide +kernel
theorem d_X14_init_32 : decode b_X14_init 32 = .ok (.sipush 16002, 3) := by decide +kernel
theorem d_X14_init_35 : decode b_X14_init 35 = .ok (.newarray .int, 2) := by decide +kernel
theorem d_X14_init_37 : decode b_X14_init 37 = .ok (.putfield 20, 3) := by decide +kernel
theorem d_X14_init_40 : decode b_X14_init 40 = .ok (.aload_n 0, 1) := by decide +kernel
theorem d_X14_init_41 : decode b_X14_init 41 = .ok (.sipush 16002, 3) := by decide +kernel
theorem d_X14_init_44 : decode b_X14_init 44 = .ok (.newarray .int, 2) := by decide +kernel
theorem d_X14_init_46 : decode b_X14_init 46 = .ok (.putfield 23, 3) := by decide +kernel
theorem d_X14_init_49 : decode b_X14_init 49 = .ok (.aload_n 0, 1) := by decide +kernel
theorem d_X14_init_50 : decode b_X14_init 50 = .ok (.sipush 16002, 3) := by decide +kernel
theorem d_X14_init_53 : decode b_X14_init 53 = .ok (.newarray .int, 2) := by decide +kernel
theorem d_X14_init_55 : decode b_X14_init 55 = .ok (.putfield 26, 3) := by decide +kernel
theorem d_X14_init_58 : decode b_X14_init 58 = .ok (.aload_n 0, 1) := by decide +kernel
theorem d_X14_init_59 : decode b_X14_init 59 = .ok (.new 29, 3) := by decide +kernel
theorem d_X14_init_62 : decode b_X14_init 62 = .ok (.dup, 1) := by decide +kernel
theorem d_X14_init_63 : decode b_X14_init 63 = .ok (.invokespecial 31, 3) := by decide +kernel
theorem d_X14_init_66 : decode b_X14_init 66 = .ok (.putfield 32, 3) := by decide +kernel
theorem d_X14_init_69 : decode b_X14_init 69 = .ok (.aload_n 0, 1) := by decide +kernel
theorem d_X14_init_70 : decode b_X14_init 70 = .ok (.iconst (-1), 1) := by decide +kernel
theorem d_X14_init_71 : decode b_X14_init 71 = .ok (.putfield 36, 3) := by decide +kernel
theorem d_X14_init_74 : decode b_X14_init 74 = .ok (.aload_n 0, 1) := by decide +kernel
theorem d_X14_init_75 : decode b_X14_init 75 = .ok (.ldc 40, 2) := by decide +kernel
theorem d_X14_init_77 : decode b_X14_init 77 = .ok (.newarray .int, 2) := by decide +kernel
theorem d_X14_init_79 : decode b_X14_init 79 = .ok (.putfield 41, 3) := by decide +kernel
theorem d_X14_init_82 : decode b_X14_init 82 = .ok (.aload_n 0, 1) := by decide +kernel
theorem d_X14_init_83 : decode b_X14_init 83 = .ok (.sipush 10000, 3) := by decide +kernel
theorem d_X14_init_86 : decode b_X14_init 86 = .ok (.newarray .int, 2) := by decide +kernel
theorem d_X14_init_88 : decode b_X14_init 88 = .ok (.putfield 44, 3) := by decide +kernel
theorem d_X14_init_91 : decode b_X14_init 91 = .ok (.aload_n 0, 1) := by decide +kernel
theorem d_X14_init_92 : decode b_X14_init 92 = .ok (.sipush 10000, 3) := by decide +kernel
theorem d_X14_init_95 : decode b_X14_init 95 = .ok (.newarray .int, 2) := by decide +kernel
theorem d_X14_init_97 : decode b_X14_init 97 = .ok (.putfield 47, 3) := by decide +kernel
theorem d_X14_init_100 : decode b_X14_init 100 = .ok (.aload_n 0, 1) := by decide +kernel
theorem d_X14_init_101 : decode b_X14_init 101 = .ok (.sipush 10000, 3) := by decide +kernel
theorem d_X14_init_104 : decode b_X14_init 104 = .ok (.newarray .int, 2) := by decide +kernel
theorem d_X14_init_106 : decode b_X14_init 106 = .ok (.putfield 50, 3) := by decide +kernel
theorem d_X14_init_109 : decode b_X14_init 109 = .ok (.aload_n 0, 1) := by decide +kernel
theorem d_X14_init_110 : decode b_X14_init 110 = .ok (.sipush 10000, 3) := by decide +kernel
theorem d_X14_init_113 : decode b_X14_init 113 = .ok (.newarray .boolean, 2) := by decide +kernel
theorem d_X14_init_115 : decode b_X14_init 115 = .ok (.putfield 53, 3) := by decide +kernel
theorem d_X14_init_118 : decode b_X14_init 118 = .ok (.aload_n 0, 1) := by decide +kernel
theorem d_X14_init_119 : decode b_X14_init 119 = .ok (.sipush 10000, 3) := by decide +kernel
theorem d_X14_init_122 : decode b_X14_init 122 = .ok (.newarray .boolean, 2) := by decide +kernel
theorem d_X14_init_124 : decode b_X14_init 124 = .ok (.putfield 57, 3) := by decide +kernel
theorem d_X14_init_127 : decode b_X14_init 127 = .ok (.aload_n 0, 1) := by decide +kernel
theorem d_X14_init_128 : decode b_X14_init 128 = .ok (.sipush 10000, 3) := by decide +kernel
theorem d_X14_init_131 : decode b_X14_init 131 = .ok (.newarray .boolean, 2) := by decide +kernel
theorem d_X14_init_133 : decode b_X14_init 133 = .ok (.putfield 60, 3) := by decide +kernel
theorem d_X14_init_136 : decode b_X14_init 136 = .ok (.aload_n 0, 1) := by decide +kernel
theorem d_X14_init_137 : decode b_X14_init 137 = .ok (.sipush 10000, 3) := by decide +kernel
theorem d_X14_init_140 : decode b_X14_init 140 = .ok (.newarray .int, 2) := by decide +kernel
theorem d_X14_init_142 : decode b_X14_init 142 = .ok (.putfield 63, 3) := by decide +kernel
theorem d_X14_init_145 : decode b_X14_init 145 = .ok (.aload_n 0, 1) := by decide +kernel
theorem d_X14_init_146 : decode b_X14_init 146 = .ok (.ldc 66, 2) := by decide +kernel
theorem d_X14_init_148 : decode b_X14_init 148 = .ok (.newarray .int, 2) := by decide +kernel
theorem d_X14_init_150 : decode b_X14_init 150 = .ok (.putfield 67, 3) := by decide +kernel
theorem d_X14_init_153 : decode b_X14_init 153 = .ok (.aload_n 0, 1) := by decide +kernel
theorem d_X14_init_154 : decode b_X14_init 154 = .ok (.sipush 10000, 3) := by decide +kernel
theorem d_X14_init_157 : decode b_X14_init 157 = .ok (.newarray .int, 2) := by decide +kernel
theorem d_X14_init_159 : decode b_X14_init 159 = .ok (.putfield 70, 3) := by decide +kernel
theorem d_X14_init_162 : decode b_X14_init 162 = .ok (.aload_n 0, 1) := by decide +kernel
theorem d_X14_init_163 : decode b_X14_init 163 = .ok (.sipush 10000, 3) := by decide +kernel
theorem d_X14_init_166 : decode b_X14_init 166 = .ok (.newarray .int, 2) := by decide +kernel
theorem d_X14_init_168 : decode b_X14_init 168 = .ok (.putfield 73, 3) := by decide +kernel
theorem d_X14_init_171 : decode b_X14_init 171 = .ok (.aload_n 0, 1) := by decide +kernel
theorem d_X14_init_172 : decode b_X14_init 172 = .ok (.sipush 10000, 3) := by decide +kernel
theorem d_X14_init_175 : decode b_X14_init 175 = .ok (.newarray .int, 2) := by decide +kernel
theorem d_X14_init_177 : decode b_X14_init 177 = .ok (.putfield 76, 3) := by decide +kernel
theorem d_X14_init_180 : decode b_X14_init 180 = .ok (.aload_n 0, 1) := by decide +kernel
theorem d_X14_init_181 : decode b_X14_init 181 = .ok (.ldc 79, 2) := by decide +kernel
theorem d_X14_init_183 : decode b_X14_init 183 = .ok (.newarray .byte, 2) := by decide +kernel
theorem d_X14_init_185 : decode b_X14_init 185 = .ok (.putfield 80, 3) := by decide +kernel
theorem d_X14_init_188 : decode b_X14_init 188 = .ok (.aload_n 0, 1) := by decide +kernel
theorem d_X14_init_189 : decode b_X14_init 189 = .ok (.bipush 100, 2) := by decide +kernel
theorem d_X14_init_191 : decode b_X14_init 191 = .ok (.newarray .int, 2) := by decide +kernel
theorem d_X14_init_193 : decode b_X14_init 193 = .ok (.putfield 83, 3) := by decide +kernel
theorem d_X14_init_196 : decode b_X14_init 196 = .ok (.aload_n 0, 1) := by decide +kernel
theorem d_X14_init_197 : decode b_X14_init 197 = .ok (.bipush 102, 2) := by decide +kernel
theorem d_X14_init_199 : decode b_X14_init 199 = .ok (.newarray .int, 2) := by decide +kernel
theorem d_X14_init_201 : decode b_X14_init 201 = .ok (.putfield 86, 3) := by decide +kernel
theorem d_X14_init_204 : decode b_X14_init 204 = .ok (.aload_n 0, 1) := by decide +kernel
theorem d_X14_init_205 : decode b_X14_init 205 = .ok (.bipush 102, 2) := by decide +kernel
theorem d_X14_init_207 : decode b_X14_init 207 = .ok (.newarray .int, 2) := by decide +kernel
theorem d_X14_init_209 : decode b_X14_init 209 = .ok (.putfield 89, 3) := by decide +kernel
theorem d_X14_init_212 : decode b_X14_init 212 = .ok (.aload_n 0, 1) := by decide +kernel
theorem d_X14_init_213 : decode b_X14_init 213 = .ok (.bipush 102, 2) := by decide +kernel
theorem d_X14_init_215 : decode b_X14_init 215 = .ok (.newarray .int, 2) := by decide +kernel
theorem d_X14_init_217 : decode b_X14_init 217 = .ok (.putfield 92, 3) := by decide +kernel
theorem d_X14_init_220 : decode b_X14_init 220 = .ok (.aload_n 0, 1) := by decide +kernel
theorem d_X14_init_221 : decode b_X14_init 221 = .ok (.ldc 95, 2) := by decide +kernel
theorem d_X14_init_223 : decode b_X14_init 223 = .ok (.newarray .int, 2) := by decide +kernel
theorem d_X14_init_225 : decode b_X14_init 225 = .ok (.putfield 96, 3) := by decide +kernel
theorem d_X14_init_228 : decode b_X14_init 228 = .ok (.aload_n 0, 1) := by decide +kernel
theorem d_X14_init_229 : decode b_X14_init 229 = .ok (.sipush 10000, 3) := by decide +kernel
theorem d_X14_init_232 : decode b_X14_init 232 = .ok (.newarray .int, 2) := by decide +kernel
theorem d_X14_init_234 : decode b_X14_init 234 = .ok (.putfield 99, 3) := by decide +kernel
theorem d_X14_init_237 : decode b_X14_init 237 = .ok (.aload_n 0, 1) := by decide +kernel
theorem d_X14_init_238 : decode b_X14_init 238 = .ok (.sipush 10000, 3) := by decide +kernel
theorem d_X14_init_241 : decode b_X14_init 241 = .ok (.newarray .int, 2) := by decide +kernel
theorem d_X14_init_243 : decode b_X14_init 243 = .ok (.putfield 102, 3) := by decide +kernel
theorem d_X14_init_246 : decode b_X14_init 246 = .ok (.aload_n 0, 1) := by decide +kernel
theorem d_X14_init_247 : decode b_X14_init 247 = .ok (.sipush 10000, 3) := by decide +kernel
theorem d_X14_init_250 : decode b_X14_init 250 = .ok (.newarray .int, 2) := by decide +kernel
theorem d_X14_init_252 : decode b_X14_init 252 = .ok (.putfield 105, 3) := by decide +kernel
theorem d_X14_init_255 : decode b_X14_init 255 = .ok (.aload_n 0, 1) := by decide +kernel
theorem d_X14_init_256 : decode b_X14_init 256 = .ok (.sipush 10000, 3) := by decide +kernel
theorem d_X14_init_259 : decode b_X14_init 259 = .ok (.newarray .int, 2) := by decide +kernel
theorem d_X14_init_261 : decode b_X14_init 261 = .ok (.putfield 108, 3) := by decide +kernel
theorem d_X14_init_264 : decode b_X14_init 264 = .ok (.aload_n 0, 1) := by decide +kernel
theorem d_X14_init_265 : decode b_X14_init 265 = .ok (.sipush 10000, 3) := by decide +kernel
theorem d_X14_init_268 : decode b_X14_init 268 = .ok (.newarray .int, 2) := by decide +kernel
theorem d_X14_init_270 : decode b_X14_init 270 = .ok (.putfield 111, 3) := by decide +kernel
theorem d_X14_init_273 : decode b_X14_init 273 = .ok (.aload_n 0, 1) := by decide +kernel
theorem d_X14_init_274 : decode b_X14_init 274 = .ok (.bipush 100, 2) := by decide +kernel
theorem d_X14_init_276 : decode b_X14_init 276 = .ok (.newarray .int, 2) := by decide +kernel
theorem d_X14_init_278 : decode b_X14_init 278 = .ok (.putfield 114, 3) := by decide +kernel
theorem d_X14_init_281 : decode b_X14_init 281 = .ok (.aload_n 0, 1) := by decide +kernel
theorem d_X14_init_282 : decode b_X14_init 282 = .ok (.bipush 100, 2) := by decide +kernel
theorem d_X14_init_284 : decode b_X14_init 284 = .ok (.newarray .int, 2) := by decide +kernel
theorem d_X14_init_286 : decode b_X14_init 286 = .ok (.putfield 117, 3) := by decide +kernel
theorem d_X14_init_289 : decode b_X14_init 289 = .ok (.aload_n 0, 1) := by decide +kernel
theorem d_X14_init_290 : decode b_X14_init 290 = .ok (.bipush 100, 2) := by decide +kernel
theorem d_X14_init_292 : decode b_X14_init 292 = .ok (.newarray .boolean, 2) := by decide +kernel
theorem d_X14_init_294 : decode b_X14_init 294 = .ok (.putfield 120, 3) := by decide +kernel
theorem d_X14_init_297 : decode b_X14_init 297 = .ok (.aload_n 0, 1) := by decide +kernel
theorem d_X14_init_298 : decode b_X14_init 298 = .ok (.bipush 100, 2) := by decide +kernel
theorem d_X14_init_300 : decode b_X14_init 300 = .ok (.newarray .int, 2) := by decide +kernel
theorem d_X14_init_302 : decode b_X14_init 302 = .ok (.putfield 123, 3) := by decide +kernel
theorem d_X14_init_305 : decode b_X14_init 305 = .ok (.aload_n 0, 1) := by decide +kernel
theorem d_X14_init_306 : decode b_X14_init 306 = .ok (.bipush 100, 2) := by decide +kernel
theorem d_X14_init_308 : decode b_X14_init 308 = .ok (.newarray .int, 2) := by decide +kernel
theorem d_X14_init_310 : decode b_X14_init 310 = .ok (.putfield 126, 3) := by decide +kernel
theorem d_X14_init_313 : decode b_X14_init 313 = .ok (.aload_n 0, 1) := by decide +kernel
theorem d_X14_init_314 : decode b_X14_init 314 = .ok (.bipush 100, 2) := by decide +kernel
theorem d_X14_init_316 : decode b_X14_init 316 = .ok (.newarray .int, 2) := by decide +kernel
theorem d_X14_init_318 : decode b_X14_init 318 = .ok (.putfield 129, 3) := by decide +kernel
theorem d_X14_init_321 : decode b_X14_init 321 = .ok (.aload_n 0, 1) := by decide +kernel
theorem d_X14_init_322 : decode b_X14_init 322 = .ok (.bipush 8, 2) := by decide +kernel
theorem d_X14_init_324 : decode b_X14_init 324 = .ok (.newarray .int, 2) := by decide +kernel
theorem d_X14_init_326 : decode b_X14_init 326 = .ok (.putfield 132, 3) := by decide +kernel
theorem d_X14_init_329 : decode b_X14_init 329 = .ok (.aload_n 0, 1) := by decide +kernel
theorem d_X14_init_330 : decode b_X14_init 330 = .ok (.bipush 8, 2) := by decide +kernel
theorem d_X14_init_332 : decode b_X14_init 332 = .ok (.newarray .int, 2) := by decide +kernel
theorem d_X14_init_334 : decode b_X14_init 334 = .ok (.putfield 135, 3) := by decide +kernel
theorem d_X14_init_337 : decode b_X14_init 337 = .ok (.aload_n 0, 1) := by decide +kernel
theorem d_X14_init_338 : decode b_X14_init 338 = .ok (.bipush 8, 2) := by decide +kernel
theorem d_X14_init_340 : decode b_X14_init 340 = .ok (.newarray .int, 2) := by decide +kernel
theorem d_X14_init_342 : decode b_X14_init 342 = .ok (.putfield 138, 3) := by decide +kernel
theorem d_X14_init_345 : decode b_X14_init 345 = .ok (.aload_n 0, 1) := by decide +kernel
theorem d_X14_init_346 : decode b_X14_init 346 = .ok (.bipush 100, 2) := by decide +kernel
theorem d_X14_init_348 : decode b_X14_init 348 = .ok (.newarray .int, 2) := by decide +kernel
theorem d_X14_init_350 : decode b_X14_init 350 = .ok (.putfield 141, 3) := by decide +kernel
theorem d_X14_init_353 : decode b_X14_init 353 = .ok (.aload_n 0, 1) := by decide +kernel
theorem d_X14_init_354 : decode b_X14_init 354 = .ok (.bipush 100, 2) := by decide +kernel
theorem d_X14_init_356 : decode b_X14_init 356 = .ok (.newarray .int, 2) := by decide +kernel
theorem d_X14_init_358 : decode b_X14_init 358 = .ok (.putfield 144, 3) := by decide +kernel
theorem d_X14_init_361 : decode b_X14_init 361 = .ok (.aload_n 0, 1) := by decide +kernel
theorem d_X14_init_362 : decode b_X14_init 362 = .ok (.bipush 100, 2) := by decide +kernel
theorem d_X14_init_364 : decode b_X14_init 364 = .ok (.newarray .int, 2) := by decide +kernel
theorem d_X14_init_366 : decode b_X14_init 366 = .ok (.putfield 147, 3) := by decide +kernel
theorem d_X14_init_369 : decode b_X14_init 369 = .ok (.aload_n 0, 1) := by decide +kernel
theorem d_X14_init_370 : decode b_X14_init 370 = .ok (.iconst (-1), 1) := by decide +kernel
theorem d_X14_init_371 : decode b_X14_init 371 = .ok (.putfield 150, 3) := by decide +kernel
theorem d_X14_init_374 : decode b_X14_init 374 = .ok (.aload_n 0, 1) := by decide +kernel
theorem d_X14_init_375 : decode b_X14_init 375 = .ok (.iconst (-1), 1) := by decide +kernel
theorem d_X14_init_376 : decode b_X14_init 376 = .ok (.putfield 153, 3) := by decide +kernel
theorem d_X14_init_379 : decode b_X14_init 379 = .ok (.aload_n 0, 1) := by decide +kernel
theorem d_X14_init_380 : decode b_X14_init 380 = .ok (.iconst (-1), 1) := by decide +kernel
theorem d_X14_init_381 : decode b_X14_init 381 = .ok (.putfield 156, 3) := by decide +kernel
theorem d_X14_init_384 : decode b_X14_init 384 = .ok (.aload_n 0, 1) := by decide +kernel
theorem d_X14_init_385 : decode b_X14_init 385 = .ok (.sipush 10000, 3) := by decide +kernel
theorem d_X14_init_388 : decode b_X14_init 388 = .ok (.newarray .int, 2) := by decide +kernel
theorem d_X14_init_390 : decode b_X14_init 390 = .ok (.putfield 159, 3) := by decide +kernel
theorem d_X14_init_393 : decode b_X14_init 393 = .ok (.aload_n 0, 1) := by decide +kernel
theorem d_X14_init_394 : decode b_X14_init 394 = .ok (.bipush 100, 2) := by decide +kernel
theorem d_X14_init_396 : decode b_X14_init 396 = .ok (.newarray .int, 2) := by decide +kernel
theorem d_X14_init_398 : decode b_X14_init 398 = .ok (.putfield 162, 3) := by decide +kernel
theorem d_X14_init_401 : decode b_X14_init 401 = .ok (.aload_n 0, 1) := by decide +kernel
theorem d_X14_init_402 : decode b_X14_init 402 = .ok (.sipush 16016, 3) := by decide +kernel
theorem d_X14_init_405 : decode b_X14_init 405 = .ok (.newarray .int, 2) := by decide +kernel
theorem d_X14_init_407 : decode b_X14_init 407 = .ok (.putfield 165, 3) := by decide +kernel
theorem d_X14_init_410 : decode b_X14_init 410 = .ok (.aload_n 0, 1) := by decide +kernel
theorem d_X14_init_411 : decode b_X14_init 411 = .ok (.ldc 168, 2) := by decide +kernel
theorem d_X14_init_413 : decode b_X14_init 413 = .ok (.newarray .int, 2) := by decide +kernel
theorem d_X14_init_415 : decode b_X14_init 415 = .ok (.putfield 169, 3) := by decide +kernel
theorem d_X14_init_418 : decode b_X14_init 418 = .ok (.aload_n 0, 1) := by decide +kernel
theorem d_X14_init_419 : decode b_X14_init 419 = .ok (.ldc 172, 2) := by decide +kernel
theorem d_X14_init_421 : decode b_X14_init 421 = .ok (.newarray .int, 2) := by decide +kernel
theorem d_X14_init_423 : decode b_X14_init 423 = .ok (.putfield 173, 3) := by decide +kernel
theorem d_X14_init_426 : decode b_X14_init 426 = .ok (.aload_n 0, 1) := by decide +kernel
theorem d_X14_init_427 : decode b_X14_init 427 = .ok (.sipush 26000, 3) := by decide +kernel
theorem d_X14_init_430 : decode b_X14_init 430 = .ok (.newarray .int, 2) := by decide +kernel
theorem d_X14_init_432 : decode b_X14_init 432 = .ok (.putfield 176, 3) := by decide +kernel
theorem d_X14_init_435 : decode b_X14_init 435 = .ok (.aload_n 0, 1) := by decide +kernel
theorem d_X14_init_436 : decode b_X14_init 436 = .ok (.sipush 260, 3) := by decide +kernel
theorem d_X14_init_439 : decode b_X14_init 439 = .ok (.newarray .int, 2) := by decide +kernel
theorem d_X14_init_441 : decode b_X14_init 441 = .ok (.putfield 179, 3) := by decide +kernel
theorem d_X14_init_444 : decode b_X14_init 444 = .ok (.aload_n 0, 1) := by decide +kernel
theorem d_X14_init_445 : decode b_X14_init 445 = .ok (.sipush 260, 3) := by decide +kernel
theorem d_X14_init_448 : decode b_X14_init 448 = .ok (.newarray .int, 2) := by decide +kernel
theorem d_X14_init_450 : decode b_X14_init 450 = .ok (.putfield 182, 3) := by decide +kernel
theorem d_X14_init_453 : decode b_X14_init 453 = .ok (.aload_n 0, 1) := by decide +kernel
theorem d_X14_init_454 : decode b_X14_init 454 = .ok (.sipush 260, 3) := by decide +kernel
theorem d_X14_init_457 : decode b_X14_init 457 = .ok (.newarray .int, 2) := by decide +kernel
theorem d_X14_init_459 : decode b_X14_init 459 = .ok (.putfield 185, 3) := by decide +kernel
theorem d_X14_init_462 : decode b_X14_init 462 = .ok (.aload_n 0, 1) := by decide +kernel
theorem d_X14_init_463 : decode b_X14_init 463 = .ok (.sipush 4096, 3) := by decide +kernel
theorem d_X14_init_466 : decode b_X14_init 466 = .ok (.newarray .byte, 2) := by decide +kernel
theorem d_X14_init_468 : decode b_X14_init 468 = .ok (.putfield 188, 3) := by decide +kernel
theorem d_X14_init_471 : decode b_X14_init 471 = .ok (.aload_n 0, 1) := by decide +kernel
theorem d_X14_init_472 : decode b_X14_init 472 = .ok (.sipush 4096, 3) := by decide +kernel
theorem d_X14_init_475 : decode b_X14_init 475 = .ok (.newarray .byte, 2) := by decide +kernel
theorem d_X14_init_477 : decode b_X14_init 477 = .ok (.putfield 191, 3) := by decide +kernel
theorem d_X14_init_480 : decode b_X14_init 480 = .ok (.aload_n 0, 1) := by decide +kernel
theorem d_X14_init_481 : decode b_X14_init 481 = .ok (.sipush 10000, 3) := by decide +kernel
theorem d_X14_init_484 : decode b_X14_init 484 = .ok (.newarray .int, 2) := by decide +kernel
theorem d_X14_init_486 : decode b_X14_init 486 = .ok (.putfield 194, 3) := by decide +kernel
theorem d_X14_init_489 : decode b_X14_init 489 = .ok (.return_, 1) := by decide +kernel
