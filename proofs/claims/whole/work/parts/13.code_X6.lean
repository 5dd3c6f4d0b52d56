/-! ===== printed by program: decode rows, block rows of X6 ===== -/
theorem dX6_get_0 : decode cX6_get 0 = .ok (.iload_n 1, 1) := by decide +kernel
theorem dX6_get_1 : decode cX6_get 1 = .ok (.bipush 15, 2) := by decide +kernel
theorem dX6_get_3 : decode cX6_get 3 = .ok (.imul, 1) := by decide +kernel
theorem dX6_get_4 : decode cX6_get 4 = .ok (.iload_n 2, 1) := by decide +kernel
theorem dX6_get_5 : decode cX6_get 5 = .ok (.iadd, 1) := by decide +kernel
theorem dX6_get_6 : decode cX6_get 6 = .ok (.istore_n 3, 1) := by decide +kernel
theorem dX6_get_7 : decode cX6_get 7 = .ok (.iload_n 3, 1) := by decide +kernel
theorem dX6_get_8 : decode cX6_get 8 = .ok (.ifCond .lt 12, 3) := by decide +kernel
theorem dX6_get_11 : decode cX6_get 11 = .ok (.iload_n 3, 1) := by decide +kernel
theorem dX6_get_12 : decode cX6_get 12 = .ok (.aload_n 0, 1) := by decide +kernel
theorem dX6_get_13 : decode cX6_get 13 = .ok (.getfield 11, 3) := by decide +kernel
theorem dX6_get_16 : decode cX6_get 16 = .ok (.arraylength, 1) := by decide +kernel
theorem dX6_get_17 : decode cX6_get 17 = .ok (.if_icmp .lt 7, 3) := by decide +kernel
theorem dX6_get_20 : decode cX6_get 20 = .ok (.iconst 0, 1) := by decide +kernel
theorem dX6_get_21 : decode cX6_get 21 = .ok (.goto 9, 3) := by decide +kernel
theorem dX6_get_24 : decode cX6_get 24 = .ok (.aload_n 0, 1) := by decide +kernel
theorem dX6_get_25 : decode cX6_get 25 = .ok (.getfield 11, 3) := by decide +kernel
theorem dX6_get_28 : decode cX6_get 28 = .ok (.iload_n 3, 1) := by decide +kernel
theorem dX6_get_29 : decode cX6_get 29 = .ok (.iaload, 1) := by decide +kernel
theorem dX6_get_30 : decode cX6_get 30 = .ok (.ireturn, 1) := by decide +kernel
theorem dX6_set_0 : decode cX6_set 0 = .ok (.iload_n 1, 1) := by decide +kernel
theorem dX6_set_1 : decode cX6_set 1 = .ok (.bipush 15, 2) := by decide +kernel
theorem dX6_set_3 : decode cX6_set 3 = .ok (.imul, 1) := by decide +kernel
theorem dX6_set_4 : decode cX6_set 4 = .ok (.iload_n 2, 1) := by decide +kernel
theorem dX6_set_5 : decode cX6_set 5 = .ok (.iadd, 1) := by decide +kernel
theorem dX6_set_6 : decode cX6_set 6 = .ok (.istore 4, 2) := by decide +kernel
theorem dX6_set_8 : decode cX6_set 8 = .ok (.iload 4, 2) := by decide +kernel
theorem dX6_set_10 : decode cX6_set 10 = .ok (.ifCond .lt 21, 3) := by decide +kernel
theorem dX6_set_13 : decode cX6_set 13 = .ok (.iload 4, 2) := by decide +kernel
theorem dX6_set_15 : decode cX6_set 15 = .ok (.aload_n 0, 1) := by decide +kernel
theorem dX6_set_16 : decode cX6_set 16 = .ok (.getfield 11, 3) := by decide +kernel
theorem dX6_set_19 : decode cX6_set 19 = .ok (.arraylength, 1) := by decide +kernel
theorem dX6_set_20 : decode cX6_set 20 = .ok (.if_icmp .ge 11, 3) := by decide +kernel
theorem dX6_set_23 : decode cX6_set 23 = .ok (.aload_n 0, 1) := by decide +kernel
theorem dX6_set_24 : decode cX6_set 24 = .ok (.getfield 11, 3) := by decide +kernel
theorem dX6_set_27 : decode cX6_set 27 = .ok (.iload 4, 2) := by decide +kernel
theorem dX6_set_29 : decode cX6_set 29 = .ok (.iload_n 3, 1) := by decide +kernel
theorem dX6_set_30 : decode cX6_set 30 = .ok (.iastore, 1) := by decide +kernel
theorem dX6_set_31 : decode cX6_set 31 = .ok (.return_, 1) := by decide +kernel
theorem dX6_add_0 : decode cX6_add 0 = .ok (.aload_n 0, 1) := by decide +kernel
theorem dX6_add_1 : decode cX6_add 1 = .ok (.getfield 15, 3) := by decide +kernel
theorem dX6_add_4 : decode cX6_add 4 = .ok (.istore 4, 2) := by decide +kernel
theorem dX6_add_6 : decode cX6_add 6 = .ok (.iload 4, 2) := by decide +kernel
theorem dX6_add_8 : decode cX6_add 8 = .ok (.bipush 10, 2) := by decide +kernel
theorem dX6_add_10 : decode cX6_add 10 = .ok (.if_icmp .lt 6, 3) := by decide +kernel
theorem dX6_add_13 : decode cX6_add 13 = .ok (.bipush (-9), 2) := by decide +kernel
theorem dX6_add_15 : decode cX6_add 15 = .ok (.ireturn, 1) := by decide +kernel
theorem dX6_add_16 : decode cX6_add 16 = .ok (.aload_n 0, 1) := by decide +kernel
theorem dX6_add_17 : decode cX6_add 17 = .ok (.dup, 1) := by decide +kernel
theorem dX6_add_18 : decode cX6_add 18 = .ok (.getfield 15, 3) := by decide +kernel
theorem dX6_add_21 : decode cX6_add 21 = .ok (.iconst 1, 1) := by decide +kernel
theorem dX6_add_22 : decode cX6_add 22 = .ok (.iadd, 1) := by decide +kernel
theorem dX6_add_23 : decode cX6_add 23 = .ok (.putfield 15, 3) := by decide +kernel
theorem dX6_add_26 : decode cX6_add 26 = .ok (.aload_n 0, 1) := by decide +kernel
theorem dX6_add_27 : decode cX6_add 27 = .ok (.iload 4, 2) := by decide +kernel
theorem dX6_add_29 : decode cX6_add 29 = .ok (.iconst 0, 1) := by decide +kernel
theorem dX6_add_30 : decode cX6_add 30 = .ok (.iload_n 1, 1) := by decide +kernel
theorem dX6_add_31 : decode cX6_add 31 = .ok (.invokevirtual 19, 3) := by decide +kernel
theorem dX6_add_34 : decode cX6_add 34 = .ok (.aload_n 0, 1) := by decide +kernel
theorem dX6_add_35 : decode cX6_add 35 = .ok (.iload 4, 2) := by decide +kernel
theorem dX6_add_37 : decode cX6_add 37 = .ok (.iconst 1, 1) := by decide +kernel
theorem dX6_add_38 : decode cX6_add 38 = .ok (.iload_n 2, 1) := by decide +kernel
theorem dX6_add_39 : decode cX6_add 39 = .ok (.ifCond .eq 7, 3) := by decide +kernel
theorem dX6_add_42 : decode cX6_add 42 = .ok (.iconst 1, 1) := by decide +kernel
theorem dX6_add_43 : decode cX6_add 43 = .ok (.goto 4, 3) := by decide +kernel
theorem dX6_add_46 : decode cX6_add 46 = .ok (.iconst 0, 1) := by decide +kernel
theorem dX6_add_47 : decode cX6_add 47 = .ok (.invokevirtual 19, 3) := by decide +kernel
theorem dX6_add_50 : decode cX6_add 50 = .ok (.aload_n 0, 1) := by decide +kernel
theorem dX6_add_51 : decode cX6_add 51 = .ok (.iload 4, 2) := by decide +kernel
theorem dX6_add_53 : decode cX6_add 53 = .ok (.iconst 2, 1) := by decide +kernel
theorem dX6_add_54 : decode cX6_add 54 = .ok (.iconst 0, 1) := by decide +kernel
theorem dX6_add_55 : decode cX6_add 55 = .ok (.invokevirtual 19, 3) := by decide +kernel
theorem dX6_add_58 : decode cX6_add 58 = .ok (.aload_n 0, 1) := by decide +kernel
theorem dX6_add_59 : decode cX6_add 59 = .ok (.iload 4, 2) := by decide +kernel
theorem dX6_add_61 : decode cX6_add 61 = .ok (.iconst 4, 1) := by decide +kernel
theorem dX6_add_62 : decode cX6_add 62 = .ok (.iconst 0, 1) := by decide +kernel
theorem dX6_add_63 : decode cX6_add 63 = .ok (.invokevirtual 19, 3) := by decide +kernel
theorem dX6_add_66 : decode cX6_add 66 = .ok (.aload_n 0, 1) := by decide +kernel
theorem dX6_add_67 : decode cX6_add 67 = .ok (.iload 4, 2) := by decide +kernel
theorem dX6_add_69 : decode cX6_add 69 = .ok (.iconst 5, 1) := by decide +kernel
theorem dX6_add_70 : decode cX6_add 70 = .ok (.iconst 0, 1) := by decide +kernel
theorem dX6_add_71 : decode cX6_add 71 = .ok (.invokevirtual 19, 3) := by decide +kernel
theorem dX6_add_74 : decode cX6_add 74 = .ok (.aload_n 0, 1) := by decide +kernel
theorem dX6_add_75 : decode cX6_add 75 = .ok (.iload 4, 2) := by decide +kernel
theorem dX6_add_77 : decode cX6_add 77 = .ok (.bipush 6, 2) := by decide +kernel
theorem dX6_add_79 : decode cX6_add 79 = .ok (.iconst 0, 1) := by decide +kernel
theorem dX6_add_80 : decode cX6_add 80 = .ok (.invokevirtual 19, 3) := by decide +kernel
theorem dX6_add_83 : decode cX6_add 83 = .ok (.aload_n 0, 1) := by decide +kernel
theorem dX6_add_84 : decode cX6_add 84 = .ok (.iload 4, 2) := by decide +kernel
theorem dX6_add_86 : decode cX6_add 86 = .ok (.iload_n 3, 1) := by decide +kernel
theorem dX6_add_87 : decode cX6_add 87 = .ok (.invokevirtual 23, 3) := by decide +kernel
theorem dX6_add_90 : decode cX6_add 90 = .ok (.iload 4, 2) := by decide +kernel
theorem dX6_add_92 : decode cX6_add 92 = .ok (.ireturn, 1) := by decide +kernel
theorem dX6_passTo_0 : decode cX6_passTo 0 = .ok (.aload_n 0, 1) := by decide +kernel
theorem dX6_passTo_1 : decode cX6_passTo 1 = .ok (.iload_n 1, 1) := by decide +kernel
theorem dX6_passTo_2 : decode cX6_passTo 2 = .ok (.iconst 3, 1) := by decide +kernel
theorem dX6_passTo_3 : decode cX6_passTo 3 = .ok (.iload_n 2, 1) := by decide +kernel
theorem dX6_passTo_4 : decode cX6_passTo 4 = .ok (.invokevirtual 19, 3) := by decide +kernel
theorem dX6_passTo_7 : decode cX6_passTo 7 = .ok (.aload_n 0, 1) := by decide +kernel
theorem dX6_passTo_8 : decode cX6_passTo 8 = .ok (.iload_n 1, 1) := by decide +kernel
theorem dX6_passTo_9 : decode cX6_passTo 9 = .ok (.bipush 6, 2) := by decide +kernel
theorem dX6_passTo_11 : decode cX6_passTo 11 = .ok (.invokevirtual 27, 3) := by decide +kernel
theorem dX6_passTo_14 : decode cX6_passTo 14 = .ok (.istore_n 3, 1) := by decide +kernel
theorem dX6_passTo_15 : decode cX6_passTo 15 = .ok (.iload_n 3, 1) := by decide +kernel
theorem dX6_passTo_16 : decode cX6_passTo 16 = .ok (.bipush 8, 2) := by decide +kernel
theorem dX6_passTo_18 : decode cX6_passTo 18 = .ok (.if_icmp .ge 23, 3) := by decide +kernel
theorem dX6_passTo_21 : decode cX6_passTo 21 = .ok (.aload_n 0, 1) := by decide +kernel
theorem dX6_passTo_22 : decode cX6_passTo 22 = .ok (.iload_n 1, 1) := by decide +kernel
theorem dX6_passTo_23 : decode cX6_passTo 23 = .ok (.bipush 7, 2) := by decide +kernel
theorem dX6_passTo_25 : decode cX6_passTo 25 = .ok (.iload_n 3, 1) := by decide +kernel
theorem dX6_passTo_26 : decode cX6_passTo 26 = .ok (.iadd, 1) := by decide +kernel
theorem dX6_passTo_27 : decode cX6_passTo 27 = .ok (.iload_n 2, 1) := by decide +kernel
theorem dX6_passTo_28 : decode cX6_passTo 28 = .ok (.invokevirtual 19, 3) := by decide +kernel
theorem dX6_passTo_31 : decode cX6_passTo 31 = .ok (.aload_n 0, 1) := by decide +kernel
theorem dX6_passTo_32 : decode cX6_passTo 32 = .ok (.iload_n 1, 1) := by decide +kernel
theorem dX6_passTo_33 : decode cX6_passTo 33 = .ok (.bipush 6, 2) := by decide +kernel
theorem dX6_passTo_35 : decode cX6_passTo 35 = .ok (.iload_n 3, 1) := by decide +kernel
theorem dX6_passTo_36 : decode cX6_passTo 36 = .ok (.iconst 1, 1) := by decide +kernel
theorem dX6_passTo_37 : decode cX6_passTo 37 = .ok (.iadd, 1) := by decide +kernel
theorem dX6_passTo_38 : decode cX6_passTo 38 = .ok (.invokevirtual 19, 3) := by decide +kernel
theorem dX6_passTo_41 : decode cX6_passTo 41 = .ok (.return_, 1) := by decide +kernel
theorem dX6_traceOf_0 : decode cX6_traceOf 0 = .ok (.iload_n 2, 1) := by decide +kernel
theorem dX6_traceOf_1 : decode cX6_traceOf 1 = .ok (.ifCond .lt 14, 3) := by decide +kernel
theorem dX6_traceOf_4 : decode cX6_traceOf 4 = .ok (.iload_n 2, 1) := by decide +kernel
theorem dX6_traceOf_5 : decode cX6_traceOf 5 = .ok (.aload_n 0, 1) := by decide +kernel
theorem dX6_traceOf_6 : decode cX6_traceOf 6 = .ok (.iload_n 1, 1) := by decide +kernel
theorem dX6_traceOf_7 : decode cX6_traceOf 7 = .ok (.bipush 6, 2) := by decide +kernel
theorem dX6_traceOf_9 : decode cX6_traceOf 9 = .ok (.invokevirtual 27, 3) := by decide +kernel
theorem dX6_traceOf_12 : decode cX6_traceOf 12 = .ok (.if_icmp .lt 8, 3) := by decide +kernel
theorem dX6_traceOf_15 : decode cX6_traceOf 15 = .ok (.bipush (-9), 2) := by decide +kernel
theorem dX6_traceOf_17 : decode cX6_traceOf 17 = .ok (.goto 12, 3) := by decide +kernel
theorem dX6_traceOf_20 : decode cX6_traceOf 20 = .ok (.aload_n 0, 1) := by decide +kernel
theorem dX6_traceOf_21 : decode cX6_traceOf 21 = .ok (.iload_n 1, 1) := by decide +kernel
theorem dX6_traceOf_22 : decode cX6_traceOf 22 = .ok (.bipush 7, 2) := by decide +kernel
theorem dX6_traceOf_24 : decode cX6_traceOf 24 = .ok (.iload_n 2, 1) := by decide +kernel
theorem dX6_traceOf_25 : decode cX6_traceOf 25 = .ok (.iadd, 1) := by decide +kernel
theorem dX6_traceOf_26 : decode cX6_traceOf 26 = .ok (.invokevirtual 27, 3) := by decide +kernel
theorem dX6_traceOf_29 : decode cX6_traceOf 29 = .ok (.ireturn, 1) := by decide +kernel
theorem dX6_wearDown_0 : decode cX6_wearDown 0 = .ok (.aload_n 0, 1) := by decide +kernel
theorem dX6_wearDown_1 : decode cX6_wearDown 1 = .ok (.iload_n 1, 1) := by decide +kernel
theorem dX6_wearDown_2 : decode cX6_wearDown 2 = .ok (.iconst 2, 1) := by decide +kernel
theorem dX6_wearDown_3 : decode cX6_wearDown 3 = .ok (.bipush 99, 2) := by decide +kernel
theorem dX6_wearDown_5 : decode cX6_wearDown 5 = .ok (.aload_n 0, 1) := by decide +kernel
theorem dX6_wearDown_6 : decode cX6_wearDown 6 = .ok (.iload_n 1, 1) := by decide +kernel
theorem dX6_wearDown_7 : decode cX6_wearDown 7 = .ok (.iconst 2, 1) := by decide +kernel
theorem dX6_wearDown_8 : decode cX6_wearDown 8 = .ok (.invokevirtual 27, 3) := by decide +kernel
theorem dX6_wearDown_11 : decode cX6_wearDown 11 = .ok (.iconst 1, 1) := by decide +kernel
theorem dX6_wearDown_12 : decode cX6_wearDown 12 = .ok (.iadd, 1) := by decide +kernel
theorem dX6_wearDown_13 : decode cX6_wearDown 13 = .ok (.invokestatic 31, 3) := by decide +kernel
theorem dX6_wearDown_16 : decode cX6_wearDown 16 = .ok (.invokevirtual 19, 3) := by decide +kernel
theorem dX6_wearDown_19 : decode cX6_wearDown 19 = .ok (.return_, 1) := by decide +kernel
theorem dX6_ownedBy_0 : decode cX6_ownedBy 0 = .ok (.iconst 0, 1) := by decide +kernel
theorem dX6_ownedBy_1 : decode cX6_ownedBy 1 = .ok (.istore_n 2, 1) := by decide +kernel
theorem dX6_ownedBy_2 : decode cX6_ownedBy 2 = .ok (.iconst 0, 1) := by decide +kernel
theorem dX6_ownedBy_3 : decode cX6_ownedBy 3 = .ok (.istore_n 3, 1) := by decide +kernel
theorem dX6_ownedBy_4 : decode cX6_ownedBy 4 = .ok (.iload_n 3, 1) := by decide +kernel
theorem dX6_ownedBy_5 : decode cX6_ownedBy 5 = .ok (.aload_n 0, 1) := by decide +kernel
theorem dX6_ownedBy_6 : decode cX6_ownedBy 6 = .ok (.getfield 15, 3) := by decide +kernel
theorem dX6_ownedBy_9 : decode cX6_ownedBy 9 = .ok (.if_icmp .ge 25, 3) := by decide +kernel
theorem dX6_ownedBy_12 : decode cX6_ownedBy 12 = .ok (.aload_n 0, 1) := by decide +kernel
theorem dX6_ownedBy_13 : decode cX6_ownedBy 13 = .ok (.iload_n 3, 1) := by decide +kernel
theorem dX6_ownedBy_14 : decode cX6_ownedBy 14 = .ok (.iconst 3, 1) := by decide +kernel
theorem dX6_ownedBy_15 : decode cX6_ownedBy 15 = .ok (.invokevirtual 27, 3) := by decide +kernel
theorem dX6_ownedBy_18 : decode cX6_ownedBy 18 = .ok (.iload_n 1, 1) := by decide +kernel
theorem dX6_ownedBy_19 : decode cX6_ownedBy 19 = .ok (.if_icmp .ne 9, 3) := by decide +kernel
theorem dX6_ownedBy_22 : decode cX6_ownedBy 22 = .ok (.iload_n 2, 1) := by decide +kernel
theorem dX6_ownedBy_23 : decode cX6_ownedBy 23 = .ok (.iconst 1, 1) := by decide +kernel
theorem dX6_ownedBy_24 : decode cX6_ownedBy 24 = .ok (.iload_n 3, 1) := by decide +kernel
theorem dX6_ownedBy_25 : decode cX6_ownedBy 25 = .ok (.ishl, 1) := by decide +kernel
theorem dX6_ownedBy_26 : decode cX6_ownedBy 26 = .ok (.ior, 1) := by decide +kernel
theorem dX6_ownedBy_27 : decode cX6_ownedBy 27 = .ok (.istore_n 2, 1) := by decide +kernel
theorem dX6_ownedBy_28 : decode cX6_ownedBy 28 = .ok (.iinc 3 1, 3) := by decide +kernel
theorem dX6_ownedBy_31 : decode cX6_ownedBy 31 = .ok (.goto (-27), 3) := by decide +kernel
theorem dX6_ownedBy_34 : decode cX6_ownedBy 34 = .ok (.iload_n 2, 1) := by decide +kernel
theorem dX6_ownedBy_35 : decode cX6_ownedBy 35 = .ok (.ireturn, 1) := by decide +kernel
theorem dX6_fakes_0 : decode cX6_fakes 0 = .ok (.iconst 0, 1) := by decide +kernel
theorem dX6_fakes_1 : decode cX6_fakes 1 = .ok (.istore_n 1, 1) := by decide +kernel
theorem dX6_fakes_2 : decode cX6_fakes 2 = .ok (.iconst 0, 1) := by decide +kernel
theorem dX6_fakes_3 : decode cX6_fakes 3 = .ok (.istore_n 2, 1) := by decide +kernel
theorem dX6_fakes_4 : decode cX6_fakes 4 = .ok (.iload_n 2, 1) := by decide +kernel
theorem dX6_fakes_5 : decode cX6_fakes 5 = .ok (.aload_n 0, 1) := by decide +kernel
theorem dX6_fakes_6 : decode cX6_fakes 6 = .ok (.getfield 15, 3) := by decide +kernel
theorem dX6_fakes_9 : decode cX6_fakes 9 = .ok (.if_icmp .ge 18, 3) := by decide +kernel
theorem dX6_fakes_12 : decode cX6_fakes 12 = .ok (.iload_n 1, 1) := by decide +kernel
theorem dX6_fakes_13 : decode cX6_fakes 13 = .ok (.aload_n 0, 1) := by decide +kernel
theorem dX6_fakes_14 : decode cX6_fakes 14 = .ok (.iload_n 2, 1) := by decide +kernel
theorem dX6_fakes_15 : decode cX6_fakes 15 = .ok (.iconst 4, 1) := by decide +kernel
theorem dX6_fakes_16 : decode cX6_fakes 16 = .ok (.invokevirtual 27, 3) := by decide +kernel
theorem dX6_fakes_19 : decode cX6_fakes 19 = .ok (.iadd, 1) := by decide +kernel
theorem dX6_fakes_20 : decode cX6_fakes 20 = .ok (.istore_n 1, 1) := by decide +kernel
theorem dX6_fakes_21 : decode cX6_fakes 21 = .ok (.iinc 2 1, 3) := by decide +kernel
theorem dX6_fakes_24 : decode cX6_fakes 24 = .ok (.goto (-20), 3) := by decide +kernel
theorem dX6_fakes_27 : decode cX6_fakes 27 = .ok (.iload_n 1, 1) := by decide +kernel
theorem dX6_fakes_28 : decode cX6_fakes 28 = .ok (.ireturn, 1) := by decide +kernel
theorem dX6_wearTooMuch_0 : decode cX6_wearTooMuch 0 = .ok (.iconst 0, 1) := by decide +kernel
theorem dX6_wearTooMuch_1 : decode cX6_wearTooMuch 1 = .ok (.aload_n 0, 1) := by decide +kernel
theorem dX6_wearTooMuch_2 : decode cX6_wearTooMuch 2 = .ok (.iload_n 1, 1) := by decide +kernel
theorem dX6_wearTooMuch_3 : decode cX6_wearTooMuch 3 = .ok (.iconst 2, 1) := by decide +kernel
theorem dX6_wearTooMuch_4 : decode cX6_wearTooMuch 4 = .ok (.invokevirtual 27, 3) := by decide +kernel
theorem dX6_wearTooMuch_7 : decode cX6_wearTooMuch 7 = .ok (.aload_n 0, 1) := by decide +kernel
theorem dX6_wearTooMuch_8 : decode cX6_wearTooMuch 8 = .ok (.iload_n 1, 1) := by decide +kernel
theorem dX6_wearTooMuch_9 : decode cX6_wearTooMuch 9 = .ok (.iconst 5, 1) := by decide +kernel
theorem dX6_wearTooMuch_10 : decode cX6_wearTooMuch 10 = .ok (.invokevirtual 27, 3) := by decide +kernel
theorem dX6_wearTooMuch_13 : decode cX6_wearTooMuch 13 = .ok (.isub, 1) := by decide +kernel
theorem dX6_wearTooMuch_14 : decode cX6_wearTooMuch 14 = .ok (.invokestatic 36, 3) := by decide +kernel
theorem dX6_wearTooMuch_17 : decode cX6_wearTooMuch 17 = .ok (.ireturn, 1) := by decide +kernel
theorem dX6_wearTooMuchOf_0 : decode cX6_wearTooMuchOf 0 = .ok (.iconst 0, 1) := by decide +kernel
theorem dX6_wearTooMuchOf_1 : decode cX6_wearTooMuchOf 1 = .ok (.istore_n 2, 1) := by decide +kernel
theorem dX6_wearTooMuchOf_2 : decode cX6_wearTooMuchOf 2 = .ok (.iconst 0, 1) := by decide +kernel
theorem dX6_wearTooMuchOf_3 : decode cX6_wearTooMuchOf 3 = .ok (.istore_n 3, 1) := by decide +kernel
theorem dX6_wearTooMuchOf_4 : decode cX6_wearTooMuchOf 4 = .ok (.iload_n 3, 1) := by decide +kernel
theorem dX6_wearTooMuchOf_5 : decode cX6_wearTooMuchOf 5 = .ok (.aload_n 0, 1) := by decide +kernel
theorem dX6_wearTooMuchOf_6 : decode cX6_wearTooMuchOf 6 = .ok (.getfield 15, 3) := by decide +kernel
theorem dX6_wearTooMuchOf_9 : decode cX6_wearTooMuchOf 9 = .ok (.if_icmp .ge 27, 3) := by decide +kernel
theorem dX6_wearTooMuchOf_12 : decode cX6_wearTooMuchOf 12 = .ok (.aload_n 0, 1) := by decide +kernel
theorem dX6_wearTooMuchOf_13 : decode cX6_wearTooMuchOf 13 = .ok (.iload_n 3, 1) := by decide +kernel
theorem dX6_wearTooMuchOf_14 : decode cX6_wearTooMuchOf 14 = .ok (.iconst 3, 1) := by decide +kernel
theorem dX6_wearTooMuchOf_15 : decode cX6_wearTooMuchOf 15 = .ok (.invokevirtual 27, 3) := by decide +kernel
theorem dX6_wearTooMuchOf_18 : decode cX6_wearTooMuchOf 18 = .ok (.iload_n 1, 1) := by decide +kernel
theorem dX6_wearTooMuchOf_19 : decode cX6_wearTooMuchOf 19 = .ok (.if_icmp .ne 11, 3) := by decide +kernel
theorem dX6_wearTooMuchOf_22 : decode cX6_wearTooMuchOf 22 = .ok (.iload_n 2, 1) := by decide +kernel
theorem dX6_wearTooMuchOf_23 : decode cX6_wearTooMuchOf 23 = .ok (.aload_n 0, 1) := by decide +kernel
theorem dX6_wearTooMuchOf_24 : decode cX6_wearTooMuchOf 24 = .ok (.iload_n 3, 1) := by decide +kernel
theorem dX6_wearTooMuchOf_25 : decode cX6_wearTooMuchOf 25 = .ok (.invokevirtual 39, 3) := by decide +kernel
theorem dX6_wearTooMuchOf_28 : decode cX6_wearTooMuchOf 28 = .ok (.iadd, 1) := by decide +kernel
theorem dX6_wearTooMuchOf_29 : decode cX6_wearTooMuchOf 29 = .ok (.istore_n 2, 1) := by decide +kernel
theorem dX6_wearTooMuchOf_30 : decode cX6_wearTooMuchOf 30 = .ok (.iinc 3 1, 3) := by decide +kernel
theorem dX6_wearTooMuchOf_33 : decode cX6_wearTooMuchOf 33 = .ok (.goto (-29), 3) := by decide +kernel
theorem dX6_wearTooMuchOf_36 : decode cX6_wearTooMuchOf 36 = .ok (.iload_n 2, 1) := by decide +kernel
theorem dX6_wearTooMuchOf_37 : decode cX6_wearTooMuchOf 37 = .ok (.ireturn, 1) := by decide +kernel
theorem dX6_copyFrom_0 : decode cX6_copyFrom 0 = .ok (.aload_n 1, 1) := by decide +kernel
theorem dX6_copyFrom_1 : decode cX6_copyFrom 1 = .ok (.ifnull 22, 3) := by decide +kernel
theorem dX6_copyFrom_4 : decode cX6_copyFrom 4 = .ok (.aload_n 0, 1) := by decide +kernel
theorem dX6_copyFrom_5 : decode cX6_copyFrom 5 = .ok (.aload_n 1, 1) := by decide +kernel
theorem dX6_copyFrom_6 : decode cX6_copyFrom 6 = .ok (.getfield 15, 3) := by decide +kernel
theorem dX6_copyFrom_9 : decode cX6_copyFrom 9 = .ok (.putfield 15, 3) := by decide +kernel
theorem dX6_copyFrom_12 : decode cX6_copyFrom 12 = .ok (.aload_n 0, 1) := by decide +kernel
theorem dX6_copyFrom_13 : decode cX6_copyFrom 13 = .ok (.aload_n 1, 1) := by decide +kernel
theorem dX6_copyFrom_14 : decode cX6_copyFrom 14 = .ok (.iconst 0, 1) := by decide +kernel
theorem dX6_copyFrom_15 : decode cX6_copyFrom 15 = .ok (.aload_n 0, 1) := by decide +kernel
theorem dX6_copyFrom_16 : decode cX6_copyFrom 16 = .ok (.getfield 11, 3) := by decide +kernel
theorem dX6_copyFrom_19 : decode cX6_copyFrom 19 = .ok (.arraylength, 1) := by decide +kernel
theorem dX6_copyFrom_20 : decode cX6_copyFrom 20 = .ok (.invokevirtual 43, 3) := by decide +kernel
theorem dX6_copyFrom_23 : decode cX6_copyFrom 23 = .ok (.return_, 1) := by decide +kernel
theorem dX6_takeBack_0 : decode cX6_takeBack 0 = .ok (.aload_n 1, 1) := by decide +kernel
theorem dX6_takeBack_1 : decode cX6_takeBack 1 = .ok (.ifnonnull 4, 3) := by decide +kernel
theorem dX6_takeBack_5 : decode cX6_takeBack 5 = .ok (.iconst 0, 1) := by decide +kernel
theorem dX6_takeBack_6 : decode cX6_takeBack 6 = .ok (.istore_n 2, 1) := by decide +kernel
theorem dX6_takeBack_7 : decode cX6_takeBack 7 = .ok (.iload_n 2, 1) := by decide +kernel
theorem dX6_takeBack_8 : decode cX6_takeBack 8 = .ok (.aload_n 1, 1) := by decide +kernel
theorem dX6_takeBack_9 : decode cX6_takeBack 9 = .ok (.getfield 15, 3) := by decide +kernel
theorem dX6_takeBack_12 : decode cX6_takeBack 12 = .ok (.if_icmp .ge 34, 3) := by decide +kernel
theorem dX6_takeBack_15 : decode cX6_takeBack 15 = .ok (.aload_n 0, 1) := by decide +kernel
theorem dX6_takeBack_16 : decode cX6_takeBack 16 = .ok (.iload_n 2, 1) := by decide +kernel
theorem dX6_takeBack_17 : decode cX6_takeBack 17 = .ok (.iconst 5, 1) := by decide +kernel
theorem dX6_takeBack_18 : decode cX6_takeBack 18 = .ok (.invokevirtual 27, 3) := by decide +kernel
theorem dX6_takeBack_21 : decode cX6_takeBack 21 = .ok (.istore_n 3, 1) := by decide +kernel
theorem dX6_takeBack_22 : decode cX6_takeBack 22 = .ok (.aload_n 0, 1) := by decide +kernel
theorem dX6_takeBack_23 : decode cX6_takeBack 23 = .ok (.aload_n 1, 1) := by decide +kernel
theorem dX6_takeBack_24 : decode cX6_takeBack 24 = .ok (.iload_n 2, 1) := by decide +kernel
theorem dX6_takeBack_25 : decode cX6_takeBack 25 = .ok (.bipush 15, 2) := by decide +kernel
theorem dX6_takeBack_27 : decode cX6_takeBack 27 = .ok (.imul, 1) := by decide +kernel
theorem dX6_takeBack_28 : decode cX6_takeBack 28 = .ok (.bipush 15, 2) := by decide +kernel
theorem dX6_takeBack_30 : decode cX6_takeBack 30 = .ok (.invokevirtual 43, 3) := by decide +kernel
theorem dX6_takeBack_33 : decode cX6_takeBack 33 = .ok (.aload_n 0, 1) := by decide +kernel
theorem dX6_takeBack_34 : decode cX6_takeBack 34 = .ok (.iload_n 2, 1) := by decide +kernel
theorem dX6_takeBack_35 : decode cX6_takeBack 35 = .ok (.iconst 5, 1) := by decide +kernel
theorem dX6_takeBack_36 : decode cX6_takeBack 36 = .ok (.iload_n 3, 1) := by decide +kernel
theorem dX6_takeBack_37 : decode cX6_takeBack 37 = .ok (.invokevirtual 19, 3) := by decide +kernel
theorem dX6_takeBack_40 : decode cX6_takeBack 40 = .ok (.iinc 2 1, 3) := by decide +kernel
theorem dX6_takeBack_43 : decode cX6_takeBack 43 = .ok (.goto (-36), 3) := by decide +kernel
theorem dX6_takeBack_46 : decode cX6_takeBack 46 = .ok (.return_, 1) := by decide +kernel
theorem dX6_copyCells_0 : decode cX6_copyCells 0 = .ok (.iload_n 2, 1) := by decide +kernel
theorem dX6_copyCells_1 : decode cX6_copyCells 1 = .ok (.ifCond .lt 43, 3) := by decide +kernel
theorem dX6_copyCells_4 : decode cX6_copyCells 4 = .ok (.iload_n 3, 1) := by decide +kernel
theorem dX6_copyCells_5 : decode cX6_copyCells 5 = .ok (.ifCond .lt 39, 3) := by decide +kernel
theorem dX6_copyCells_8 : decode cX6_copyCells 8 = .ok (.iload_n 2, 1) := by decide +kernel
theorem dX6_copyCells_9 : decode cX6_copyCells 9 = .ok (.iload_n 3, 1) := by decide +kernel
theorem dX6_copyCells_10 : decode cX6_copyCells 10 = .ok (.iadd, 1) := by decide +kernel
theorem dX6_copyCells_11 : decode cX6_copyCells 11 = .ok (.aload_n 0, 1) := by decide +kernel
theorem dX6_copyCells_12 : decode cX6_copyCells 12 = .ok (.getfield 11, 3) := by decide +kernel
theorem dX6_copyCells_15 : decode cX6_copyCells 15 = .ok (.arraylength, 1) := by decide +kernel
theorem dX6_copyCells_16 : decode cX6_copyCells 16 = .ok (.if_icmp .gt 28, 3) := by decide +kernel
theorem dX6_copyCells_19 : decode cX6_copyCells 19 = .ok (.iload_n 2, 1) := by decide +kernel
theorem dX6_copyCells_20 : decode cX6_copyCells 20 = .ok (.iload_n 3, 1) := by decide +kernel
theorem dX6_copyCells_21 : decode cX6_copyCells 21 = .ok (.iadd, 1) := by decide +kernel
theorem dX6_copyCells_22 : decode cX6_copyCells 22 = .ok (.aload_n 1, 1) := by decide +kernel
theorem dX6_copyCells_23 : decode cX6_copyCells 23 = .ok (.getfield 11, 3) := by decide +kernel
theorem dX6_copyCells_26 : decode cX6_copyCells 26 = .ok (.arraylength, 1) := by decide +kernel
theorem dX6_copyCells_27 : decode cX6_copyCells 27 = .ok (.if_icmp .gt 17, 3) := by decide +kernel
theorem dX6_copyCells_30 : decode cX6_copyCells 30 = .ok (.aload_n 1, 1) := by decide +kernel
theorem dX6_copyCells_31 : decode cX6_copyCells 31 = .ok (.getfield 11, 3) := by decide +kernel
theorem dX6_copyCells_34 : decode cX6_copyCells 34 = .ok (.iload_n 2, 1) := by decide +kernel
theorem dX6_copyCells_35 : decode cX6_copyCells 35 = .ok (.aload_n 0, 1) := by decide +kernel
theorem dX6_copyCells_36 : decode cX6_copyCells 36 = .ok (.getfield 11, 3) := by decide +kernel
theorem dX6_copyCells_39 : decode cX6_copyCells 39 = .ok (.iload_n 2, 1) := by decide +kernel
theorem dX6_copyCells_40 : decode cX6_copyCells 40 = .ok (.iload_n 3, 1) := by decide +kernel
theorem dX6_copyCells_41 : decode cX6_copyCells 41 = .ok (.invokestatic 47, 3) := by decide +kernel
theorem dX6_copyCells_44 : decode cX6_copyCells 44 = .ok (.return_, 1) := by decide +kernel
theorem kX6_get_0 {X : Scr} {M : Mem} {P : Option AV → Mem → Prop} {t0 : Nat} {x1 x2 : Int} (k1 : ((x1 * (15 : Int)) + x2) < 0 → Runs X mX6_get 20 [] [] M P) (k2 : 0 ≤ ((x1 * (15 : Int)) + x2) → Runs X mX6_get 11 [(0, vr (oT t0)), (3, vi ((x1 * (15 : Int)) + x2))] [] M P) (hb_t0 : t0 < 27 := by omega) (h1 : -2147483648 ≤ (x1 * (15 : Int)) ∧ (x1 * (15 : Int)) ≤ 2147483647 := by omega) (h2 : -2147483648 ≤ ((x1 * (15 : Int)) + x2) ∧ ((x1 * (15 : Int)) + x2) ≤ 2147483647 := by omega) : Runs X mX6_get 0 [(0, vr (oT t0)), (1, vi x1), (2, vi x2)] [] M P := by
  refine Runs.iload_n (j := 1) dX6_get_0 rfl ?_
  refine Runs.bipush dX6_get_1 (by decide) (by decide) ?_
  refine Runs.imul dX6_get_3 h1 ?_
  refine Runs.iload_n (j := 2) dX6_get_4 rfl ?_
  refine Runs.iadd dX6_get_5 h2 ?_
  refine Runs.istore_n (loc' := [(0, vr (oT t0)), (1, vi x1), (2, vi x2), (3, vi ((x1 * (15 : Int)) + x2))]) dX6_get_6 rfl (by decide) rfl ?_
  refine Runs.iload_n (j := 3) dX6_get_7 rfl ?_
  refine Runs.if_lt (tgt := 20) dX6_get_8 (by decide) (fun h => ?_) (fun h => ?_)
  · refine Runs.picks (loc' := []) [] rfl ?_
    exact k1 h
  · refine Runs.picks (loc' := [(0, vr (oT t0)), (3, vi ((x1 * (15 : Int)) + x2))]) [0, 3] rfl ?_
    exact k2 h
theorem kX6_get_11 {X : Scr} {M : Mem} {P : Option AV → Mem → Prop} {t0 : Nat} {x3 : Int} (k1 : x3 < ((150 : Nat) : Int) → Runs X mX6_get 24 [(0, vr (oT t0)), (3, vi x3)] [] M P) (k2 : ((150 : Nat) : Int) ≤ x3 → Runs X mX6_get 20 [] [] M P) (hb_t0 : t0 < 27 := by omega) : Runs X mX6_get 11 [(0, vr (oT t0)), (3, vi x3)] [] M P := by
  refine Runs.iload_n (j := 1) dX6_get_11 rfl ?_
  refine Runs.aload_n (j := 0) dX6_get_12 rfl ?_
  refine Runs.getr (o' := (oC t0)) (ci := 6) (j := 0) (C := RX6) (T := TX6) (N := 2) dX6_get_13 (kd_oT (by omega)) cls_X6 (by decide) rfl fl_X6_11 (rf_oC (by omega)) ⟨rfl, "", Or.inr ⟨_, rfl⟩⟩ ?_
  refine Runs.alen dX6_get_16 (kd_oC (by omega)) (by decide) ?_
  refine Runs.icmp_lt (tgt := 24) dX6_get_17 (by decide) (fun h => ?_) (fun h => ?_)
  · exact k1 h
  · refine Runs.picks (loc' := []) [] rfl ?_
    exact k2 h
theorem kX6_get_20 {X : Scr} {M : Mem} {P : Option AV → Mem → Prop} (k : Runs X mX6_get 30 [] [vi (0 : Int)] M P) : Runs X mX6_get 20 [] [] M P := by
  refine Runs.iconst dX6_get_20 (by decide) ?_
  refine Runs.goto (tgt := 30) dX6_get_21 (by decide) ?_
  exact k
theorem kX6_get_24 {X : Scr} {M : Mem} {P : Option AV → Mem → Prop} {t0 : Nat} {x3 : Int} (k : Runs X mX6_get 30 [] [vi (M (oC t0) (x3).toNat)] M P) (hb_t0 : t0 < 27 := by omega) (h1 : 0 ≤ x3 := by omega) (h2 : x3 < ((150 : Nat) : Int) := by omega) : Runs X mX6_get 24 [(0, vr (oT t0)), (3, vi x3)] [] M P := by
  refine Runs.aload_n (j := 0) dX6_get_24 rfl ?_
  refine Runs.getr (o' := (oC t0)) (ci := 6) (j := 0) (C := RX6) (T := TX6) (N := 2) dX6_get_25 (kd_oT (by omega)) cls_X6 (by decide) rfl fl_X6_11 (rf_oC (by omega)) ⟨rfl, "", Or.inr ⟨_, rfl⟩⟩ ?_
  refine Runs.iload_n (j := 1) dX6_get_28 rfl ?_
  refine Runs.iald dX6_get_29 (kd_oC (by omega)) h1 h2 ?_
  refine Runs.picks (loc' := []) [] rfl ?_
  exact k
theorem kX6_get_30 {X : Scr} {M : Mem} {P : Option AV → Mem → Prop} {xs0 : Int} (k : P (some (vi xs0)) M) : Runs X mX6_get 30 [] [vi xs0] M P := by
  exact Runs.reti dX6_get_30 rfl k
theorem kX6_set_0 {X : Scr} {M : Mem} {P : Option AV → Mem → Prop} {t0 : Nat} {x1 x2 x3 : Int} (k1 : ((x1 * (15 : Int)) + x2) < 0 → Runs X mX6_set 31 [] [] M P) (k2 : 0 ≤ ((x1 * (15 : Int)) + x2) → Runs X mX6_set 13 [(0, vr (oT t0)), (3, vi x3), (4, vi ((x1 * (15 : Int)) + x2))] [] M P) (hb_t0 : t0 < 27 := by omega) (h1 : -2147483648 ≤ (x1 * (15 : Int)) ∧ (x1 * (15 : Int)) ≤ 2147483647 := by omega) (h2 : -2147483648 ≤ ((x1 * (15 : Int)) + x2) ∧ ((x1 * (15 : Int)) + x2) ≤ 2147483647 := by omega) : Runs X mX6_set 0 [(0, vr (oT t0)), (1, vi x1), (2, vi x2), (3, vi x3)] [] M P := by
  refine Runs.iload_n (j := 1) dX6_set_0 rfl ?_
  refine Runs.bipush dX6_set_1 (by decide) (by decide) ?_
  refine Runs.imul dX6_set_3 h1 ?_
  refine Runs.iload_n (j := 2) dX6_set_4 rfl ?_
  refine Runs.iadd dX6_set_5 h2 ?_
  refine Runs.istore (loc' := [(0, vr (oT t0)), (1, vi x1), (2, vi x2), (3, vi x3), (4, vi ((x1 * (15 : Int)) + x2))]) dX6_set_6 (by decide) rfl ?_
  refine Runs.iload (j := 4) dX6_set_8 rfl ?_
  refine Runs.if_lt (tgt := 31) dX6_set_10 (by decide) (fun h => ?_) (fun h => ?_)
  · refine Runs.picks (loc' := []) [] rfl ?_
    exact k1 h
  · refine Runs.picks (loc' := [(0, vr (oT t0)), (3, vi x3), (4, vi ((x1 * (15 : Int)) + x2))]) [0, 3, 4] rfl ?_
    exact k2 h
theorem kX6_set_13 {X : Scr} {M : Mem} {P : Option AV → Mem → Prop} {t0 : Nat} {x3 x4 : Int} (k1 : ((150 : Nat) : Int) ≤ x4 → Runs X mX6_set 31 [] [] M P) (k2 : x4 < ((150 : Nat) : Int) → Runs X mX6_set 23 [(0, vr (oT t0)), (3, vi x3), (4, vi x4)] [] M P) (hb_t0 : t0 < 27 := by omega) : Runs X mX6_set 13 [(0, vr (oT t0)), (3, vi x3), (4, vi x4)] [] M P := by
  refine Runs.iload (j := 2) dX6_set_13 rfl ?_
  refine Runs.aload_n (j := 0) dX6_set_15 rfl ?_
  refine Runs.getr (o' := (oC t0)) (ci := 6) (j := 0) (C := RX6) (T := TX6) (N := 2) dX6_set_16 (kd_oT (by omega)) cls_X6 (by decide) rfl fl_X6_11 (rf_oC (by omega)) ⟨rfl, "", Or.inr ⟨_, rfl⟩⟩ ?_
  refine Runs.alen dX6_set_19 (kd_oC (by omega)) (by decide) ?_
  refine Runs.icmp_ge (tgt := 31) dX6_set_20 (by decide) (fun h => ?_) (fun h => ?_)
  · refine Runs.picks (loc' := []) [] rfl ?_
    exact k1 h
  · exact k2 h
theorem kX6_set_23 {X : Scr} {M : Mem} {P : Option AV → Mem → Prop} {t0 : Nat} {x3 x4 : Int} (k : Runs X mX6_set 31 [] [] (up2 M (oC t0) (x4).toNat x3) P) (hb_t0 : t0 < 27 := by omega) (h1 : 0 ≤ x4 := by omega) (h2 : x4 < ((150 : Nat) : Int) := by omega) : Runs X mX6_set 23 [(0, vr (oT t0)), (3, vi x3), (4, vi x4)] [] M P := by
  refine Runs.aload_n (j := 0) dX6_set_23 rfl ?_
  refine Runs.getr (o' := (oC t0)) (ci := 6) (j := 0) (C := RX6) (T := TX6) (N := 2) dX6_set_24 (kd_oT (by omega)) cls_X6 (by decide) rfl fl_X6_11 (rf_oC (by omega)) ⟨rfl, "", Or.inr ⟨_, rfl⟩⟩ ?_
  refine Runs.iload (j := 2) dX6_set_27 rfl ?_
  refine Runs.iload_n (j := 1) dX6_set_29 rfl ?_
  refine Runs.iast dX6_set_30 (kd_oC (by omega)) h1 h2 ?_
  refine Runs.picks (loc' := []) [] rfl ?_
  exact k
theorem kX6_set_31 {X : Scr} {M : Mem} {P : Option AV → Mem → Prop} (k : P none M) : Runs X mX6_set 31 [] [] M P := by
  exact Runs.ret0 dX6_set_31 rfl k
theorem kX6_add_0 {X : Scr} {M : Mem} {P : Option AV → Mem → Prop} {t0 : Nat} {x1 x2 x3 : Int} (k1 : (M (oT t0) 1) < (10 : Int) → Runs X mX6_add 16 [(0, vr (oT t0)), (1, vi x1), (2, vi x2), (3, vi x3), (4, vi (M (oT t0) 1))] [] M P) (k2 : (10 : Int) ≤ (M (oT t0) 1) → Runs X mX6_add 13 [] [] M P) (hb_t0 : t0 < 27 := by omega) : Runs X mX6_add 0 [(0, vr (oT t0)), (1, vi x1), (2, vi x2), (3, vi x3)] [] M P := by
  refine Runs.aload_n (j := 0) dX6_add_0 rfl ?_
  refine Runs.geti (ci := 6) (j := 1) (C := RX6) (T := TX6) (N := 2) dX6_add_1 (kd_oT (by omega)) cls_X6 (by decide) rfl fl_X6_15 (Or.inl rfl) ?_
  refine Runs.istore (loc' := [(0, vr (oT t0)), (1, vi x1), (2, vi x2), (3, vi x3), (4, vi (M (oT t0) 1))]) dX6_add_4 (by decide) rfl ?_
  refine Runs.iload (j := 4) dX6_add_6 rfl ?_
  refine Runs.bipush dX6_add_8 (by decide) (by decide) ?_
  refine Runs.icmp_lt (tgt := 16) dX6_add_10 (by decide) (fun h => ?_) (fun h => ?_)
  · exact k1 h
  · refine Runs.picks (loc' := []) [] rfl ?_
    exact k2 h
theorem kX6_add_13 {X : Scr} {M : Mem} {P : Option AV → Mem → Prop} (k : P (some (vi (-9 : Int))) M) : Runs X mX6_add 13 [] [] M P := by
  refine Runs.bipush dX6_add_13 (by decide) (by decide) ?_
  exact Runs.reti dX6_add_15 rfl k
theorem kX6_add_16 {X : Scr} {M : Mem} {P Q : Option AV → Mem → Prop} {t0 : Nat} {x1 x2 x3 x4 : Int} (hC : Call X mX6_set [vr (oT t0), vi x4, vi (0 : Int), vi x1] (up2 M (oT t0) 1 ((M (oT t0) 1) + (1 : Int))) Q) (k : ∀ (M1 : Mem), Q none M1 → Runs X mX6_add 34 [(0, vr (oT t0)), (2, vi x2), (3, vi x3), (4, vi x4)] [] M1 P) (hb_t0 : t0 < 27 := by omega) (h1 : -2147483648 ≤ ((M (oT t0) 1) + (1 : Int)) ∧ ((M (oT t0) 1) + (1 : Int)) ≤ 2147483647 := by omega) : Runs X mX6_add 16 [(0, vr (oT t0)), (1, vi x1), (2, vi x2), (3, vi x3), (4, vi x4)] [] M P := by
  refine Runs.aload_n (j := 0) dX6_add_16 rfl ?_
  refine Runs.dup dX6_add_17 (by intro z h; cases h) ?_
  refine Runs.geti (ci := 6) (j := 1) (C := RX6) (T := TX6) (N := 2) dX6_add_18 (kd_oT (by omega)) cls_X6 (by decide) rfl fl_X6_15 (Or.inl rfl) ?_
  refine Runs.iconst dX6_add_21 (by decide) ?_
  refine Runs.iadd dX6_add_22 h1 ?_
  refine Runs.puti (ci := 6) (j := 1) (C := RX6) (T := TX6) (N := 2) dX6_add_23 (kd_oT (by omega)) cls_X6 (by decide) rfl fl_X6_15 rfl rfl ?_
  refine Runs.aload_n (j := 0) dX6_add_26 rfl ?_
  refine Runs.iload (j := 4) dX6_add_27 rfl ?_
  refine Runs.iconst dX6_add_29 (by decide) ?_
  refine Runs.iload_n (j := 1) dX6_add_30 rfl ?_
  refine Runs.callVv (y := mX6_set) (n := 3) (as := [vi x4, vi (0 : Int), vi x1]) (st := []) (q := (RX6, TX6, 2)) dX6_add_31 oc_X6_set im_X6_set se_X6_set ml_X6_19 rfl ⟨(Nat.le_of_ble_eq_true rfl), (Nat.le_of_ble_eq_true rfl)⟩ (Nat.le_of_ble_eq_true rfl) (Nat.le_of_ble_eq_true rfl) (kd_oT (by omega)) rfl rfl rfl hC (fun M1 hQ => ?_)
  refine Runs.picks (loc' := [(0, vr (oT t0)), (2, vi x2), (3, vi x3), (4, vi x4)]) [0, 2, 3, 4] rfl ?_
  exact k M1 hQ
theorem kX6_add_34 {X : Scr} {M : Mem} {P : Option AV → Mem → Prop} {t0 : Nat} {x2 x3 x4 : Int} (k1 : x2 = 0 → Runs X mX6_add 46 [(0, vr (oT t0)), (3, vi x3), (4, vi x4)] [vi (1 : Int), vi x4, vr (oT t0)] M P) (k2 : x2 ≠ 0 → Runs X mX6_add 42 [(0, vr (oT t0)), (3, vi x3), (4, vi x4)] [vi (1 : Int), vi x4, vr (oT t0)] M P) (hb_t0 : t0 < 27 := by omega) : Runs X mX6_add 34 [(0, vr (oT t0)), (2, vi x2), (3, vi x3), (4, vi x4)] [] M P := by
  refine Runs.aload_n (j := 0) dX6_add_34 rfl ?_
  refine Runs.iload (j := 3) dX6_add_35 rfl ?_
  refine Runs.iconst dX6_add_37 (by decide) ?_
  refine Runs.iload_n (j := 1) dX6_add_38 rfl ?_
  refine Runs.if_eq (tgt := 46) dX6_add_39 (by decide) (fun h => ?_) (fun h => ?_)
  · refine Runs.picks (loc' := [(0, vr (oT t0)), (3, vi x3), (4, vi x4)]) [0, 2, 3] rfl ?_
    exact k1 h
  · refine Runs.picks (loc' := [(0, vr (oT t0)), (3, vi x3), (4, vi x4)]) [0, 2, 3] rfl ?_
    exact k2 h
theorem kX6_add_42 {X : Scr} {M : Mem} {P : Option AV → Mem → Prop} {t0 ts0 : Nat} {x3 x4 xs1 xs2 : Int} (k : Runs X mX6_add 47 [(0, vr (oT t0)), (3, vi x3), (4, vi x4)] [vi (1 : Int), vi xs2, vi xs1, vr (oT ts0)] M P) (hb_t0 : t0 < 27 := by omega) (hb_ts0 : ts0 < 27 := by omega) : Runs X mX6_add 42 [(0, vr (oT t0)), (3, vi x3), (4, vi x4)] [vi xs2, vi xs1, vr (oT ts0)] M P := by
  refine Runs.iconst dX6_add_42 (by decide) ?_
  refine Runs.goto (tgt := 47) dX6_add_43 (by decide) ?_
  exact k
theorem kX6_add_46 {X : Scr} {M : Mem} {P : Option AV → Mem → Prop} {t0 ts0 : Nat} {x3 x4 xs1 xs2 : Int} (k : Runs X mX6_add 47 [(0, vr (oT t0)), (3, vi x3), (4, vi x4)] [vi (0 : Int), vi xs2, vi xs1, vr (oT ts0)] M P) (hb_t0 : t0 < 27 := by omega) (hb_ts0 : ts0 < 27 := by omega) : Runs X mX6_add 46 [(0, vr (oT t0)), (3, vi x3), (4, vi x4)] [vi xs2, vi xs1, vr (oT ts0)] M P := by
  refine Runs.iconst dX6_add_46 (by decide) ?_
  exact k
theorem kX6_add_47 {X : Scr} {M : Mem} {P Q : Option AV → Mem → Prop} {t0 ts0 : Nat} {x3 x4 xs1 xs2 xs3 : Int} (hC : Call X mX6_set [vr (oT ts0), vi xs1, vi xs2, vi xs3] M Q) (k : ∀ (M1 : Mem), Q none M1 → Runs X mX6_add 50 [(0, vr (oT t0)), (3, vi x3), (4, vi x4)] [] M1 P) (hb_t0 : t0 < 27 := by omega) (hb_ts0 : ts0 < 27 := by omega) : Runs X mX6_add 47 [(0, vr (oT t0)), (3, vi x3), (4, vi x4)] [vi xs3, vi xs2, vi xs1, vr (oT ts0)] M P := by
  refine Runs.callVv (y := mX6_set) (n := 3) (as := [vi xs1, vi xs2, vi xs3]) (st := []) (q := (RX6, TX6, 2)) dX6_add_47 oc_X6_set im_X6_set se_X6_set ml_X6_19 rfl ⟨(Nat.le_of_ble_eq_true rfl), (Nat.le_of_ble_eq_true rfl)⟩ (Nat.le_of_ble_eq_true rfl) (Nat.le_of_ble_eq_true rfl) (kd_oT (by omega)) rfl rfl rfl hC (fun M1 hQ => ?_)
  exact k M1 hQ
theorem kX6_add_50 {X : Scr} {M : Mem} {P Q : Option AV → Mem → Prop} {t0 : Nat} {x3 x4 : Int} (hC : Call X mX6_set [vr (oT t0), vi x4, vi (2 : Int), vi (0 : Int)] M Q) (k : ∀ (M1 : Mem), Q none M1 → Runs X mX6_add 58 [(0, vr (oT t0)), (3, vi x3), (4, vi x4)] [] M1 P) (hb_t0 : t0 < 27 := by omega) : Runs X mX6_add 50 [(0, vr (oT t0)), (3, vi x3), (4, vi x4)] [] M P := by
  refine Runs.aload_n (j := 0) dX6_add_50 rfl ?_
  refine Runs.iload (j := 2) dX6_add_51 rfl ?_
  refine Runs.iconst dX6_add_53 (by decide) ?_
  refine Runs.iconst dX6_add_54 (by decide) ?_
  refine Runs.callVv (y := mX6_set) (n := 3) (as := [vi x4, vi (2 : Int), vi (0 : Int)]) (st := []) (q := (RX6, TX6, 2)) dX6_add_55 oc_X6_set im_X6_set se_X6_set ml_X6_19 rfl ⟨(Nat.le_of_ble_eq_true rfl), (Nat.le_of_ble_eq_true rfl)⟩ (Nat.le_of_ble_eq_true rfl) (Nat.le_of_ble_eq_true rfl) (kd_oT (by omega)) rfl rfl rfl hC (fun M1 hQ => ?_)
  exact k M1 hQ
theorem kX6_add_58 {X : Scr} {M : Mem} {P Q : Option AV → Mem → Prop} {t0 : Nat} {x3 x4 : Int} (hC : Call X mX6_set [vr (oT t0), vi x4, vi (4 : Int), vi (0 : Int)] M Q) (k : ∀ (M1 : Mem), Q none M1 → Runs X mX6_add 66 [(0, vr (oT t0)), (3, vi x3), (4, vi x4)] [] M1 P) (hb_t0 : t0 < 27 := by omega) : Runs X mX6_add 58 [(0, vr (oT t0)), (3, vi x3), (4, vi x4)] [] M P := by
  refine Runs.aload_n (j := 0) dX6_add_58 rfl ?_
  refine Runs.iload (j := 2) dX6_add_59 rfl ?_
  refine Runs.iconst dX6_add_61 (by decide) ?_
  refine Runs.iconst dX6_add_62 (by decide) ?_
  refine Runs.callVv (y := mX6_set) (n := 3) (as := [vi x4, vi (4 : Int), vi (0 : Int)]) (st := []) (q := (RX6, TX6, 2)) dX6_add_63 oc_X6_set im_X6_set se_X6_set ml_X6_19 rfl ⟨(Nat.le_of_ble_eq_true rfl), (Nat.le_of_ble_eq_true rfl)⟩ (Nat.le_of_ble_eq_true rfl) (Nat.le_of_ble_eq_true rfl) (kd_oT (by omega)) rfl rfl rfl hC (fun M1 hQ => ?_)
  exact k M1 hQ
theorem kX6_add_66 {X : Scr} {M : Mem} {P Q : Option AV → Mem → Prop} {t0 : Nat} {x3 x4 : Int} (hC : Call X mX6_set [vr (oT t0), vi x4, vi (5 : Int), vi (0 : Int)] M Q) (k : ∀ (M1 : Mem), Q none M1 → Runs X mX6_add 74 [(0, vr (oT t0)), (3, vi x3), (4, vi x4)] [] M1 P) (hb_t0 : t0 < 27 := by omega) : Runs X mX6_add 66 [(0, vr (oT t0)), (3, vi x3), (4, vi x4)] [] M P := by
  refine Runs.aload_n (j := 0) dX6_add_66 rfl ?_
  refine Runs.iload (j := 2) dX6_add_67 rfl ?_
  refine Runs.iconst dX6_add_69 (by decide) ?_
  refine Runs.iconst dX6_add_70 (by decide) ?_
  refine Runs.callVv (y := mX6_set) (n := 3) (as := [vi x4, vi (5 : Int), vi (0 : Int)]) (st := []) (q := (RX6, TX6, 2)) dX6_add_71 oc_X6_set im_X6_set se_X6_set ml_X6_19 rfl ⟨(Nat.le_of_ble_eq_true rfl), (Nat.le_of_ble_eq_true rfl)⟩ (Nat.le_of_ble_eq_true rfl) (Nat.le_of_ble_eq_true rfl) (kd_oT (by omega)) rfl rfl rfl hC (fun M1 hQ => ?_)
  exact k M1 hQ
theorem kX6_add_74 {X : Scr} {M : Mem} {P Q : Option AV → Mem → Prop} {t0 : Nat} {x3 x4 : Int} (hC : Call X mX6_set [vr (oT t0), vi x4, vi (6 : Int), vi (0 : Int)] M Q) (k : ∀ (M1 : Mem), Q none M1 → Runs X mX6_add 83 [(0, vr (oT t0)), (3, vi x3), (4, vi x4)] [] M1 P) (hb_t0 : t0 < 27 := by omega) : Runs X mX6_add 74 [(0, vr (oT t0)), (3, vi x3), (4, vi x4)] [] M P := by
  refine Runs.aload_n (j := 0) dX6_add_74 rfl ?_
  refine Runs.iload (j := 2) dX6_add_75 rfl ?_
  refine Runs.bipush dX6_add_77 (by decide) (by decide) ?_
  refine Runs.iconst dX6_add_79 (by decide) ?_
  refine Runs.callVv (y := mX6_set) (n := 3) (as := [vi x4, vi (6 : Int), vi (0 : Int)]) (st := []) (q := (RX6, TX6, 2)) dX6_add_80 oc_X6_set im_X6_set se_X6_set ml_X6_19 rfl ⟨(Nat.le_of_ble_eq_true rfl), (Nat.le_of_ble_eq_true rfl)⟩ (Nat.le_of_ble_eq_true rfl) (Nat.le_of_ble_eq_true rfl) (kd_oT (by omega)) rfl rfl rfl hC (fun M1 hQ => ?_)
  exact k M1 hQ
theorem kX6_add_83 {X : Scr} {M : Mem} {P Q : Option AV → Mem → Prop} {t0 : Nat} {x3 x4 : Int} (hC : Call X mX6_passTo [vr (oT t0), vi x4, vi x3] M Q) (k : ∀ (M1 : Mem), Q none M1 → Runs X mX6_add 90 [(4, vi x4)] [] M1 P) (hb_t0 : t0 < 27 := by omega) : Runs X mX6_add 83 [(0, vr (oT t0)), (3, vi x3), (4, vi x4)] [] M P := by
  refine Runs.aload_n (j := 0) dX6_add_83 rfl ?_
  refine Runs.iload (j := 2) dX6_add_84 rfl ?_
  refine Runs.iload_n (j := 1) dX6_add_86 rfl ?_
  refine Runs.callVv (y := mX6_passTo) (n := 2) (as := [vi x4, vi x3]) (st := []) (q := (RX6, TX6, 2)) dX6_add_87 oc_X6_passTo im_X6_passTo se_X6_passTo ml_X6_23 rfl ⟨(Nat.le_of_ble_eq_true rfl), (Nat.le_of_ble_eq_true rfl)⟩ (Nat.le_of_ble_eq_true rfl) (Nat.le_of_ble_eq_true rfl) (kd_oT (by omega)) rfl rfl rfl hC (fun M1 hQ => ?_)
  refine Runs.picks (loc' := [(4, vi x4)]) [2] rfl ?_
  exact k M1 hQ
theorem kX6_add_90 {X : Scr} {M : Mem} {P : Option AV → Mem → Prop} {x4 : Int} (k : P (some (vi x4)) M) : Runs X mX6_add 90 [(4, vi x4)] [] M P := by
  refine Runs.iload (j := 0) dX6_add_90 rfl ?_
  exact Runs.reti dX6_add_92 rfl k
theorem kX6_passTo_0 {X : Scr} {M : Mem} {P Q : Option AV → Mem → Prop} {t0 : Nat} {x1 x2 : Int} (hC : Call X mX6_set [vr (oT t0), vi x1, vi (3 : Int), vi x2] M Q) (k : ∀ (M1 : Mem), Q none M1 → Runs X mX6_passTo 7 [(0, vr (oT t0)), (1, vi x1), (2, vi x2)] [] M1 P) (hb_t0 : t0 < 27 := by omega) : Runs X mX6_passTo 0 [(0, vr (oT t0)), (1, vi x1), (2, vi x2)] [] M P := by
  refine Runs.aload_n (j := 0) dX6_passTo_0 rfl ?_
  refine Runs.iload_n (j := 1) dX6_passTo_1 rfl ?_
  refine Runs.iconst dX6_passTo_2 (by decide) ?_
  refine Runs.iload_n (j := 2) dX6_passTo_3 rfl ?_
  refine Runs.callVv (y := mX6_set) (n := 3) (as := [vi x1, vi (3 : Int), vi x2]) (st := []) (q := (RX6, TX6, 2)) dX6_passTo_4 oc_X6_set im_X6_set se_X6_set ml_X6_19 rfl ⟨(Nat.le_of_ble_eq_true rfl), (Nat.le_of_ble_eq_true rfl)⟩ (Nat.le_of_ble_eq_true rfl) (Nat.le_of_ble_eq_true rfl) (kd_oT (by omega)) rfl rfl rfl hC (fun M1 hQ => ?_)
  exact k M1 hQ
theorem kX6_passTo_7 {X : Scr} {M : Mem} {P Q : Option AV → Mem → Prop} {t0 : Nat} {x1 x2 : Int} (hC : Call X mX6_get [vr (oT t0), vi x1, vi (6 : Int)] M Q) (k : ∀ (z : Int) (M1 : Mem), Q (some (vi z)) M1 → Runs X mX6_passTo 14 [(0, vr (oT t0)), (1, vi x1), (2, vi x2)] [vi z] M1 P) (hb_t0 : t0 < 27 := by omega) : Runs X mX6_passTo 7 [(0, vr (oT t0)), (1, vi x1), (2, vi x2)] [] M P := by
  refine Runs.aload_n (j := 0) dX6_passTo_7 rfl ?_
  refine Runs.iload_n (j := 1) dX6_passTo_8 rfl ?_
  refine Runs.bipush dX6_passTo_9 (by decide) (by decide) ?_
  refine Runs.callVi (y := mX6_get) (n := 2) (as := [vi x1, vi (6 : Int)]) (st := []) (q := (RX6, TX6, 2)) dX6_passTo_11 oc_X6_get im_X6_get se_X6_get ml_X6_27 rfl ⟨(Nat.le_of_ble_eq_true rfl), (Nat.le_of_ble_eq_true rfl)⟩ (Nat.le_of_ble_eq_true rfl) (Nat.le_of_ble_eq_true rfl) (kd_oT (by omega)) rfl rfl (Or.inl rfl) hC (fun z M1 hQ => ?_)
  exact k z M1 hQ
theorem kX6_passTo_14 {X : Scr} {M : Mem} {P : Option AV → Mem → Prop} {t0 : Nat} {x1 x2 xs0 : Int} (k1 : (8 : Int) ≤ xs0 → Runs X mX6_passTo 41 [] [] M P) (k2 : xs0 < (8 : Int) → Runs X mX6_passTo 21 [(0, vr (oT t0)), (1, vi x1), (2, vi x2), (3, vi xs0)] [] M P) (hb_t0 : t0 < 27 := by omega) : Runs X mX6_passTo 14 [(0, vr (oT t0)), (1, vi x1), (2, vi x2)] [vi xs0] M P := by
  refine Runs.istore_n (loc' := [(0, vr (oT t0)), (1, vi x1), (2, vi x2), (3, vi xs0)]) dX6_passTo_14 rfl (by decide) rfl ?_
  refine Runs.iload_n (j := 3) dX6_passTo_15 rfl ?_
  refine Runs.bipush dX6_passTo_16 (by decide) (by decide) ?_
  refine Runs.icmp_ge (tgt := 41) dX6_passTo_18 (by decide) (fun h => ?_) (fun h => ?_)
  · refine Runs.picks (loc' := []) [] rfl ?_
    exact k1 h
  · exact k2 h
theorem kX6_passTo_21 {X : Scr} {M : Mem} {P Q : Option AV → Mem → Prop} {t0 : Nat} {x1 x2 x3 : Int} (hC : Call X mX6_set [vr (oT t0), vi x1, vi ((7 : Int) + x3), vi x2] M Q) (k : ∀ (M1 : Mem), Q none M1 → Runs X mX6_passTo 31 [(0, vr (oT t0)), (1, vi x1), (3, vi x3)] [] M1 P) (hb_t0 : t0 < 27 := by omega) (h1 : -2147483648 ≤ ((7 : Int) + x3) ∧ ((7 : Int) + x3) ≤ 2147483647 := by omega) : Runs X mX6_passTo 21 [(0, vr (oT t0)), (1, vi x1), (2, vi x2), (3, vi x3)] [] M P := by
  refine Runs.aload_n (j := 0) dX6_passTo_21 rfl ?_
  refine Runs.iload_n (j := 1) dX6_passTo_22 rfl ?_
  refine Runs.bipush dX6_passTo_23 (by decide) (by decide) ?_
  refine Runs.iload_n (j := 3) dX6_passTo_25 rfl ?_
  refine Runs.iadd dX6_passTo_26 h1 ?_
  refine Runs.iload_n (j := 2) dX6_passTo_27 rfl ?_
  refine Runs.callVv (y := mX6_set) (n := 3) (as := [vi x1, vi ((7 : Int) + x3), vi x2]) (st := []) (q := (RX6, TX6, 2)) dX6_passTo_28 oc_X6_set im_X6_set se_X6_set ml_X6_19 rfl ⟨(Nat.le_of_ble_eq_true rfl), (Nat.le_of_ble_eq_true rfl)⟩ (Nat.le_of_ble_eq_true rfl) (Nat.le_of_ble_eq_true rfl) (kd_oT (by omega)) rfl rfl rfl hC (fun M1 hQ => ?_)
  refine Runs.picks (loc' := [(0, vr (oT t0)), (1, vi x1), (3, vi x3)]) [0, 1, 3] rfl ?_
  exact k M1 hQ
theorem kX6_passTo_31 {X : Scr} {M : Mem} {P Q : Option AV → Mem → Prop} {t0 : Nat} {x1 x3 : Int} (hC : Call X mX6_set [vr (oT t0), vi x1, vi (6 : Int), vi (x3 + (1 : Int))] M Q) (k : ∀ (M1 : Mem), Q none M1 → Runs X mX6_passTo 41 [] [] M1 P) (hb_t0 : t0 < 27 := by omega) (h1 : -2147483648 ≤ (x3 + (1 : Int)) ∧ (x3 + (1 : Int)) ≤ 2147483647 := by omega) : Runs X mX6_passTo 31 [(0, vr (oT t0)), (1, vi x1), (3, vi x3)] [] M P := by
  refine Runs.aload_n (j := 0) dX6_passTo_31 rfl ?_
  refine Runs.iload_n (j := 1) dX6_passTo_32 rfl ?_
  refine Runs.bipush dX6_passTo_33 (by decide) (by decide) ?_
  refine Runs.iload_n (j := 2) dX6_passTo_35 rfl ?_
  refine Runs.iconst dX6_passTo_36 (by decide) ?_
  refine Runs.iadd dX6_passTo_37 h1 ?_
  refine Runs.callVv (y := mX6_set) (n := 3) (as := [vi x1, vi (6 : Int), vi (x3 + (1 : Int))]) (st := []) (q := (RX6, TX6, 2)) dX6_passTo_38 oc_X6_set im_X6_set se_X6_set ml_X6_19 rfl ⟨(Nat.le_of_ble_eq_true rfl), (Nat.le_of_ble_eq_true rfl)⟩ (Nat.le_of_ble_eq_true rfl) (Nat.le_of_ble_eq_true rfl) (kd_oT (by omega)) rfl rfl rfl hC (fun M1 hQ => ?_)
  refine Runs.picks (loc' := []) [] rfl ?_
  exact k M1 hQ
theorem kX6_passTo_41 {X : Scr} {M : Mem} {P : Option AV → Mem → Prop} (k : P none M) : Runs X mX6_passTo 41 [] [] M P := by
  exact Runs.ret0 dX6_passTo_41 rfl k
theorem kX6_traceOf_0 {X : Scr} {M : Mem} {P : Option AV → Mem → Prop} {t0 : Nat} {x1 x2 : Int} (k1 : x2 < 0 → Runs X mX6_traceOf 15 [] [] M P) (k2 : 0 ≤ x2 → Runs X mX6_traceOf 4 [(0, vr (oT t0)), (1, vi x1), (2, vi x2)] [] M P) (hb_t0 : t0 < 27 := by omega) : Runs X mX6_traceOf 0 [(0, vr (oT t0)), (1, vi x1), (2, vi x2)] [] M P := by
  refine Runs.iload_n (j := 2) dX6_traceOf_0 rfl ?_
  refine Runs.if_lt (tgt := 15) dX6_traceOf_1 (by decide) (fun h => ?_) (fun h => ?_)
  · refine Runs.picks (loc' := []) [] rfl ?_
    exact k1 h
  · exact k2 h
theorem kX6_traceOf_4 {X : Scr} {M : Mem} {P Q : Option AV → Mem → Prop} {t0 : Nat} {x1 x2 : Int} (hC : Call X mX6_get [vr (oT t0), vi x1, vi (6 : Int)] M Q) (k : ∀ (z : Int) (M1 : Mem), Q (some (vi z)) M1 → Runs X mX6_traceOf 12 [(0, vr (oT t0)), (1, vi x1), (2, vi x2)] [vi z, vi x2] M1 P) (hb_t0 : t0 < 27 := by omega) : Runs X mX6_traceOf 4 [(0, vr (oT t0)), (1, vi x1), (2, vi x2)] [] M P := by
  refine Runs.iload_n (j := 2) dX6_traceOf_4 rfl ?_
  refine Runs.aload_n (j := 0) dX6_traceOf_5 rfl ?_
  refine Runs.iload_n (j := 1) dX6_traceOf_6 rfl ?_
  refine Runs.bipush dX6_traceOf_7 (by decide) (by decide) ?_
  refine Runs.callVi (y := mX6_get) (n := 2) (as := [vi x1, vi (6 : Int)]) (st := [vi x2]) (q := (RX6, TX6, 2)) dX6_traceOf_9 oc_X6_get im_X6_get se_X6_get ml_X6_27 rfl ⟨(Nat.le_of_ble_eq_true rfl), (Nat.le_of_ble_eq_true rfl)⟩ (Nat.le_of_ble_eq_true rfl) (Nat.le_of_ble_eq_true rfl) (kd_oT (by omega)) rfl rfl (Or.inl rfl) hC (fun z M1 hQ => ?_)
  exact k z M1 hQ
theorem kX6_traceOf_12 {X : Scr} {M : Mem} {P : Option AV → Mem → Prop} {t0 : Nat} {x1 x2 xs0 xs1 : Int} (k1 : xs0 < xs1 → Runs X mX6_traceOf 20 [(0, vr (oT t0)), (1, vi x1), (2, vi x2)] [] M P) (k2 : xs1 ≤ xs0 → Runs X mX6_traceOf 15 [] [] M P) (hb_t0 : t0 < 27 := by omega) : Runs X mX6_traceOf 12 [(0, vr (oT t0)), (1, vi x1), (2, vi x2)] [vi xs1, vi xs0] M P := by
  refine Runs.icmp_lt (tgt := 20) dX6_traceOf_12 (by decide) (fun h => ?_) (fun h => ?_)
  · exact k1 h
  · refine Runs.picks (loc' := []) [] rfl ?_
    exact k2 h
theorem kX6_traceOf_15 {X : Scr} {M : Mem} {P : Option AV → Mem → Prop} (k : Runs X mX6_traceOf 29 [] [vi (-9 : Int)] M P) : Runs X mX6_traceOf 15 [] [] M P := by
  refine Runs.bipush dX6_traceOf_15 (by decide) (by decide) ?_
  refine Runs.goto (tgt := 29) dX6_traceOf_17 (by decide) ?_
  exact k
theorem kX6_traceOf_20 {X : Scr} {M : Mem} {P Q : Option AV → Mem → Prop} {t0 : Nat} {x1 x2 : Int} (hC : Call X mX6_get [vr (oT t0), vi x1, vi ((7 : Int) + x2)] M Q) (k : ∀ (z : Int) (M1 : Mem), Q (some (vi z)) M1 → Runs X mX6_traceOf 29 [] [vi z] M1 P) (hb_t0 : t0 < 27 := by omega) (h1 : -2147483648 ≤ ((7 : Int) + x2) ∧ ((7 : Int) + x2) ≤ 2147483647 := by omega) : Runs X mX6_traceOf 20 [(0, vr (oT t0)), (1, vi x1), (2, vi x2)] [] M P := by
  refine Runs.aload_n (j := 0) dX6_traceOf_20 rfl ?_
  refine Runs.iload_n (j := 1) dX6_traceOf_21 rfl ?_
  refine Runs.bipush dX6_traceOf_22 (by decide) (by decide) ?_
  refine Runs.iload_n (j := 2) dX6_traceOf_24 rfl ?_
  refine Runs.iadd dX6_traceOf_25 h1 ?_
  refine Runs.callVi (y := mX6_get) (n := 2) (as := [vi x1, vi ((7 : Int) + x2)]) (st := []) (q := (RX6, TX6, 2)) dX6_traceOf_26 oc_X6_get im_X6_get se_X6_get ml_X6_27 rfl ⟨(Nat.le_of_ble_eq_true rfl), (Nat.le_of_ble_eq_true rfl)⟩ (Nat.le_of_ble_eq_true rfl) (Nat.le_of_ble_eq_true rfl) (kd_oT (by omega)) rfl rfl (Or.inl rfl) hC (fun z M1 hQ => ?_)
  refine Runs.picks (loc' := []) [] rfl ?_
  exact k z M1 hQ
theorem kX6_traceOf_29 {X : Scr} {M : Mem} {P : Option AV → Mem → Prop} {xs0 : Int} (k : P (some (vi xs0)) M) : Runs X mX6_traceOf 29 [] [vi xs0] M P := by
  exact Runs.reti dX6_traceOf_29 rfl k
theorem kX6_wearDown_0 {X : Scr} {M : Mem} {P Q : Option AV → Mem → Prop} {t0 : Nat} {x1 : Int} (hC : Call X mX6_get [vr (oT t0), vi x1, vi (2 : Int)] M Q) (k : ∀ (z : Int) (M1 : Mem), Q (some (vi z)) M1 → Runs X mX6_wearDown 11 [] [vi z, vi (99 : Int), vi (2 : Int), vi x1, vr (oT t0)] M1 P) (hb_t0 : t0 < 27 := by omega) : Runs X mX6_wearDown 0 [(0, vr (oT t0)), (1, vi x1)] [] M P := by
  refine Runs.aload_n (j := 0) dX6_wearDown_0 rfl ?_
  refine Runs.iload_n (j := 1) dX6_wearDown_1 rfl ?_
  refine Runs.iconst dX6_wearDown_2 (by decide) ?_
  refine Runs.bipush dX6_wearDown_3 (by decide) (by decide) ?_
  refine Runs.aload_n (j := 0) dX6_wearDown_5 rfl ?_
  refine Runs.iload_n (j := 1) dX6_wearDown_6 rfl ?_
  refine Runs.iconst dX6_wearDown_7 (by decide) ?_
  refine Runs.callVi (y := mX6_get) (n := 2) (as := [vi x1, vi (2 : Int)]) (st := [vi (99 : Int), vi (2 : Int), vi x1, vr (oT t0)]) (q := (RX6, TX6, 2)) dX6_wearDown_8 oc_X6_get im_X6_get se_X6_get ml_X6_27 rfl ⟨(Nat.le_of_ble_eq_true rfl), (Nat.le_of_ble_eq_true rfl)⟩ (Nat.le_of_ble_eq_true rfl) (Nat.le_of_ble_eq_true rfl) (kd_oT (by omega)) rfl rfl (Or.inl rfl) hC (fun z M1 hQ => ?_)
  refine Runs.picks (loc' := []) [] rfl ?_
  exact k z M1 hQ
theorem kX6_wearDown_11 {X : Scr} {M : Mem} {P Q : Option AV → Mem → Prop} {ts0 : Nat} {xs1 xs2 xs3 xs4 : Int} (hC : Call X mX6_set [vr (oT ts0), vi xs1, vi xs2, vi (min xs3 (xs4 + (1 : Int)))] M Q) (k : ∀ (M1 : Mem), Q none M1 → Runs X mX6_wearDown 19 [] [] M1 P) (hb_ts0 : ts0 < 27 := by omega) (h1 : -2147483648 ≤ (xs4 + (1 : Int)) ∧ (xs4 + (1 : Int)) ≤ 2147483647 := by omega) : Runs X mX6_wearDown 11 [] [vi xs4, vi xs3, vi xs2, vi xs1, vr (oT ts0)] M P := by
  refine Runs.iconst dX6_wearDown_11 (by decide) ?_
  refine Runs.iadd dX6_wearDown_12 h1 ?_
  refine Runs.mmin dX6_wearDown_13 w2_114 nat_mmin ⟨by decide, Nat.le_of_ble_eq_true rfl⟩ ?_
  refine Runs.callVv (y := mX6_set) (n := 3) (as := [vi xs1, vi xs2, vi (min xs3 (xs4 + (1 : Int)))]) (st := []) (q := (RX6, TX6, 2)) dX6_wearDown_16 oc_X6_set im_X6_set se_X6_set ml_X6_19 rfl ⟨(Nat.le_of_ble_eq_true rfl), (Nat.le_of_ble_eq_true rfl)⟩ (Nat.le_of_ble_eq_true rfl) (Nat.le_of_ble_eq_true rfl) (kd_oT (by omega)) rfl rfl rfl hC (fun M1 hQ => ?_)
  exact k M1 hQ
theorem kX6_wearDown_19 {X : Scr} {M : Mem} {P : Option AV → Mem → Prop} (k : P none M) : Runs X mX6_wearDown 19 [] [] M P := by
  exact Runs.ret0 dX6_wearDown_19 rfl k
theorem kX6_ownedBy_0 {X : Scr} {M : Mem} {P : Option AV → Mem → Prop} {t0 : Nat} {x1 : Int} (k : Runs X mX6_ownedBy 4 [(0, vr (oT t0)), (1, vi x1), (2, vi (0 : Int)), (3, vi (0 : Int))] [] M P) (hb_t0 : t0 < 27 := by omega) : Runs X mX6_ownedBy 0 [(0, vr (oT t0)), (1, vi x1)] [] M P := by
  refine Runs.iconst dX6_ownedBy_0 (by decide) ?_
  refine Runs.istore_n (loc' := [(0, vr (oT t0)), (1, vi x1), (2, vi (0 : Int))]) dX6_ownedBy_1 rfl (by decide) rfl ?_
  refine Runs.iconst dX6_ownedBy_2 (by decide) ?_
  refine Runs.istore_n (loc' := [(0, vr (oT t0)), (1, vi x1), (2, vi (0 : Int)), (3, vi (0 : Int))]) dX6_ownedBy_3 rfl (by decide) rfl ?_
  exact k
theorem kX6_ownedBy_4 {X : Scr} {M : Mem} {P : Option AV → Mem → Prop} {t0 : Nat} {x1 x2 x3 : Int} (k1 : (M (oT t0) 1) ≤ x3 → Runs X mX6_ownedBy 34 [(2, vi x2)] [] M P) (k2 : x3 < (M (oT t0) 1) → Runs X mX6_ownedBy 12 [(0, vr (oT t0)), (1, vi x1), (2, vi x2), (3, vi x3)] [] M P) (hb_t0 : t0 < 27 := by omega) : Runs X mX6_ownedBy 4 [(0, vr (oT t0)), (1, vi x1), (2, vi x2), (3, vi x3)] [] M P := by
  refine Runs.iload_n (j := 3) dX6_ownedBy_4 rfl ?_
  refine Runs.aload_n (j := 0) dX6_ownedBy_5 rfl ?_
  refine Runs.geti (ci := 6) (j := 1) (C := RX6) (T := TX6) (N := 2) dX6_ownedBy_6 (kd_oT (by omega)) cls_X6 (by decide) rfl fl_X6_15 (Or.inl rfl) ?_
  refine Runs.icmp_ge (tgt := 34) dX6_ownedBy_9 (by decide) (fun h => ?_) (fun h => ?_)
  · refine Runs.picks (loc' := [(2, vi x2)]) [2] rfl ?_
    exact k1 h
  · exact k2 h
theorem kX6_ownedBy_12 {X : Scr} {M : Mem} {P Q : Option AV → Mem → Prop} {t0 : Nat} {x1 x2 x3 : Int} (hC : Call X mX6_get [vr (oT t0), vi x3, vi (3 : Int)] M Q) (k : ∀ (z : Int) (M1 : Mem), Q (some (vi z)) M1 → Runs X mX6_ownedBy 18 [(0, vr (oT t0)), (1, vi x1), (2, vi x2), (3, vi x3)] [vi z] M1 P) (hb_t0 : t0 < 27 := by omega) : Runs X mX6_ownedBy 12 [(0, vr (oT t0)), (1, vi x1), (2, vi x2), (3, vi x3)] [] M P := by
  refine Runs.aload_n (j := 0) dX6_ownedBy_12 rfl ?_
  refine Runs.iload_n (j := 3) dX6_ownedBy_13 rfl ?_
  refine Runs.iconst dX6_ownedBy_14 (by decide) ?_
  refine Runs.callVi (y := mX6_get) (n := 2) (as := [vi x3, vi (3 : Int)]) (st := []) (q := (RX6, TX6, 2)) dX6_ownedBy_15 oc_X6_get im_X6_get se_X6_get ml_X6_27 rfl ⟨(Nat.le_of_ble_eq_true rfl), (Nat.le_of_ble_eq_true rfl)⟩ (Nat.le_of_ble_eq_true rfl) (Nat.le_of_ble_eq_true rfl) (kd_oT (by omega)) rfl rfl (Or.inl rfl) hC (fun z M1 hQ => ?_)
  exact k z M1 hQ
theorem kX6_ownedBy_18 {X : Scr} {M : Mem} {P : Option AV → Mem → Prop} {t0 : Nat} {x1 x2 x3 xs0 : Int} (k1 : xs0 ≠ x1 → Runs X mX6_ownedBy 28 [(0, vr (oT t0)), (1, vi x1), (2, vi x2), (3, vi x3)] [] M P) (k2 : xs0 = x1 → Runs X mX6_ownedBy 22 [(0, vr (oT t0)), (1, vi x1), (2, vi x2), (3, vi x3)] [] M P) (hb_t0 : t0 < 27 := by omega) : Runs X mX6_ownedBy 18 [(0, vr (oT t0)), (1, vi x1), (2, vi x2), (3, vi x3)] [vi xs0] M P := by
  refine Runs.iload_n (j := 1) dX6_ownedBy_18 rfl ?_
  refine Runs.icmp_ne (tgt := 28) dX6_ownedBy_19 (by decide) (fun h => ?_) (fun h => ?_)
  · exact k1 h
  · exact k2 h
theorem kX6_ownedBy_22 {X : Scr} {M : Mem} {P : Option AV → Mem → Prop} {t0 : Nat} {x1 x2 x3 : Int} (k : Runs X mX6_ownedBy 28 [(0, vr (oT t0)), (1, vi x1), (2, vi (zor x2 (zshl (1 : Int) x3))), (3, vi x3)] [] M P) (hb_t0 : t0 < 27 := by omega) : Runs X mX6_ownedBy 22 [(0, vr (oT t0)), (1, vi x1), (2, vi x2), (3, vi x3)] [] M P := by
  refine Runs.iload_n (j := 2) dX6_ownedBy_22 rfl ?_
  refine Runs.iconst dX6_ownedBy_23 (by decide) ?_
  refine Runs.iload_n (j := 3) dX6_ownedBy_24 rfl ?_
  refine Runs.ishl dX6_ownedBy_25 ?_
  refine Runs.ior dX6_ownedBy_26 ?_
  refine Runs.istore_n (loc' := [(0, vr (oT t0)), (1, vi x1), (2, vi (zor x2 (zshl (1 : Int) x3))), (3, vi x3)]) dX6_ownedBy_27 rfl (by decide) rfl ?_
  exact k
theorem kX6_ownedBy_28 {X : Scr} {M : Mem} {P : Option AV → Mem → Prop} {t0 : Nat} {x1 x2 x3 : Int} (k : Runs X mX6_ownedBy 4 [(0, vr (oT t0)), (1, vi x1), (2, vi x2), (3, vi (x3 + (1 : Int)))] [] M P) (hb_t0 : t0 < 27 := by omega) (h1 : -2147483648 ≤ (x3 + (1 : Int)) ∧ (x3 + (1 : Int)) ≤ 2147483647 := by omega) : Runs X mX6_ownedBy 28 [(0, vr (oT t0)), (1, vi x1), (2, vi x2), (3, vi x3)] [] M P := by
  refine Runs.iinc (k := 3) (loc' := [(0, vr (oT t0)), (1, vi x1), (2, vi x2), (3, vi (x3 + (1 : Int)))]) dX6_ownedBy_28 rfl h1 (by decide) rfl ?_
  refine Runs.goto (tgt := 4) dX6_ownedBy_31 (by decide) ?_
  exact k
theorem kX6_ownedBy_34 {X : Scr} {M : Mem} {P : Option AV → Mem → Prop} {x2 : Int} (k : P (some (vi x2)) M) : Runs X mX6_ownedBy 34 [(2, vi x2)] [] M P := by
  refine Runs.iload_n (j := 0) dX6_ownedBy_34 rfl ?_
  exact Runs.reti dX6_ownedBy_35 rfl k
theorem kX6_fakes_0 {X : Scr} {M : Mem} {P : Option AV → Mem → Prop} {t0 : Nat} (k : Runs X mX6_fakes 4 [(0, vr (oT t0)), (1, vi (0 : Int)), (2, vi (0 : Int))] [] M P) (hb_t0 : t0 < 27 := by omega) : Runs X mX6_fakes 0 [(0, vr (oT t0))] [] M P := by
  refine Runs.iconst dX6_fakes_0 (by decide) ?_
  refine Runs.istore_n (loc' := [(0, vr (oT t0)), (1, vi (0 : Int))]) dX6_fakes_1 rfl (by decide) rfl ?_
  refine Runs.iconst dX6_fakes_2 (by decide) ?_
  refine Runs.istore_n (loc' := [(0, vr (oT t0)), (1, vi (0 : Int)), (2, vi (0 : Int))]) dX6_fakes_3 rfl (by decide) rfl ?_
  exact k
theorem kX6_fakes_4 {X : Scr} {M : Mem} {P : Option AV → Mem → Prop} {t0 : Nat} {x1 x2 : Int} (k1 : (M (oT t0) 1) ≤ x2 → Runs X mX6_fakes 27 [(1, vi x1)] [] M P) (k2 : x2 < (M (oT t0) 1) → Runs X mX6_fakes 12 [(0, vr (oT t0)), (1, vi x1), (2, vi x2)] [] M P) (hb_t0 : t0 < 27 := by omega) : Runs X mX6_fakes 4 [(0, vr (oT t0)), (1, vi x1), (2, vi x2)] [] M P := by
  refine Runs.iload_n (j := 2) dX6_fakes_4 rfl ?_
  refine Runs.aload_n (j := 0) dX6_fakes_5 rfl ?_
  refine Runs.geti (ci := 6) (j := 1) (C := RX6) (T := TX6) (N := 2) dX6_fakes_6 (kd_oT (by omega)) cls_X6 (by decide) rfl fl_X6_15 (Or.inl rfl) ?_
  refine Runs.icmp_ge (tgt := 27) dX6_fakes_9 (by decide) (fun h => ?_) (fun h => ?_)
  · refine Runs.picks (loc' := [(1, vi x1)]) [1] rfl ?_
    exact k1 h
  · exact k2 h
theorem kX6_fakes_12 {X : Scr} {M : Mem} {P Q : Option AV → Mem → Prop} {t0 : Nat} {x1 x2 : Int} (hC : Call X mX6_get [vr (oT t0), vi x2, vi (4 : Int)] M Q) (k : ∀ (z : Int) (M1 : Mem), Q (some (vi z)) M1 → Runs X mX6_fakes 19 [(0, vr (oT t0)), (2, vi x2)] [vi z, vi x1] M1 P) (hb_t0 : t0 < 27 := by omega) : Runs X mX6_fakes 12 [(0, vr (oT t0)), (1, vi x1), (2, vi x2)] [] M P := by
  refine Runs.iload_n (j := 1) dX6_fakes_12 rfl ?_
  refine Runs.aload_n (j := 0) dX6_fakes_13 rfl ?_
  refine Runs.iload_n (j := 2) dX6_fakes_14 rfl ?_
  refine Runs.iconst dX6_fakes_15 (by decide) ?_
  refine Runs.callVi (y := mX6_get) (n := 2) (as := [vi x2, vi (4 : Int)]) (st := [vi x1]) (q := (RX6, TX6, 2)) dX6_fakes_16 oc_X6_get im_X6_get se_X6_get ml_X6_27 rfl ⟨(Nat.le_of_ble_eq_true rfl), (Nat.le_of_ble_eq_true rfl)⟩ (Nat.le_of_ble_eq_true rfl) (Nat.le_of_ble_eq_true rfl) (kd_oT (by omega)) rfl rfl (Or.inl rfl) hC (fun z M1 hQ => ?_)
  refine Runs.picks (loc' := [(0, vr (oT t0)), (2, vi x2)]) [0, 2] rfl ?_
  exact k z M1 hQ
theorem kX6_fakes_19 {X : Scr} {M : Mem} {P : Option AV → Mem → Prop} {t0 : Nat} {x2 xs0 xs1 : Int} (k : Runs X mX6_fakes 4 [(0, vr (oT t0)), (1, vi (xs0 + xs1)), (2, vi (x2 + (1 : Int)))] [] M P) (hb_t0 : t0 < 27 := by omega) (h1 : -2147483648 ≤ (xs0 + xs1) ∧ (xs0 + xs1) ≤ 2147483647 := by omega) (h2 : -2147483648 ≤ (x2 + (1 : Int)) ∧ (x2 + (1 : Int)) ≤ 2147483647 := by omega) : Runs X mX6_fakes 19 [(0, vr (oT t0)), (2, vi x2)] [vi xs1, vi xs0] M P := by
  refine Runs.iadd dX6_fakes_19 h1 ?_
  refine Runs.istore_n (loc' := [(0, vr (oT t0)), (1, vi (xs0 + xs1)), (2, vi x2)]) dX6_fakes_20 rfl (by decide) rfl ?_
  refine Runs.iinc (k := 2) (loc' := [(0, vr (oT t0)), (1, vi (xs0 + xs1)), (2, vi (x2 + (1 : Int)))]) dX6_fakes_21 rfl h2 (by decide) rfl ?_
  refine Runs.goto (tgt := 4) dX6_fakes_24 (by decide) ?_
  exact k
theorem kX6_fakes_27 {X : Scr} {M : Mem} {P : Option AV → Mem → Prop} {x1 : Int} (k : P (some (vi x1)) M) : Runs X mX6_fakes 27 [(1, vi x1)] [] M P := by
  refine Runs.iload_n (j := 0) dX6_fakes_27 rfl ?_
  exact Runs.reti dX6_fakes_28 rfl k
theorem kX6_wearTooMuch_0 {X : Scr} {M : Mem} {P Q : Option AV → Mem → Prop} {t0 : Nat} {x1 : Int} (hC : Call X mX6_get [vr (oT t0), vi x1, vi (2 : Int)] M Q) (k : ∀ (z : Int) (M1 : Mem), Q (some (vi z)) M1 → Runs X mX6_wearTooMuch 7 [(0, vr (oT t0)), (1, vi x1)] [vi z, vi (0 : Int)] M1 P) (hb_t0 : t0 < 27 := by omega) : Runs X mX6_wearTooMuch 0 [(0, vr (oT t0)), (1, vi x1)] [] M P := by
  refine Runs.iconst dX6_wearTooMuch_0 (by decide) ?_
  refine Runs.aload_n (j := 0) dX6_wearTooMuch_1 rfl ?_
  refine Runs.iload_n (j := 1) dX6_wearTooMuch_2 rfl ?_
  refine Runs.iconst dX6_wearTooMuch_3 (by decide) ?_
  refine Runs.callVi (y := mX6_get) (n := 2) (as := [vi x1, vi (2 : Int)]) (st := [vi (0 : Int)]) (q := (RX6, TX6, 2)) dX6_wearTooMuch_4 oc_X6_get im_X6_get se_X6_get ml_X6_27 rfl ⟨(Nat.le_of_ble_eq_true rfl), (Nat.le_of_ble_eq_true rfl)⟩ (Nat.le_of_ble_eq_true rfl) (Nat.le_of_ble_eq_true rfl) (kd_oT (by omega)) rfl rfl (Or.inl rfl) hC (fun z M1 hQ => ?_)
  exact k z M1 hQ
theorem kX6_wearTooMuch_7 {X : Scr} {M : Mem} {P Q : Option AV → Mem → Prop} {t0 : Nat} {x1 xs0 xs1 : Int} (hC : Call X mX6_get [vr (oT t0), vi x1, vi (5 : Int)] M Q) (k : ∀ (z : Int) (M1 : Mem), Q (some (vi z)) M1 → Runs X mX6_wearTooMuch 13 [] [vi z, vi xs1, vi xs0] M1 P) (hb_t0 : t0 < 27 := by omega) : Runs X mX6_wearTooMuch 7 [(0, vr (oT t0)), (1, vi x1)] [vi xs1, vi xs0] M P := by
  refine Runs.aload_n (j := 0) dX6_wearTooMuch_7 rfl ?_
  refine Runs.iload_n (j := 1) dX6_wearTooMuch_8 rfl ?_
  refine Runs.iconst dX6_wearTooMuch_9 (by decide) ?_
  refine Runs.callVi (y := mX6_get) (n := 2) (as := [vi x1, vi (5 : Int)]) (st := [vi xs1, vi xs0]) (q := (RX6, TX6, 2)) dX6_wearTooMuch_10 oc_X6_get im_X6_get se_X6_get ml_X6_27 rfl ⟨(Nat.le_of_ble_eq_true rfl), (Nat.le_of_ble_eq_true rfl)⟩ (Nat.le_of_ble_eq_true rfl) (Nat.le_of_ble_eq_true rfl) (kd_oT (by omega)) rfl rfl (Or.inl rfl) hC (fun z M1 hQ => ?_)
  refine Runs.picks (loc' := []) [] rfl ?_
  exact k z M1 hQ
theorem kX6_wearTooMuch_13 {X : Scr} {M : Mem} {P : Option AV → Mem → Prop} {xs0 xs1 xs2 : Int} (k : P (some (vi (max xs0 (xs1 - xs2)))) M) (h1 : -2147483648 ≤ (xs1 - xs2) ∧ (xs1 - xs2) ≤ 2147483647 := by omega) : Runs X mX6_wearTooMuch 13 [] [vi xs2, vi xs1, vi xs0] M P := by
  refine Runs.isub dX6_wearTooMuch_13 h1 ?_
  refine Runs.mmax dX6_wearTooMuch_14 w3_103 nat_mmax ⟨by decide, Nat.le_of_ble_eq_true rfl⟩ ?_
  exact Runs.reti dX6_wearTooMuch_17 rfl k
theorem kX6_wearTooMuchOf_0 {X : Scr} {M : Mem} {P : Option AV → Mem → Prop} {t0 : Nat} {x1 : Int} (k : Runs X mX6_wearTooMuchOf 4 [(0, vr (oT t0)), (1, vi x1), (2, vi (0 : Int)), (3, vi (0 : Int))] [] M P) (hb_t0 : t0 < 27 := by omega) : Runs X mX6_wearTooMuchOf 0 [(0, vr (oT t0)), (1, vi x1)] [] M P := by
  refine Runs.iconst dX6_wearTooMuchOf_0 (by decide) ?_
  refine Runs.istore_n (loc' := [(0, vr (oT t0)), (1, vi x1), (2, vi (0 : Int))]) dX6_wearTooMuchOf_1 rfl (by decide) rfl ?_
  refine Runs.iconst dX6_wearTooMuchOf_2 (by decide) ?_
  refine Runs.istore_n (loc' := [(0, vr (oT t0)), (1, vi x1), (2, vi (0 : Int)), (3, vi (0 : Int))]) dX6_wearTooMuchOf_3 rfl (by decide) rfl ?_
  exact k
theorem kX6_wearTooMuchOf_4 {X : Scr} {M : Mem} {P : Option AV → Mem → Prop} {t0 : Nat} {x1 x2 x3 : Int} (k1 : (M (oT t0) 1) ≤ x3 → Runs X mX6_wearTooMuchOf 36 [(2, vi x2)] [] M P) (k2 : x3 < (M (oT t0) 1) → Runs X mX6_wearTooMuchOf 12 [(0, vr (oT t0)), (1, vi x1), (2, vi x2), (3, vi x3)] [] M P) (hb_t0 : t0 < 27 := by omega) : Runs X mX6_wearTooMuchOf 4 [(0, vr (oT t0)), (1, vi x1), (2, vi x2), (3, vi x3)] [] M P := by
  refine Runs.iload_n (j := 3) dX6_wearTooMuchOf_4 rfl ?_
  refine Runs.aload_n (j := 0) dX6_wearTooMuchOf_5 rfl ?_
  refine Runs.geti (ci := 6) (j := 1) (C := RX6) (T := TX6) (N := 2) dX6_wearTooMuchOf_6 (kd_oT (by omega)) cls_X6 (by decide) rfl fl_X6_15 (Or.inl rfl) ?_
  refine Runs.icmp_ge (tgt := 36) dX6_wearTooMuchOf_9 (by decide) (fun h => ?_) (fun h => ?_)
  · refine Runs.picks (loc' := [(2, vi x2)]) [2] rfl ?_
    exact k1 h
  · exact k2 h
theorem kX6_wearTooMuchOf_12 {X : Scr} {M : Mem} {P Q : Option AV → Mem → Prop} {t0 : Nat} {x1 x2 x3 : Int} (hC : Call X mX6_get [vr (oT t0), vi x3, vi (3 : Int)] M Q) (k : ∀ (z : Int) (M1 : Mem), Q (some (vi z)) M1 → Runs X mX6_wearTooMuchOf 18 [(0, vr (oT t0)), (1, vi x1), (2, vi x2), (3, vi x3)] [vi z] M1 P) (hb_t0 : t0 < 27 := by omega) : Runs X mX6_wearTooMuchOf 12 [(0, vr (oT t0)), (1, vi x1), (2, vi x2), (3, vi x3)] [] M P := by
  refine Runs.aload_n (j := 0) dX6_wearTooMuchOf_12 rfl ?_
  refine Runs.iload_n (j := 3) dX6_wearTooMuchOf_13 rfl ?_
  refine Runs.iconst dX6_wearTooMuchOf_14 (by decide) ?_
  refine Runs.callVi (y := mX6_get) (n := 2) (as := [vi x3, vi (3 : Int)]) (st := []) (q := (RX6, TX6, 2)) dX6_wearTooMuchOf_15 oc_X6_get im_X6_get se_X6_get ml_X6_27 rfl ⟨(Nat.le_of_ble_eq_true rfl), (Nat.le_of_ble_eq_true rfl)⟩ (Nat.le_of_ble_eq_true rfl) (Nat.le_of_ble_eq_true rfl) (kd_oT (by omega)) rfl rfl (Or.inl rfl) hC (fun z M1 hQ => ?_)
  exact k z M1 hQ
theorem kX6_wearTooMuchOf_18 {X : Scr} {M : Mem} {P : Option AV → Mem → Prop} {t0 : Nat} {x1 x2 x3 xs0 : Int} (k1 : xs0 ≠ x1 → Runs X mX6_wearTooMuchOf 30 [(0, vr (oT t0)), (1, vi x1), (2, vi x2), (3, vi x3)] [] M P) (k2 : xs0 = x1 → Runs X mX6_wearTooMuchOf 22 [(0, vr (oT t0)), (1, vi x1), (2, vi x2), (3, vi x3)] [] M P) (hb_t0 : t0 < 27 := by omega) : Runs X mX6_wearTooMuchOf 18 [(0, vr (oT t0)), (1, vi x1), (2, vi x2), (3, vi x3)] [vi xs0] M P := by
  refine Runs.iload_n (j := 1) dX6_wearTooMuchOf_18 rfl ?_
  refine Runs.icmp_ne (tgt := 30) dX6_wearTooMuchOf_19 (by decide) (fun h => ?_) (fun h => ?_)
  · exact k1 h
  · exact k2 h
theorem kX6_wearTooMuchOf_22 {X : Scr} {M : Mem} {P Q : Option AV → Mem → Prop} {t0 : Nat} {x1 x2 x3 : Int} (hC : Call X mX6_wearTooMuch [vr (oT t0), vi x3] M Q) (k : ∀ (z : Int) (M1 : Mem), Q (some (vi z)) M1 → Runs X mX6_wearTooMuchOf 28 [(0, vr (oT t0)), (1, vi x1), (3, vi x3)] [vi z, vi x2] M1 P) (hb_t0 : t0 < 27 := by omega) : Runs X mX6_wearTooMuchOf 22 [(0, vr (oT t0)), (1, vi x1), (2, vi x2), (3, vi x3)] [] M P := by
  refine Runs.iload_n (j := 2) dX6_wearTooMuchOf_22 rfl ?_
  refine Runs.aload_n (j := 0) dX6_wearTooMuchOf_23 rfl ?_
  refine Runs.iload_n (j := 3) dX6_wearTooMuchOf_24 rfl ?_
  refine Runs.callVi (y := mX6_wearTooMuch) (n := 1) (as := [vi x3]) (st := [vi x2]) (q := (RX6, TX6, 2)) dX6_wearTooMuchOf_25 oc_X6_wearTooMuch im_X6_wearTooMuch se_X6_wearTooMuch ml_X6_39 rfl ⟨(Nat.le_of_ble_eq_true rfl), (Nat.le_of_ble_eq_true rfl)⟩ (Nat.le_of_ble_eq_true rfl) (Nat.le_of_ble_eq_true rfl) (kd_oT (by omega)) rfl rfl (Or.inl rfl) hC (fun z M1 hQ => ?_)
  refine Runs.picks (loc' := [(0, vr (oT t0)), (1, vi x1), (3, vi x3)]) [0, 1, 3] rfl ?_
  exact k z M1 hQ
theorem kX6_wearTooMuchOf_28 {X : Scr} {M : Mem} {P : Option AV → Mem → Prop} {t0 : Nat} {x1 x3 xs0 xs1 : Int} (k : Runs X mX6_wearTooMuchOf 30 [(0, vr (oT t0)), (1, vi x1), (2, vi (xs0 + xs1)), (3, vi x3)] [] M P) (hb_t0 : t0 < 27 := by omega) (h1 : -2147483648 ≤ (xs0 + xs1) ∧ (xs0 + xs1) ≤ 2147483647 := by omega) : Runs X mX6_wearTooMuchOf 28 [(0, vr (oT t0)), (1, vi x1), (3, vi x3)] [vi xs1, vi xs0] M P := by
  refine Runs.iadd dX6_wearTooMuchOf_28 h1 ?_
  refine Runs.istore_n (loc' := [(0, vr (oT t0)), (1, vi x1), (2, vi (xs0 + xs1)), (3, vi x3)]) dX6_wearTooMuchOf_29 rfl (by decide) rfl ?_
  exact k
theorem kX6_wearTooMuchOf_30 {X : Scr} {M : Mem} {P : Option AV → Mem → Prop} {t0 : Nat} {x1 x2 x3 : Int} (k : Runs X mX6_wearTooMuchOf 4 [(0, vr (oT t0)), (1, vi x1), (2, vi x2), (3, vi (x3 + (1 : Int)))] [] M P) (hb_t0 : t0 < 27 := by omega) (h1 : -2147483648 ≤ (x3 + (1 : Int)) ∧ (x3 + (1 : Int)) ≤ 2147483647 := by omega) : Runs X mX6_wearTooMuchOf 30 [(0, vr (oT t0)), (1, vi x1), (2, vi x2), (3, vi x3)] [] M P := by
  refine Runs.iinc (k := 3) (loc' := [(0, vr (oT t0)), (1, vi x1), (2, vi x2), (3, vi (x3 + (1 : Int)))]) dX6_wearTooMuchOf_30 rfl h1 (by decide) rfl ?_
  refine Runs.goto (tgt := 4) dX6_wearTooMuchOf_33 (by decide) ?_
  exact k
theorem kX6_wearTooMuchOf_36 {X : Scr} {M : Mem} {P : Option AV → Mem → Prop} {x2 : Int} (k : P (some (vi x2)) M) : Runs X mX6_wearTooMuchOf 36 [(2, vi x2)] [] M P := by
  refine Runs.iload_n (j := 0) dX6_wearTooMuchOf_36 rfl ?_
  exact Runs.reti dX6_wearTooMuchOf_37 rfl k
theorem kX6_copyFrom_0 {X : Scr} {M : Mem} {P Q : Option AV → Mem → Prop} {t0 t1 : Nat} (hC : Call X mX6_copyCells [vr (oT t0), vr (oT t1), vi (0 : Int), vi ((150 : Nat) : Int)] (up2 M (oT t0) 1 (M (oT t1) 1)) Q) (k : ∀ (M1 : Mem), Q none M1 → Runs X mX6_copyFrom 23 [] [] M1 P) (hb_t0 : t0 < 27 := by omega) (hb_t1 : t1 < 27 := by omega) : Runs X mX6_copyFrom 0 [(0, vr (oT t0)), (1, vr (oT t1))] [] M P := by
  refine Runs.aload_n (j := 1) dX6_copyFrom_0 rfl ?_
  refine Runs.ifnull dX6_copyFrom_1 ?_
  refine Runs.aload_n (j := 0) dX6_copyFrom_4 rfl ?_
  refine Runs.aload_n (j := 1) dX6_copyFrom_5 rfl ?_
  refine Runs.geti (ci := 6) (j := 1) (C := RX6) (T := TX6) (N := 2) dX6_copyFrom_6 (kd_oT (by omega)) cls_X6 (by decide) rfl fl_X6_15 (Or.inl rfl) ?_
  refine Runs.puti (ci := 6) (j := 1) (C := RX6) (T := TX6) (N := 2) dX6_copyFrom_9 (kd_oT (by omega)) cls_X6 (by decide) rfl fl_X6_15 rfl rfl ?_
  refine Runs.aload_n (j := 0) dX6_copyFrom_12 rfl ?_
  refine Runs.aload_n (j := 1) dX6_copyFrom_13 rfl ?_
  refine Runs.iconst dX6_copyFrom_14 (by decide) ?_
  refine Runs.aload_n (j := 0) dX6_copyFrom_15 rfl ?_
  refine Runs.getr (o' := (oC t0)) (ci := 6) (j := 0) (C := RX6) (T := TX6) (N := 2) dX6_copyFrom_16 (kd_oT (by omega)) cls_X6 (by decide) rfl fl_X6_11 (rf_oC (by omega)) ⟨rfl, "", Or.inr ⟨_, rfl⟩⟩ ?_
  refine Runs.alen dX6_copyFrom_19 (kd_oC (by omega)) (by decide) ?_
  refine Runs.callVv (y := mX6_copyCells) (n := 3) (as := [vr (oT t1), vi (0 : Int), vi ((150 : Nat) : Int)]) (st := []) (q := (RX6, TX6, 2)) dX6_copyFrom_20 oc_X6_copyCells im_X6_copyCells se_X6_copyCells ml_X6_43 rfl ⟨(Nat.le_of_ble_eq_true rfl), (Nat.le_of_ble_eq_true rfl)⟩ (Nat.le_of_ble_eq_true rfl) (Nat.le_of_ble_eq_true rfl) (kd_oT (by omega)) rfl rfl rfl hC (fun M1 hQ => ?_)
  refine Runs.picks (loc' := []) [] rfl ?_
  exact k M1 hQ
theorem kX6_copyFrom_23 {X : Scr} {M : Mem} {P : Option AV → Mem → Prop} (k : P none M) : Runs X mX6_copyFrom 23 [] [] M P := by
  exact Runs.ret0 dX6_copyFrom_23 rfl k
theorem kX6_takeBack_0 {X : Scr} {M : Mem} {P : Option AV → Mem → Prop} {t0 t1 : Nat} (k : Runs X mX6_takeBack 7 [(0, vr (oT t0)), (1, vr (oT t1)), (2, vi (0 : Int))] [] M P) (hb_t0 : t0 < 27 := by omega) (hb_t1 : t1 < 27 := by omega) : Runs X mX6_takeBack 0 [(0, vr (oT t0)), (1, vr (oT t1))] [] M P := by
  refine Runs.aload_n (j := 1) dX6_takeBack_0 rfl ?_
  refine Runs.ifnonnull (tgt := 5) dX6_takeBack_1 (by decide) ?_
  refine Runs.iconst dX6_takeBack_5 (by decide) ?_
  refine Runs.istore_n (loc' := [(0, vr (oT t0)), (1, vr (oT t1)), (2, vi (0 : Int))]) dX6_takeBack_6 rfl (by decide) rfl ?_
  exact k
theorem kX6_takeBack_7 {X : Scr} {M : Mem} {P : Option AV → Mem → Prop} {t0 t1 : Nat} {x2 : Int} (k1 : (M (oT t1) 1) ≤ x2 → Runs X mX6_takeBack 46 [] [] M P) (k2 : x2 < (M (oT t1) 1) → Runs X mX6_takeBack 15 [(0, vr (oT t0)), (1, vr (oT t1)), (2, vi x2)] [] M P) (hb_t0 : t0 < 27 := by omega) (hb_t1 : t1 < 27 := by omega) : Runs X mX6_takeBack 7 [(0, vr (oT t0)), (1, vr (oT t1)), (2, vi x2)] [] M P := by
  refine Runs.iload_n (j := 2) dX6_takeBack_7 rfl ?_
  refine Runs.aload_n (j := 1) dX6_takeBack_8 rfl ?_
  refine Runs.geti (ci := 6) (j := 1) (C := RX6) (T := TX6) (N := 2) dX6_takeBack_9 (kd_oT (by omega)) cls_X6 (by decide) rfl fl_X6_15 (Or.inl rfl) ?_
  refine Runs.icmp_ge (tgt := 46) dX6_takeBack_12 (by decide) (fun h => ?_) (fun h => ?_)
  · refine Runs.picks (loc' := []) [] rfl ?_
    exact k1 h
  · exact k2 h
theorem kX6_takeBack_15 {X : Scr} {M : Mem} {P Q : Option AV → Mem → Prop} {t0 t1 : Nat} {x2 : Int} (hC : Call X mX6_get [vr (oT t0), vi x2, vi (5 : Int)] M Q) (k : ∀ (z : Int) (M1 : Mem), Q (some (vi z)) M1 → Runs X mX6_takeBack 21 [(0, vr (oT t0)), (1, vr (oT t1)), (2, vi x2)] [vi z] M1 P) (hb_t0 : t0 < 27 := by omega) (hb_t1 : t1 < 27 := by omega) : Runs X mX6_takeBack 15 [(0, vr (oT t0)), (1, vr (oT t1)), (2, vi x2)] [] M P := by
  refine Runs.aload_n (j := 0) dX6_takeBack_15 rfl ?_
  refine Runs.iload_n (j := 2) dX6_takeBack_16 rfl ?_
  refine Runs.iconst dX6_takeBack_17 (by decide) ?_
  refine Runs.callVi (y := mX6_get) (n := 2) (as := [vi x2, vi (5 : Int)]) (st := []) (q := (RX6, TX6, 2)) dX6_takeBack_18 oc_X6_get im_X6_get se_X6_get ml_X6_27 rfl ⟨(Nat.le_of_ble_eq_true rfl), (Nat.le_of_ble_eq_true rfl)⟩ (Nat.le_of_ble_eq_true rfl) (Nat.le_of_ble_eq_true rfl) (kd_oT (by omega)) rfl rfl (Or.inl rfl) hC (fun z M1 hQ => ?_)
  exact k z M1 hQ
theorem kX6_takeBack_21 {X : Scr} {M : Mem} {P Q : Option AV → Mem → Prop} {t0 t1 : Nat} {x2 xs0 : Int} (hC : Call X mX6_copyCells [vr (oT t0), vr (oT t1), vi (x2 * (15 : Int)), vi (15 : Int)] M Q) (k : ∀ (M1 : Mem), Q none M1 → Runs X mX6_takeBack 33 [(0, vr (oT t0)), (1, vr (oT t1)), (2, vi x2), (3, vi xs0)] [] M1 P) (hb_t0 : t0 < 27 := by omega) (hb_t1 : t1 < 27 := by omega) (h1 : -2147483648 ≤ (x2 * (15 : Int)) ∧ (x2 * (15 : Int)) ≤ 2147483647 := by omega) : Runs X mX6_takeBack 21 [(0, vr (oT t0)), (1, vr (oT t1)), (2, vi x2)] [vi xs0] M P := by
  refine Runs.istore_n (loc' := [(0, vr (oT t0)), (1, vr (oT t1)), (2, vi x2), (3, vi xs0)]) dX6_takeBack_21 rfl (by decide) rfl ?_
  refine Runs.aload_n (j := 0) dX6_takeBack_22 rfl ?_
  refine Runs.aload_n (j := 1) dX6_takeBack_23 rfl ?_
  refine Runs.iload_n (j := 2) dX6_takeBack_24 rfl ?_
  refine Runs.bipush dX6_takeBack_25 (by decide) (by decide) ?_
  refine Runs.imul dX6_takeBack_27 h1 ?_
  refine Runs.bipush dX6_takeBack_28 (by decide) (by decide) ?_
  refine Runs.callVv (y := mX6_copyCells) (n := 3) (as := [vr (oT t1), vi (x2 * (15 : Int)), vi (15 : Int)]) (st := []) (q := (RX6, TX6, 2)) dX6_takeBack_30 oc_X6_copyCells im_X6_copyCells se_X6_copyCells ml_X6_43 rfl ⟨(Nat.le_of_ble_eq_true rfl), (Nat.le_of_ble_eq_true rfl)⟩ (Nat.le_of_ble_eq_true rfl) (Nat.le_of_ble_eq_true rfl) (kd_oT (by omega)) rfl rfl rfl hC (fun M1 hQ => ?_)
  exact k M1 hQ
theorem kX6_takeBack_33 {X : Scr} {M : Mem} {P Q : Option AV → Mem → Prop} {t0 t1 : Nat} {x2 x3 : Int} (hC : Call X mX6_set [vr (oT t0), vi x2, vi (5 : Int), vi x3] M Q) (k : ∀ (M1 : Mem), Q none M1 → Runs X mX6_takeBack 40 [(0, vr (oT t0)), (1, vr (oT t1)), (2, vi x2)] [] M1 P) (hb_t0 : t0 < 27 := by omega) (hb_t1 : t1 < 27 := by omega) : Runs X mX6_takeBack 33 [(0, vr (oT t0)), (1, vr (oT t1)), (2, vi x2), (3, vi x3)] [] M P := by
  refine Runs.aload_n (j := 0) dX6_takeBack_33 rfl ?_
  refine Runs.iload_n (j := 2) dX6_takeBack_34 rfl ?_
  refine Runs.iconst dX6_takeBack_35 (by decide) ?_
  refine Runs.iload_n (j := 3) dX6_takeBack_36 rfl ?_
  refine Runs.callVv (y := mX6_set) (n := 3) (as := [vi x2, vi (5 : Int), vi x3]) (st := []) (q := (RX6, TX6, 2)) dX6_takeBack_37 oc_X6_set im_X6_set se_X6_set ml_X6_19 rfl ⟨(Nat.le_of_ble_eq_true rfl), (Nat.le_of_ble_eq_true rfl)⟩ (Nat.le_of_ble_eq_true rfl) (Nat.le_of_ble_eq_true rfl) (kd_oT (by omega)) rfl rfl rfl hC (fun M1 hQ => ?_)
  refine Runs.picks (loc' := [(0, vr (oT t0)), (1, vr (oT t1)), (2, vi x2)]) [0, 1, 2] rfl ?_
  exact k M1 hQ
theorem kX6_takeBack_40 {X : Scr} {M : Mem} {P : Option AV → Mem → Prop} {t0 t1 : Nat} {x2 : Int} (k : Runs X mX6_takeBack 7 [(0, vr (oT t0)), (1, vr (oT t1)), (2, vi (x2 + (1 : Int)))] [] M P) (hb_t0 : t0 < 27 := by omega) (hb_t1 : t1 < 27 := by omega) (h1 : -2147483648 ≤ (x2 + (1 : Int)) ∧ (x2 + (1 : Int)) ≤ 2147483647 := by omega) : Runs X mX6_takeBack 40 [(0, vr (oT t0)), (1, vr (oT t1)), (2, vi x2)] [] M P := by
  refine Runs.iinc (k := 2) (loc' := [(0, vr (oT t0)), (1, vr (oT t1)), (2, vi (x2 + (1 : Int)))]) dX6_takeBack_40 rfl h1 (by decide) rfl ?_
  refine Runs.goto (tgt := 7) dX6_takeBack_43 (by decide) ?_
  exact k
theorem kX6_takeBack_46 {X : Scr} {M : Mem} {P : Option AV → Mem → Prop} (k : P none M) : Runs X mX6_takeBack 46 [] [] M P := by
  exact Runs.ret0 dX6_takeBack_46 rfl k
theorem kX6_copyCells_0 {X : Scr} {M : Mem} {P : Option AV → Mem → Prop} {t0 t1 : Nat} {x2 x3 : Int} (k1 : x2 < 0 → Runs X mX6_copyCells 44 [] [] M P) (k2 : 0 ≤ x2 → Runs X mX6_copyCells 4 [(0, vr (oT t0)), (1, vr (oT t1)), (2, vi x2), (3, vi x3)] [] M P) (hb_t0 : t0 < 27 := by omega) (hb_t1 : t1 < 27 := by omega) : Runs X mX6_copyCells 0 [(0, vr (oT t0)), (1, vr (oT t1)), (2, vi x2), (3, vi x3)] [] M P := by
  refine Runs.iload_n (j := 2) dX6_copyCells_0 rfl ?_
  refine Runs.if_lt (tgt := 44) dX6_copyCells_1 (by decide) (fun h => ?_) (fun h => ?_)
  · refine Runs.picks (loc' := []) [] rfl ?_
    exact k1 h
  · exact k2 h
theorem kX6_copyCells_4 {X : Scr} {M : Mem} {P : Option AV → Mem → Prop} {t0 t1 : Nat} {x2 x3 : Int} (k1 : x3 < 0 → Runs X mX6_copyCells 44 [] [] M P) (k2 : 0 ≤ x3 → Runs X mX6_copyCells 8 [(0, vr (oT t0)), (1, vr (oT t1)), (2, vi x2), (3, vi x3)] [] M P) (hb_t0 : t0 < 27 := by omega) (hb_t1 : t1 < 27 := by omega) : Runs X mX6_copyCells 4 [(0, vr (oT t0)), (1, vr (oT t1)), (2, vi x2), (3, vi x3)] [] M P := by
  refine Runs.iload_n (j := 3) dX6_copyCells_4 rfl ?_
  refine Runs.if_lt (tgt := 44) dX6_copyCells_5 (by decide) (fun h => ?_) (fun h => ?_)
  · refine Runs.picks (loc' := []) [] rfl ?_
    exact k1 h
  · exact k2 h
theorem kX6_copyCells_8 {X : Scr} {M : Mem} {P : Option AV → Mem → Prop} {t0 t1 : Nat} {x2 x3 : Int} (k1 : ((150 : Nat) : Int) < (x2 + x3) → Runs X mX6_copyCells 44 [] [] M P) (k2 : (x2 + x3) ≤ ((150 : Nat) : Int) → Runs X mX6_copyCells 19 [(0, vr (oT t0)), (1, vr (oT t1)), (2, vi x2), (3, vi x3)] [] M P) (hb_t0 : t0 < 27 := by omega) (hb_t1 : t1 < 27 := by omega) (h1 : -2147483648 ≤ (x2 + x3) ∧ (x2 + x3) ≤ 2147483647 := by omega) : Runs X mX6_copyCells 8 [(0, vr (oT t0)), (1, vr (oT t1)), (2, vi x2), (3, vi x3)] [] M P := by
  refine Runs.iload_n (j := 2) dX6_copyCells_8 rfl ?_
  refine Runs.iload_n (j := 3) dX6_copyCells_9 rfl ?_
  refine Runs.iadd dX6_copyCells_10 h1 ?_
  refine Runs.aload_n (j := 0) dX6_copyCells_11 rfl ?_
  refine Runs.getr (o' := (oC t0)) (ci := 6) (j := 0) (C := RX6) (T := TX6) (N := 2) dX6_copyCells_12 (kd_oT (by omega)) cls_X6 (by decide) rfl fl_X6_11 (rf_oC (by omega)) ⟨rfl, "", Or.inr ⟨_, rfl⟩⟩ ?_
  refine Runs.alen dX6_copyCells_15 (kd_oC (by omega)) (by decide) ?_
  refine Runs.icmp_gt (tgt := 44) dX6_copyCells_16 (by decide) (fun h => ?_) (fun h => ?_)
  · refine Runs.picks (loc' := []) [] rfl ?_
    exact k1 h
  · exact k2 h
theorem kX6_copyCells_19 {X : Scr} {M : Mem} {P : Option AV → Mem → Prop} {t0 t1 : Nat} {x2 x3 : Int} (k1 : ((150 : Nat) : Int) < (x2 + x3) → Runs X mX6_copyCells 44 [] [] M P) (k2 : (x2 + x3) ≤ ((150 : Nat) : Int) → Runs X mX6_copyCells 30 [(0, vr (oT t0)), (1, vr (oT t1)), (2, vi x2), (3, vi x3)] [] M P) (hb_t0 : t0 < 27 := by omega) (hb_t1 : t1 < 27 := by omega) (h1 : -2147483648 ≤ (x2 + x3) ∧ (x2 + x3) ≤ 2147483647 := by omega) : Runs X mX6_copyCells 19 [(0, vr (oT t0)), (1, vr (oT t1)), (2, vi x2), (3, vi x3)] [] M P := by
  refine Runs.iload_n (j := 2) dX6_copyCells_19 rfl ?_
  refine Runs.iload_n (j := 3) dX6_copyCells_20 rfl ?_
  refine Runs.iadd dX6_copyCells_21 h1 ?_
  refine Runs.aload_n (j := 1) dX6_copyCells_22 rfl ?_
  refine Runs.getr (o' := (oC t1)) (ci := 6) (j := 0) (C := RX6) (T := TX6) (N := 2) dX6_copyCells_23 (kd_oT (by omega)) cls_X6 (by decide) rfl fl_X6_11 (rf_oC (by omega)) ⟨rfl, "", Or.inr ⟨_, rfl⟩⟩ ?_
  refine Runs.alen dX6_copyCells_26 (kd_oC (by omega)) (by decide) ?_
  refine Runs.icmp_gt (tgt := 44) dX6_copyCells_27 (by decide) (fun h => ?_) (fun h => ?_)
  · refine Runs.picks (loc' := []) [] rfl ?_
    exact k1 h
  · exact k2 h
theorem kX6_copyCells_30 {X : Scr} {M : Mem} {P : Option AV → Mem → Prop} {t0 t1 : Nat} {x2 x3 : Int} (k : Runs X mX6_copyCells 44 [] [] (cpyM M (oC t1) (x2).toNat (oC t0) (x2).toNat (x3).toNat) P) (hb_t0 : t0 < 27 := by omega) (hb_t1 : t1 < 27 := by omega) (h1 : 0 ≤ x2 := by omega) (h2 : 0 ≤ x3 := by omega) (h3 : x2 + x3 ≤ ((150 : Nat) : Int) := by omega) : Runs X mX6_copyCells 30 [(0, vr (oT t0)), (1, vr (oT t1)), (2, vi x2), (3, vi x3)] [] M P := by
  refine Runs.aload_n (j := 1) dX6_copyCells_30 rfl ?_
  refine Runs.getr (o' := (oC t1)) (ci := 6) (j := 0) (C := RX6) (T := TX6) (N := 2) dX6_copyCells_31 (kd_oT (by omega)) cls_X6 (by decide) rfl fl_X6_11 (rf_oC (by omega)) ⟨rfl, "", Or.inr ⟨_, rfl⟩⟩ ?_
  refine Runs.iload_n (j := 2) dX6_copyCells_34 rfl ?_
  refine Runs.aload_n (j := 0) dX6_copyCells_35 rfl ?_
  refine Runs.getr (o' := (oC t0)) (ci := 6) (j := 0) (C := RX6) (T := TX6) (N := 2) dX6_copyCells_36 (kd_oT (by omega)) cls_X6 (by decide) rfl fl_X6_11 (rf_oC (by omega)) ⟨rfl, "", Or.inr ⟨_, rfl⟩⟩ ?_
  refine Runs.iload_n (j := 2) dX6_copyCells_39 rfl ?_
  refine Runs.iload_n (j := 3) dX6_copyCells_40 rfl ?_
  refine Runs.acopy dX6_copyCells_41 w2_178 nat_acopy ⟨by decide, Nat.le_of_ble_eq_true rfl⟩ (kd_oC (by omega)) (kd_oC (by omega)) h1 h1 h2 h3 h3 ?_
  refine Runs.picks (loc' := []) [] rfl ?_
  exact k
theorem kX6_copyCells_44 {X : Scr} {M : Mem} {P : Option AV → Mem → Prop} (k : P none M) : Runs X mX6_copyCells 44 [] [] M P := by
  exact Runs.ret0 dX6_copyCells_44 rfl k
