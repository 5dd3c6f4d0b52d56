/-! ===== printed by program: decode rows, block rows of XS ===== -/
theorem dX1_add_0 : decode cX1_add 0 = .ok (.aload_n 0, 1) := by decide +kernel
theorem dX1_add_1 : decode cX1_add 1 = .ok (.getfield 18, 3) := by decide +kernel
theorem dX1_add_4 : decode cX1_add 4 = .ok (.ifCond .lt 57, 3) := by decide +kernel
theorem dX1_add_7 : decode cX1_add 7 = .ok (.aload_n 0, 1) := by decide +kernel
theorem dX1_add_8 : decode cX1_add 8 = .ok (.getfield 18, 3) := by decide +kernel
theorem dX1_add_11 : decode cX1_add 11 = .ok (.aload_n 0, 1) := by decide +kernel
theorem dX1_add_12 : decode cX1_add 12 = .ok (.getfield 9, 3) := by decide +kernel
theorem dX1_add_15 : decode cX1_add 15 = .ok (.arraylength, 1) := by decide +kernel
theorem dX1_add_16 : decode cX1_add 16 = .ok (.if_icmp .ge 45, 3) := by decide +kernel
theorem dX1_add_19 : decode cX1_add 19 = .ok (.aload_n 0, 1) := by decide +kernel
theorem dX1_add_20 : decode cX1_add 20 = .ok (.getfield 18, 3) := by decide +kernel
theorem dX1_add_23 : decode cX1_add 23 = .ok (.aload_n 0, 1) := by decide +kernel
theorem dX1_add_24 : decode cX1_add 24 = .ok (.getfield 15, 3) := by decide +kernel
theorem dX1_add_27 : decode cX1_add 27 = .ok (.arraylength, 1) := by decide +kernel
theorem dX1_add_28 : decode cX1_add 28 = .ok (.if_icmp .ge 33, 3) := by decide +kernel
theorem dX1_add_31 : decode cX1_add 31 = .ok (.aload_n 0, 1) := by decide +kernel
theorem dX1_add_32 : decode cX1_add 32 = .ok (.getfield 9, 3) := by decide +kernel
theorem dX1_add_35 : decode cX1_add 35 = .ok (.aload_n 0, 1) := by decide +kernel
theorem dX1_add_36 : decode cX1_add 36 = .ok (.getfield 18, 3) := by decide +kernel
theorem dX1_add_39 : decode cX1_add 39 = .ok (.iload_n 1, 1) := by decide +kernel
theorem dX1_add_40 : decode cX1_add 40 = .ok (.iastore, 1) := by decide +kernel
theorem dX1_add_41 : decode cX1_add 41 = .ok (.aload_n 0, 1) := by decide +kernel
theorem dX1_add_42 : decode cX1_add 42 = .ok (.getfield 15, 3) := by decide +kernel
theorem dX1_add_45 : decode cX1_add 45 = .ok (.aload_n 0, 1) := by decide +kernel
theorem dX1_add_46 : decode cX1_add 46 = .ok (.getfield 18, 3) := by decide +kernel
theorem dX1_add_49 : decode cX1_add 49 = .ok (.iload_n 2, 1) := by decide +kernel
theorem dX1_add_50 : decode cX1_add 50 = .ok (.iastore, 1) := by decide +kernel
theorem dX1_add_51 : decode cX1_add 51 = .ok (.aload_n 0, 1) := by decide +kernel
theorem dX1_add_52 : decode cX1_add 52 = .ok (.dup, 1) := by decide +kernel
theorem dX1_add_53 : decode cX1_add 53 = .ok (.getfield 18, 3) := by decide +kernel
theorem dX1_add_56 : decode cX1_add 56 = .ok (.iconst 1, 1) := by decide +kernel
theorem dX1_add_57 : decode cX1_add 57 = .ok (.iadd, 1) := by decide +kernel
theorem dX1_add_58 : decode cX1_add 58 = .ok (.putfield 18, 3) := by decide +kernel
theorem dX1_add_61 : decode cX1_add 61 = .ok (.return_, 1) := by decide +kernel
theorem dX1_priceOf_0 : decode cX1_priceOf 0 = .ok (.iload_n 1, 1) := by decide +kernel
theorem dX1_priceOf_1 : decode cX1_priceOf 1 = .ok (.ifCond .lt 12, 3) := by decide +kernel
theorem dX1_priceOf_4 : decode cX1_priceOf 4 = .ok (.iload_n 1, 1) := by decide +kernel
theorem dX1_priceOf_5 : decode cX1_priceOf 5 = .ok (.aload_n 0, 1) := by decide +kernel
theorem dX1_priceOf_6 : decode cX1_priceOf 6 = .ok (.getfield 9, 3) := by decide +kernel
theorem dX1_priceOf_9 : decode cX1_priceOf 9 = .ok (.arraylength, 1) := by decide +kernel
theorem dX1_priceOf_10 : decode cX1_priceOf 10 = .ok (.if_icmp .lt 7, 3) := by decide +kernel
theorem dX1_priceOf_13 : decode cX1_priceOf 13 = .ok (.iconst 0, 1) := by decide +kernel
theorem dX1_priceOf_14 : decode cX1_priceOf 14 = .ok (.goto 9, 3) := by decide +kernel
theorem dX1_priceOf_17 : decode cX1_priceOf 17 = .ok (.aload_n 0, 1) := by decide +kernel
theorem dX1_priceOf_18 : decode cX1_priceOf 18 = .ok (.getfield 9, 3) := by decide +kernel
theorem dX1_priceOf_21 : decode cX1_priceOf 21 = .ok (.iload_n 1, 1) := by decide +kernel
theorem dX1_priceOf_22 : decode cX1_priceOf 22 = .ok (.iaload, 1) := by decide +kernel
theorem dX1_priceOf_23 : decode cX1_priceOf 23 = .ok (.ireturn, 1) := by decide +kernel
theorem dX1_useOf_0 : decode cX1_useOf 0 = .ok (.iload_n 1, 1) := by decide +kernel
theorem dX1_useOf_1 : decode cX1_useOf 1 = .ok (.ifCond .lt 12, 3) := by decide +kernel
theorem dX1_useOf_4 : decode cX1_useOf 4 = .ok (.iload_n 1, 1) := by decide +kernel
theorem dX1_useOf_5 : decode cX1_useOf 5 = .ok (.aload_n 0, 1) := by decide +kernel
theorem dX1_useOf_6 : decode cX1_useOf 6 = .ok (.getfield 15, 3) := by decide +kernel
theorem dX1_useOf_9 : decode cX1_useOf 9 = .ok (.arraylength, 1) := by decide +kernel
theorem dX1_useOf_10 : decode cX1_useOf 10 = .ok (.if_icmp .lt 7, 3) := by decide +kernel
theorem dX1_useOf_13 : decode cX1_useOf 13 = .ok (.iconst 0, 1) := by decide +kernel
theorem dX1_useOf_14 : decode cX1_useOf 14 = .ok (.goto 9, 3) := by decide +kernel
theorem dX1_useOf_17 : decode cX1_useOf 17 = .ok (.aload_n 0, 1) := by decide +kernel
theorem dX1_useOf_18 : decode cX1_useOf 18 = .ok (.getfield 15, 3) := by decide +kernel
theorem dX1_useOf_21 : decode cX1_useOf 21 = .ok (.iload_n 1, 1) := by decide +kernel
theorem dX1_useOf_22 : decode cX1_useOf 22 = .ok (.iaload, 1) := by decide +kernel
theorem dX1_useOf_23 : decode cX1_useOf 23 = .ok (.ireturn, 1) := by decide +kernel
theorem dX1_priceOfSet_0 : decode cX1_priceOfSet 0 = .ok (.iconst 0, 1) := by decide +kernel
theorem dX1_priceOfSet_1 : decode cX1_priceOfSet 1 = .ok (.istore_n 2, 1) := by decide +kernel
theorem dX1_priceOfSet_2 : decode cX1_priceOfSet 2 = .ok (.iconst 0, 1) := by decide +kernel
theorem dX1_priceOfSet_3 : decode cX1_priceOfSet 3 = .ok (.istore_n 3, 1) := by decide +kernel
theorem dX1_priceOfSet_4 : decode cX1_priceOfSet 4 = .ok (.iload_n 3, 1) := by decide +kernel
theorem dX1_priceOfSet_5 : decode cX1_priceOfSet 5 = .ok (.aload_n 0, 1) := by decide +kernel
theorem dX1_priceOfSet_6 : decode cX1_priceOfSet 6 = .ok (.getfield 18, 3) := by decide +kernel
theorem dX1_priceOfSet_9 : decode cX1_priceOfSet 9 = .ok (.if_icmp .ge 23, 3) := by decide +kernel
theorem dX1_priceOfSet_12 : decode cX1_priceOfSet 12 = .ok (.iload_n 2, 1) := by decide +kernel
theorem dX1_priceOfSet_13 : decode cX1_priceOfSet 13 = .ok (.iload_n 1, 1) := by decide +kernel
theorem dX1_priceOfSet_14 : decode cX1_priceOfSet 14 = .ok (.iload_n 3, 1) := by decide +kernel
theorem dX1_priceOfSet_15 : decode cX1_priceOfSet 15 = .ok (.ishr, 1) := by decide +kernel
theorem dX1_priceOfSet_16 : decode cX1_priceOfSet 16 = .ok (.iconst 1, 1) := by decide +kernel
theorem dX1_priceOfSet_17 : decode cX1_priceOfSet 17 = .ok (.iand, 1) := by decide +kernel
theorem dX1_priceOfSet_18 : decode cX1_priceOfSet 18 = .ok (.aload_n 0, 1) := by decide +kernel
theorem dX1_priceOfSet_19 : decode cX1_priceOfSet 19 = .ok (.iload_n 3, 1) := by decide +kernel
theorem dX1_priceOfSet_20 : decode cX1_priceOfSet 20 = .ok (.invokevirtual 22, 3) := by decide +kernel
theorem dX1_priceOfSet_23 : decode cX1_priceOfSet 23 = .ok (.imul, 1) := by decide +kernel
theorem dX1_priceOfSet_24 : decode cX1_priceOfSet 24 = .ok (.iadd, 1) := by decide +kernel
theorem dX1_priceOfSet_25 : decode cX1_priceOfSet 25 = .ok (.istore_n 2, 1) := by decide +kernel
theorem dX1_priceOfSet_26 : decode cX1_priceOfSet 26 = .ok (.iinc 3 1, 3) := by decide +kernel
theorem dX1_priceOfSet_29 : decode cX1_priceOfSet 29 = .ok (.goto (-25), 3) := by decide +kernel
theorem dX1_priceOfSet_32 : decode cX1_priceOfSet 32 = .ok (.iload_n 2, 1) := by decide +kernel
theorem dX1_priceOfSet_33 : decode cX1_priceOfSet 33 = .ok (.ireturn, 1) := by decide +kernel
theorem dX1_useOfSet_0 : decode cX1_useOfSet 0 = .ok (.iconst 0, 1) := by decide +kernel
theorem dX1_useOfSet_1 : decode cX1_useOfSet 1 = .ok (.istore_n 2, 1) := by decide +kernel
theorem dX1_useOfSet_2 : decode cX1_useOfSet 2 = .ok (.iconst 0, 1) := by decide +kernel
theorem dX1_useOfSet_3 : decode cX1_useOfSet 3 = .ok (.istore_n 3, 1) := by decide +kernel
theorem dX1_useOfSet_4 : decode cX1_useOfSet 4 = .ok (.iload_n 3, 1) := by decide +kernel
theorem dX1_useOfSet_5 : decode cX1_useOfSet 5 = .ok (.aload_n 0, 1) := by decide +kernel
theorem dX1_useOfSet_6 : decode cX1_useOfSet 6 = .ok (.getfield 18, 3) := by decide +kernel
theorem dX1_useOfSet_9 : decode cX1_useOfSet 9 = .ok (.if_icmp .ge 23, 3) := by decide +kernel
theorem dX1_useOfSet_12 : decode cX1_useOfSet 12 = .ok (.iload_n 2, 1) := by decide +kernel
theorem dX1_useOfSet_13 : decode cX1_useOfSet 13 = .ok (.iload_n 1, 1) := by decide +kernel
theorem dX1_useOfSet_14 : decode cX1_useOfSet 14 = .ok (.iload_n 3, 1) := by decide +kernel
theorem dX1_useOfSet_15 : decode cX1_useOfSet 15 = .ok (.ishr, 1) := by decide +kernel
theorem dX1_useOfSet_16 : decode cX1_useOfSet 16 = .ok (.iconst 1, 1) := by decide +kernel
theorem dX1_useOfSet_17 : decode cX1_useOfSet 17 = .ok (.iand, 1) := by decide +kernel
theorem dX1_useOfSet_18 : decode cX1_useOfSet 18 = .ok (.aload_n 0, 1) := by decide +kernel
theorem dX1_useOfSet_19 : decode cX1_useOfSet 19 = .ok (.iload_n 3, 1) := by decide +kernel
theorem dX1_useOfSet_20 : decode cX1_useOfSet 20 = .ok (.invokevirtual 26, 3) := by decide +kernel
theorem dX1_useOfSet_23 : decode cX1_useOfSet 23 = .ok (.imul, 1) := by decide +kernel
theorem dX1_useOfSet_24 : decode cX1_useOfSet 24 = .ok (.iadd, 1) := by decide +kernel
theorem dX1_useOfSet_25 : decode cX1_useOfSet 25 = .ok (.istore_n 2, 1) := by decide +kernel
theorem dX1_useOfSet_26 : decode cX1_useOfSet 26 = .ok (.iinc 3 1, 3) := by decide +kernel
theorem dX1_useOfSet_29 : decode cX1_useOfSet 29 = .ok (.goto (-25), 3) := by decide +kernel
theorem dX1_useOfSet_32 : decode cX1_useOfSet 32 = .ok (.iload_n 2, 1) := by decide +kernel
theorem dX1_useOfSet_33 : decode cX1_useOfSet 33 = .ok (.ireturn, 1) := by decide +kernel
theorem dX2_clear_0 : decode cX2_clear 0 = .ok (.aload_n 0, 1) := by decide +kernel
theorem dX2_clear_1 : decode cX2_clear 1 = .ok (.iconst 0, 1) := by decide +kernel
theorem dX2_clear_2 : decode cX2_clear 2 = .ok (.putfield 7, 3) := by decide +kernel
theorem dX2_clear_5 : decode cX2_clear 5 = .ok (.aload_n 0, 1) := by decide +kernel
theorem dX2_clear_6 : decode cX2_clear 6 = .ok (.iconst 0, 1) := by decide +kernel
theorem dX2_clear_7 : decode cX2_clear 7 = .ok (.putfield 13, 3) := by decide +kernel
theorem dX2_clear_10 : decode cX2_clear 10 = .ok (.aload_n 0, 1) := by decide +kernel
theorem dX2_clear_11 : decode cX2_clear 11 = .ok (.iconst 0, 1) := by decide +kernel
theorem dX2_clear_12 : decode cX2_clear 12 = .ok (.putfield 17, 3) := by decide +kernel
theorem dX2_clear_15 : decode cX2_clear 15 = .ok (.aload_n 0, 1) := by decide +kernel
theorem dX2_clear_16 : decode cX2_clear 16 = .ok (.iconst 0, 1) := by decide +kernel
theorem dX2_clear_17 : decode cX2_clear 17 = .ok (.putfield 20, 3) := by decide +kernel
theorem dX2_clear_20 : decode cX2_clear 20 = .ok (.return_, 1) := by decide +kernel
theorem dX2_offer_0 : decode cX2_offer 0 = .ok (.aload_n 0, 1) := by decide +kernel
theorem dX2_offer_1 : decode cX2_offer 1 = .ok (.getfield 7, 3) := by decide +kernel
theorem dX2_offer_4 : decode cX2_offer 4 = .ok (.ifCond .eq 43, 3) := by decide +kernel
theorem dX2_offer_7 : decode cX2_offer 7 = .ok (.iload_n 1, 1) := by decide +kernel
theorem dX2_offer_8 : decode cX2_offer 8 = .ok (.aload_n 0, 1) := by decide +kernel
theorem dX2_offer_9 : decode cX2_offer 9 = .ok (.getfield 13, 3) := by decide +kernel
theorem dX2_offer_12 : decode cX2_offer 12 = .ok (.if_icmp .lt 35, 3) := by decide +kernel
theorem dX2_offer_15 : decode cX2_offer 15 = .ok (.iload_n 1, 1) := by decide +kernel
theorem dX2_offer_16 : decode cX2_offer 16 = .ok (.aload_n 0, 1) := by decide +kernel
theorem dX2_offer_17 : decode cX2_offer 17 = .ok (.getfield 13, 3) := by decide +kernel
theorem dX2_offer_20 : decode cX2_offer 20 = .ok (.if_icmp .ne 47, 3) := by decide +kernel
theorem dX2_offer_23 : decode cX2_offer 23 = .ok (.iload_n 2, 1) := by decide +kernel
theorem dX2_offer_24 : decode cX2_offer 24 = .ok (.aload_n 0, 1) := by decide +kernel
theorem dX2_offer_25 : decode cX2_offer 25 = .ok (.getfield 17, 3) := by decide +kernel
theorem dX2_offer_28 : decode cX2_offer 28 = .ok (.if_icmp .lt 19, 3) := by decide +kernel
theorem dX2_offer_31 : decode cX2_offer 31 = .ok (.iload_n 2, 1) := by decide +kernel
theorem dX2_offer_32 : decode cX2_offer 32 = .ok (.aload_n 0, 1) := by decide +kernel
theorem dX2_offer_33 : decode cX2_offer 33 = .ok (.getfield 17, 3) := by decide +kernel
theorem dX2_offer_36 : decode cX2_offer 36 = .ok (.if_icmp .ne 31, 3) := by decide +kernel
theorem dX2_offer_39 : decode cX2_offer 39 = .ok (.iload_n 3, 1) := by decide +kernel
theorem dX2_offer_40 : decode cX2_offer 40 = .ok (.aload_n 0, 1) := by decide +kernel
theorem dX2_offer_41 : decode cX2_offer 41 = .ok (.getfield 20, 3) := by decide +kernel
theorem dX2_offer_44 : decode cX2_offer 44 = .ok (.if_icmp .ge 23, 3) := by decide +kernel
theorem dX2_offer_47 : decode cX2_offer 47 = .ok (.aload_n 0, 1) := by decide +kernel
theorem dX2_offer_48 : decode cX2_offer 48 = .ok (.iconst 1, 1) := by decide +kernel
theorem dX2_offer_49 : decode cX2_offer 49 = .ok (.putfield 7, 3) := by decide +kernel
theorem dX2_offer_52 : decode cX2_offer 52 = .ok (.aload_n 0, 1) := by decide +kernel
theorem dX2_offer_53 : decode cX2_offer 53 = .ok (.iload_n 1, 1) := by decide +kernel
theorem dX2_offer_54 : decode cX2_offer 54 = .ok (.putfield 13, 3) := by decide +kernel
theorem dX2_offer_57 : decode cX2_offer 57 = .ok (.aload_n 0, 1) := by decide +kernel
theorem dX2_offer_58 : decode cX2_offer 58 = .ok (.iload_n 2, 1) := by decide +kernel
theorem dX2_offer_59 : decode cX2_offer 59 = .ok (.putfield 17, 3) := by decide +kernel
theorem dX2_offer_62 : decode cX2_offer 62 = .ok (.aload_n 0, 1) := by decide +kernel
theorem dX2_offer_63 : decode cX2_offer 63 = .ok (.iload_n 3, 1) := by decide +kernel
theorem dX2_offer_64 : decode cX2_offer 64 = .ok (.putfield 20, 3) := by decide +kernel
theorem dX2_offer_67 : decode cX2_offer 67 = .ok (.return_, 1) := by decide +kernel
theorem dX3_gotFor_0 : decode cX3_gotFor 0 = .ok (.iload_n 1, 1) := by decide +kernel
theorem dX3_gotFor_1 : decode cX3_gotFor 1 = .ok (.iconst 4, 1) := by decide +kernel
theorem dX3_gotFor_2 : decode cX3_gotFor 2 = .ok (.imul, 1) := by decide +kernel
theorem dX3_gotFor_3 : decode cX3_gotFor 3 = .ok (.iload_n 2, 1) := by decide +kernel
theorem dX3_gotFor_4 : decode cX3_gotFor 4 = .ok (.iadd, 1) := by decide +kernel
theorem dX3_gotFor_5 : decode cX3_gotFor 5 = .ok (.istore_n 3, 1) := by decide +kernel
theorem dX3_gotFor_6 : decode cX3_gotFor 6 = .ok (.iload_n 3, 1) := by decide +kernel
theorem dX3_gotFor_7 : decode cX3_gotFor 7 = .ok (.ifCond .lt 12, 3) := by decide +kernel
theorem dX3_gotFor_10 : decode cX3_gotFor 10 = .ok (.iload_n 3, 1) := by decide +kernel
theorem dX3_gotFor_11 : decode cX3_gotFor 11 = .ok (.aload_n 0, 1) := by decide +kernel
theorem dX3_gotFor_12 : decode cX3_gotFor 12 = .ok (.getfield 9, 3) := by decide +kernel
theorem dX3_gotFor_15 : decode cX3_gotFor 15 = .ok (.arraylength, 1) := by decide +kernel
theorem dX3_gotFor_16 : decode cX3_gotFor 16 = .ok (.if_icmp .lt 7, 3) := by decide +kernel
theorem dX3_gotFor_19 : decode cX3_gotFor 19 = .ok (.iconst 1, 1) := by decide +kernel
theorem dX3_gotFor_20 : decode cX3_gotFor 20 = .ok (.goto 9, 3) := by decide +kernel
theorem dX3_gotFor_23 : decode cX3_gotFor 23 = .ok (.aload_n 0, 1) := by decide +kernel
theorem dX3_gotFor_24 : decode cX3_gotFor 24 = .ok (.getfield 9, 3) := by decide +kernel
theorem dX3_gotFor_27 : decode cX3_gotFor 27 = .ok (.iload_n 3, 1) := by decide +kernel
theorem dX3_gotFor_28 : decode cX3_gotFor 28 = .ok (.iaload, 1) := by decide +kernel
theorem dX3_gotFor_29 : decode cX3_gotFor 29 = .ok (.ireturn, 1) := by decide +kernel
theorem dX3_givenFor_0 : decode cX3_givenFor 0 = .ok (.iload_n 1, 1) := by decide +kernel
theorem dX3_givenFor_1 : decode cX3_givenFor 1 = .ok (.iconst 4, 1) := by decide +kernel
theorem dX3_givenFor_2 : decode cX3_givenFor 2 = .ok (.imul, 1) := by decide +kernel
theorem dX3_givenFor_3 : decode cX3_givenFor 3 = .ok (.iload_n 2, 1) := by decide +kernel
theorem dX3_givenFor_4 : decode cX3_givenFor 4 = .ok (.iadd, 1) := by decide +kernel
theorem dX3_givenFor_5 : decode cX3_givenFor 5 = .ok (.istore_n 3, 1) := by decide +kernel
theorem dX3_givenFor_6 : decode cX3_givenFor 6 = .ok (.iload_n 3, 1) := by decide +kernel
theorem dX3_givenFor_7 : decode cX3_givenFor 7 = .ok (.ifCond .lt 12, 3) := by decide +kernel
theorem dX3_givenFor_10 : decode cX3_givenFor 10 = .ok (.iload_n 3, 1) := by decide +kernel
theorem dX3_givenFor_11 : decode cX3_givenFor 11 = .ok (.aload_n 0, 1) := by decide +kernel
theorem dX3_givenFor_12 : decode cX3_givenFor 12 = .ok (.getfield 15, 3) := by decide +kernel
theorem dX3_givenFor_15 : decode cX3_givenFor 15 = .ok (.arraylength, 1) := by decide +kernel
theorem dX3_givenFor_16 : decode cX3_givenFor 16 = .ok (.if_icmp .lt 7, 3) := by decide +kernel
theorem dX3_givenFor_19 : decode cX3_givenFor 19 = .ok (.iconst 1, 1) := by decide +kernel
theorem dX3_givenFor_20 : decode cX3_givenFor 20 = .ok (.goto 9, 3) := by decide +kernel
theorem dX3_givenFor_23 : decode cX3_givenFor 23 = .ok (.aload_n 0, 1) := by decide +kernel
theorem dX3_givenFor_24 : decode cX3_givenFor 24 = .ok (.getfield 15, 3) := by decide +kernel
theorem dX3_givenFor_27 : decode cX3_givenFor 27 = .ok (.iload_n 3, 1) := by decide +kernel
theorem dX3_givenFor_28 : decode cX3_givenFor 28 = .ok (.iaload, 1) := by decide +kernel
theorem dX3_givenFor_29 : decode cX3_givenFor 29 = .ok (.ireturn, 1) := by decide +kernel
theorem dX3_put_0 : decode cX3_put 0 = .ok (.iload_n 1, 1) := by decide +kernel
theorem dX3_put_1 : decode cX3_put 1 = .ok (.iconst 4, 1) := by decide +kernel
theorem dX3_put_2 : decode cX3_put 2 = .ok (.imul, 1) := by decide +kernel
theorem dX3_put_3 : decode cX3_put 3 = .ok (.iload_n 2, 1) := by decide +kernel
theorem dX3_put_4 : decode cX3_put 4 = .ok (.iadd, 1) := by decide +kernel
theorem dX3_put_5 : decode cX3_put 5 = .ok (.istore 5, 2) := by decide +kernel
theorem dX3_put_7 : decode cX3_put 7 = .ok (.iload 5, 2) := by decide +kernel
theorem dX3_put_9 : decode cX3_put 9 = .ok (.ifCond .lt 40, 3) := by decide +kernel
theorem dX3_put_12 : decode cX3_put 12 = .ok (.iload 5, 2) := by decide +kernel
theorem dX3_put_14 : decode cX3_put 14 = .ok (.aload_n 0, 1) := by decide +kernel
theorem dX3_put_15 : decode cX3_put 15 = .ok (.getfield 9, 3) := by decide +kernel
theorem dX3_put_18 : decode cX3_put 18 = .ok (.arraylength, 1) := by decide +kernel
theorem dX3_put_19 : decode cX3_put 19 = .ok (.if_icmp .ge 30, 3) := by decide +kernel
theorem dX3_put_22 : decode cX3_put 22 = .ok (.iload 5, 2) := by decide +kernel
theorem dX3_put_24 : decode cX3_put 24 = .ok (.aload_n 0, 1) := by decide +kernel
theorem dX3_put_25 : decode cX3_put 25 = .ok (.getfield 15, 3) := by decide +kernel
theorem dX3_put_28 : decode cX3_put 28 = .ok (.arraylength, 1) := by decide +kernel
theorem dX3_put_29 : decode cX3_put 29 = .ok (.if_icmp .ge 20, 3) := by decide +kernel
theorem dX3_put_32 : decode cX3_put 32 = .ok (.aload_n 0, 1) := by decide +kernel
theorem dX3_put_33 : decode cX3_put 33 = .ok (.getfield 9, 3) := by decide +kernel
theorem dX3_put_36 : decode cX3_put 36 = .ok (.iload 5, 2) := by decide +kernel
theorem dX3_put_38 : decode cX3_put 38 = .ok (.iload_n 3, 1) := by decide +kernel
theorem dX3_put_39 : decode cX3_put 39 = .ok (.iastore, 1) := by decide +kernel
theorem dX3_put_40 : decode cX3_put 40 = .ok (.aload_n 0, 1) := by decide +kernel
theorem dX3_put_41 : decode cX3_put 41 = .ok (.getfield 15, 3) := by decide +kernel
theorem dX3_put_44 : decode cX3_put 44 = .ok (.iload 5, 2) := by decide +kernel
theorem dX3_put_46 : decode cX3_put 46 = .ok (.iload 4, 2) := by decide +kernel
theorem dX3_put_48 : decode cX3_put 48 = .ok (.iastore, 1) := by decide +kernel
theorem dX3_put_49 : decode cX3_put 49 = .ok (.return_, 1) := by decide +kernel
theorem dX3_copyFrom_0 : decode cX3_copyFrom 0 = .ok (.aload_n 1, 1) := by decide +kernel
theorem dX3_copyFrom_1 : decode cX3_copyFrom 1 = .ok (.getfield 9, 3) := by decide +kernel
theorem dX3_copyFrom_4 : decode cX3_copyFrom 4 = .ok (.iconst 0, 1) := by decide +kernel
theorem dX3_copyFrom_5 : decode cX3_copyFrom 5 = .ok (.aload_n 0, 1) := by decide +kernel
theorem dX3_copyFrom_6 : decode cX3_copyFrom 6 = .ok (.getfield 9, 3) := by decide +kernel
theorem dX3_copyFrom_9 : decode cX3_copyFrom 9 = .ok (.iconst 0, 1) := by decide +kernel
theorem dX3_copyFrom_10 : decode cX3_copyFrom 10 = .ok (.aload_n 0, 1) := by decide +kernel
theorem dX3_copyFrom_11 : decode cX3_copyFrom 11 = .ok (.getfield 9, 3) := by decide +kernel
theorem dX3_copyFrom_14 : decode cX3_copyFrom 14 = .ok (.arraylength, 1) := by decide +kernel
theorem dX3_copyFrom_15 : decode cX3_copyFrom 15 = .ok (.aload_n 1, 1) := by decide +kernel
theorem dX3_copyFrom_16 : decode cX3_copyFrom 16 = .ok (.getfield 9, 3) := by decide +kernel
theorem dX3_copyFrom_19 : decode cX3_copyFrom 19 = .ok (.arraylength, 1) := by decide +kernel
theorem dX3_copyFrom_20 : decode cX3_copyFrom 20 = .ok (.invokestatic 24, 3) := by decide +kernel
theorem dX3_copyFrom_23 : decode cX3_copyFrom 23 = .ok (.invokestatic 30, 3) := by decide +kernel
theorem dX3_copyFrom_26 : decode cX3_copyFrom 26 = .ok (.aload_n 1, 1) := by decide +kernel
theorem dX3_copyFrom_27 : decode cX3_copyFrom 27 = .ok (.getfield 15, 3) := by decide +kernel
theorem dX3_copyFrom_30 : decode cX3_copyFrom 30 = .ok (.iconst 0, 1) := by decide +kernel
theorem dX3_copyFrom_31 : decode cX3_copyFrom 31 = .ok (.aload_n 0, 1) := by decide +kernel
theorem dX3_copyFrom_32 : decode cX3_copyFrom 32 = .ok (.getfield 15, 3) := by decide +kernel
theorem dX3_copyFrom_35 : decode cX3_copyFrom 35 = .ok (.iconst 0, 1) := by decide +kernel
theorem dX3_copyFrom_36 : decode cX3_copyFrom 36 = .ok (.aload_n 0, 1) := by decide +kernel
theorem dX3_copyFrom_37 : decode cX3_copyFrom 37 = .ok (.getfield 15, 3) := by decide +kernel
theorem dX3_copyFrom_40 : decode cX3_copyFrom 40 = .ok (.arraylength, 1) := by decide +kernel
theorem dX3_copyFrom_41 : decode cX3_copyFrom 41 = .ok (.aload_n 1, 1) := by decide +kernel
theorem dX3_copyFrom_42 : decode cX3_copyFrom 42 = .ok (.getfield 15, 3) := by decide +kernel
theorem dX3_copyFrom_45 : decode cX3_copyFrom 45 = .ok (.arraylength, 1) := by decide +kernel
theorem dX3_copyFrom_46 : decode cX3_copyFrom 46 = .ok (.invokestatic 24, 3) := by decide +kernel
theorem dX3_copyFrom_49 : decode cX3_copyFrom 49 = .ok (.invokestatic 30, 3) := by decide +kernel
theorem dX3_copyFrom_52 : decode cX3_copyFrom 52 = .ok (.return_, 1) := by decide +kernel
theorem dX0_remember_0 : decode cX0_remember 0 = .ok (.aload_n 0, 1) := by decide +kernel
theorem dX0_remember_1 : decode cX0_remember 1 = .ok (.getfield 17, 3) := by decide +kernel
theorem dX0_remember_4 : decode cX0_remember 4 = .ok (.ifCond .lt 50, 3) := by decide +kernel
theorem dX0_remember_7 : decode cX0_remember 7 = .ok (.aload_n 0, 1) := by decide +kernel
theorem dX0_remember_8 : decode cX0_remember 8 = .ok (.getfield 17, 3) := by decide +kernel
theorem dX0_remember_11 : decode cX0_remember 11 = .ok (.aload_n 0, 1) := by decide +kernel
theorem dX0_remember_12 : decode cX0_remember 12 = .ok (.getfield 11, 3) := by decide +kernel
theorem dX0_remember_15 : decode cX0_remember 15 = .ok (.arraylength, 1) := by decide +kernel
theorem dX0_remember_16 : decode cX0_remember 16 = .ok (.if_icmp .ge 38, 3) := by decide +kernel
theorem dX0_remember_19 : decode cX0_remember 19 = .ok (.aload_n 0, 1) := by decide +kernel
theorem dX0_remember_20 : decode cX0_remember 20 = .ok (.getfield 11, 3) := by decide +kernel
theorem dX0_remember_23 : decode cX0_remember 23 = .ok (.aload_n 0, 1) := by decide +kernel
theorem dX0_remember_24 : decode cX0_remember 24 = .ok (.getfield 17, 3) := by decide +kernel
theorem dX0_remember_27 : decode cX0_remember 27 = .ok (.aaload, 1) := by decide +kernel
theorem dX0_remember_28 : decode cX0_remember 28 = .ok (.ifnull 26, 3) := by decide +kernel
theorem dX0_remember_31 : decode cX0_remember 31 = .ok (.aload_n 0, 1) := by decide +kernel
theorem dX0_remember_32 : decode cX0_remember 32 = .ok (.getfield 11, 3) := by decide +kernel
theorem dX0_remember_35 : decode cX0_remember 35 = .ok (.aload_n 0, 1) := by decide +kernel
theorem dX0_remember_36 : decode cX0_remember 36 = .ok (.getfield 17, 3) := by decide +kernel
theorem dX0_remember_39 : decode cX0_remember 39 = .ok (.aaload, 1) := by decide +kernel
theorem dX0_remember_40 : decode cX0_remember 40 = .ok (.aload_n 1, 1) := by decide +kernel
theorem dX0_remember_41 : decode cX0_remember 41 = .ok (.invokevirtual 22, 3) := by decide +kernel
theorem dX0_remember_44 : decode cX0_remember 44 = .ok (.aload_n 0, 1) := by decide +kernel
theorem dX0_remember_45 : decode cX0_remember 45 = .ok (.dup, 1) := by decide +kernel
theorem dX0_remember_46 : decode cX0_remember 46 = .ok (.getfield 17, 3) := by decide +kernel
theorem dX0_remember_49 : decode cX0_remember 49 = .ok (.iconst 1, 1) := by decide +kernel
theorem dX0_remember_50 : decode cX0_remember 50 = .ok (.iadd, 1) := by decide +kernel
theorem dX0_remember_51 : decode cX0_remember 51 = .ok (.putfield 17, 3) := by decide +kernel
theorem dX0_remember_54 : decode cX0_remember 54 = .ok (.return_, 1) := by decide +kernel
theorem dX0_takeBack_0 : decode cX0_takeBack 0 = .ok (.aload_n 0, 1) := by decide +kernel
theorem dX0_takeBack_1 : decode cX0_takeBack 1 = .ok (.getfield 17, 3) := by decide +kernel
theorem dX0_takeBack_4 : decode cX0_takeBack 4 = .ok (.ifCond .le 38, 3) := by decide +kernel
theorem dX0_takeBack_7 : decode cX0_takeBack 7 = .ok (.aload_n 0, 1) := by decide +kernel
theorem dX0_takeBack_8 : decode cX0_takeBack 8 = .ok (.getfield 17, 3) := by decide +kernel
theorem dX0_takeBack_11 : decode cX0_takeBack 11 = .ok (.aload_n 0, 1) := by decide +kernel
theorem dX0_takeBack_12 : decode cX0_takeBack 12 = .ok (.getfield 11, 3) := by decide +kernel
theorem dX0_takeBack_15 : decode cX0_takeBack 15 = .ok (.arraylength, 1) := by decide +kernel
theorem dX0_takeBack_16 : decode cX0_takeBack 16 = .ok (.if_icmp .gt 26, 3) := by decide +kernel
theorem dX0_takeBack_19 : decode cX0_takeBack 19 = .ok (.aload_n 0, 1) := by decide +kernel
theorem dX0_takeBack_20 : decode cX0_takeBack 20 = .ok (.dup, 1) := by decide +kernel
theorem dX0_takeBack_21 : decode cX0_takeBack 21 = .ok (.getfield 17, 3) := by decide +kernel
theorem dX0_takeBack_24 : decode cX0_takeBack 24 = .ok (.iconst 1, 1) := by decide +kernel
theorem dX0_takeBack_25 : decode cX0_takeBack 25 = .ok (.isub, 1) := by decide +kernel
theorem dX0_takeBack_26 : decode cX0_takeBack 26 = .ok (.putfield 17, 3) := by decide +kernel
theorem dX0_takeBack_29 : decode cX0_takeBack 29 = .ok (.aload_n 1, 1) := by decide +kernel
theorem dX0_takeBack_30 : decode cX0_takeBack 30 = .ok (.aload_n 0, 1) := by decide +kernel
theorem dX0_takeBack_31 : decode cX0_takeBack 31 = .ok (.getfield 11, 3) := by decide +kernel
theorem dX0_takeBack_34 : decode cX0_takeBack 34 = .ok (.aload_n 0, 1) := by decide +kernel
theorem dX0_takeBack_35 : decode cX0_takeBack 35 = .ok (.getfield 17, 3) := by decide +kernel
theorem dX0_takeBack_38 : decode cX0_takeBack 38 = .ok (.aaload, 1) := by decide +kernel
theorem dX0_takeBack_39 : decode cX0_takeBack 39 = .ok (.invokevirtual 26, 3) := by decide +kernel
theorem dX0_takeBack_42 : decode cX0_takeBack 42 = .ok (.return_, 1) := by decide +kernel
theorem dX0_copyFrom_0 : decode cX0_copyFrom 0 = .ok (.aload_n 0, 1) := by decide +kernel
theorem dX0_copyFrom_1 : decode cX0_copyFrom 1 = .ok (.aload_n 1, 1) := by decide +kernel
theorem dX0_copyFrom_2 : decode cX0_copyFrom 2 = .ok (.getfield 17, 3) := by decide +kernel
theorem dX0_copyFrom_5 : decode cX0_copyFrom 5 = .ok (.putfield 17, 3) := by decide +kernel
theorem dX0_copyFrom_8 : decode cX0_copyFrom 8 = .ok (.iconst 0, 1) := by decide +kernel
theorem dX0_copyFrom_9 : decode cX0_copyFrom 9 = .ok (.istore_n 2, 1) := by decide +kernel
theorem dX0_copyFrom_10 : decode cX0_copyFrom 10 = .ok (.iload_n 2, 1) := by decide +kernel
theorem dX0_copyFrom_11 : decode cX0_copyFrom 11 = .ok (.aload_n 0, 1) := by decide +kernel
theorem dX0_copyFrom_12 : decode cX0_copyFrom 12 = .ok (.getfield 17, 3) := by decide +kernel
theorem dX0_copyFrom_15 : decode cX0_copyFrom 15 = .ok (.if_icmp .ge 51, 3) := by decide +kernel
theorem dX0_copyFrom_18 : decode cX0_copyFrom 18 = .ok (.iload_n 2, 1) := by decide +kernel
theorem dX0_copyFrom_19 : decode cX0_copyFrom 19 = .ok (.aload_n 0, 1) := by decide +kernel
theorem dX0_copyFrom_20 : decode cX0_copyFrom 20 = .ok (.getfield 11, 3) := by decide +kernel
theorem dX0_copyFrom_23 : decode cX0_copyFrom 23 = .ok (.arraylength, 1) := by decide +kernel
theorem dX0_copyFrom_24 : decode cX0_copyFrom 24 = .ok (.if_icmp .ge 42, 3) := by decide +kernel
theorem dX0_copyFrom_27 : decode cX0_copyFrom 27 = .ok (.iload_n 2, 1) := by decide +kernel
theorem dX0_copyFrom_28 : decode cX0_copyFrom 28 = .ok (.aload_n 1, 1) := by decide +kernel
theorem dX0_copyFrom_29 : decode cX0_copyFrom 29 = .ok (.getfield 11, 3) := by decide +kernel
theorem dX0_copyFrom_32 : decode cX0_copyFrom 32 = .ok (.arraylength, 1) := by decide +kernel
theorem dX0_copyFrom_33 : decode cX0_copyFrom 33 = .ok (.if_icmp .ge 33, 3) := by decide +kernel
theorem dX0_copyFrom_36 : decode cX0_copyFrom 36 = .ok (.aload_n 0, 1) := by decide +kernel
theorem dX0_copyFrom_37 : decode cX0_copyFrom 37 = .ok (.getfield 11, 3) := by decide +kernel
theorem dX0_copyFrom_40 : decode cX0_copyFrom 40 = .ok (.iload_n 2, 1) := by decide +kernel
theorem dX0_copyFrom_41 : decode cX0_copyFrom 41 = .ok (.aaload, 1) := by decide +kernel
theorem dX0_copyFrom_42 : decode cX0_copyFrom 42 = .ok (.ifnull 18, 3) := by decide +kernel
theorem dX0_copyFrom_45 : decode cX0_copyFrom 45 = .ok (.aload_n 0, 1) := by decide +kernel
theorem dX0_copyFrom_46 : decode cX0_copyFrom 46 = .ok (.getfield 11, 3) := by decide +kernel
theorem dX0_copyFrom_49 : decode cX0_copyFrom 49 = .ok (.iload_n 2, 1) := by decide +kernel
theorem dX0_copyFrom_50 : decode cX0_copyFrom 50 = .ok (.aaload, 1) := by decide +kernel
theorem dX0_copyFrom_51 : decode cX0_copyFrom 51 = .ok (.aload_n 1, 1) := by decide +kernel
theorem dX0_copyFrom_52 : decode cX0_copyFrom 52 = .ok (.getfield 11, 3) := by decide +kernel
theorem dX0_copyFrom_55 : decode cX0_copyFrom 55 = .ok (.iload_n 2, 1) := by decide +kernel
theorem dX0_copyFrom_56 : decode cX0_copyFrom 56 = .ok (.aaload, 1) := by decide +kernel
theorem dX0_copyFrom_57 : decode cX0_copyFrom 57 = .ok (.invokevirtual 22, 3) := by decide +kernel
theorem dX0_copyFrom_60 : decode cX0_copyFrom 60 = .ok (.iinc 2 1, 3) := by decide +kernel
theorem dX0_copyFrom_63 : decode cX0_copyFrom 63 = .ok (.goto (-53), 3) := by decide +kernel
theorem dX0_copyFrom_66 : decode cX0_copyFrom 66 = .ok (.return_, 1) := by decide +kernel
theorem dX4_clear_0 : decode cX4_clear 0 = .ok (.aload_n 0, 1) := by decide +kernel
theorem dX4_clear_1 : decode cX4_clear 1 = .ok (.iconst 0, 1) := by decide +kernel
theorem dX4_clear_2 : decode cX4_clear 2 = .ok (.putfield 7, 3) := by decide +kernel
theorem dX4_clear_5 : decode cX4_clear 5 = .ok (.aload_n 0, 1) := by decide +kernel
theorem dX4_clear_6 : decode cX4_clear 6 = .ok (.iconst 0, 1) := by decide +kernel
theorem dX4_clear_7 : decode cX4_clear 7 = .ok (.putfield 13, 3) := by decide +kernel
theorem dX4_clear_10 : decode cX4_clear 10 = .ok (.aload_n 0, 1) := by decide +kernel
theorem dX4_clear_11 : decode cX4_clear 11 = .ok (.lconst 0, 1) := by decide +kernel
theorem dX4_clear_12 : decode cX4_clear 12 = .ok (.putfield 16, 3) := by decide +kernel
theorem dX4_clear_15 : decode cX4_clear 15 = .ok (.aload_n 0, 1) := by decide +kernel
theorem dX4_clear_16 : decode cX4_clear 16 = .ok (.lconst 1, 1) := by decide +kernel
theorem dX4_clear_17 : decode cX4_clear 17 = .ok (.putfield 20, 3) := by decide +kernel
theorem dX4_clear_20 : decode cX4_clear 20 = .ok (.return_, 1) := by decide +kernel
theorem dX4_moneyAt_0 : decode cX4_moneyAt 0 = .ok (.iload_n 0, 1) := by decide +kernel
theorem dX4_moneyAt_1 : decode cX4_moneyAt 1 = .ok (.iconst 2, 1) := by decide +kernel
theorem dX4_moneyAt_2 : decode cX4_moneyAt 2 = .ok (.iload_n 1, 1) := by decide +kernel
theorem dX4_moneyAt_3 : decode cX4_moneyAt 3 = .ok (.iconst 1, 1) := by decide +kernel
theorem dX4_moneyAt_4 : decode cX4_moneyAt 4 = .ok (.isub, 1) := by decide +kernel
theorem dX4_moneyAt_5 : decode cX4_moneyAt 5 = .ok (.iload_n 2, 1) := by decide +kernel
theorem dX4_moneyAt_6 : decode cX4_moneyAt 6 = .ok (.isub, 1) := by decide +kernel
theorem dX4_moneyAt_7 : decode cX4_moneyAt 7 = .ok (.imul, 1) := by decide +kernel
theorem dX4_moneyAt_8 : decode cX4_moneyAt 8 = .ok (.ishr, 1) := by decide +kernel
theorem dX4_moneyAt_9 : decode cX4_moneyAt 9 = .ok (.iconst 3, 1) := by decide +kernel
theorem dX4_moneyAt_10 : decode cX4_moneyAt 10 = .ok (.iand, 1) := by decide +kernel
theorem dX4_moneyAt_11 : decode cX4_moneyAt 11 = .ok (.ireturn, 1) := by decide +kernel
theorem dX4_isRing_0 : decode cX4_isRing 0 = .ok (.iload_n 0, 1) := by decide +kernel
theorem dX4_isRing_1 : decode cX4_isRing 1 = .ok (.iload_n 1, 1) := by decide +kernel
theorem dX4_isRing_2 : decode cX4_isRing 2 = .ok (.iconst 0, 1) := by decide +kernel
theorem dX4_isRing_3 : decode cX4_isRing 3 = .ok (.invokestatic 23, 3) := by decide +kernel
theorem dX4_isRing_6 : decode cX4_isRing 6 = .ok (.istore_n 2, 1) := by decide +kernel
theorem dX4_isRing_7 : decode cX4_isRing 7 = .ok (.iconst 1, 1) := by decide +kernel
theorem dX4_isRing_8 : decode cX4_isRing 8 = .ok (.iload_n 2, 1) := by decide +kernel
theorem dX4_isRing_9 : decode cX4_isRing 9 = .ok (.ishl, 1) := by decide +kernel
theorem dX4_isRing_10 : decode cX4_isRing 10 = .ok (.istore_n 3, 1) := by decide +kernel
theorem dX4_isRing_11 : decode cX4_isRing 11 = .ok (.iconst 1, 1) := by decide +kernel
theorem dX4_isRing_12 : decode cX4_isRing 12 = .ok (.istore 4, 2) := by decide +kernel
theorem dX4_isRing_14 : decode cX4_isRing 14 = .ok (.iload 4, 2) := by decide +kernel
theorem dX4_isRing_16 : decode cX4_isRing 16 = .ok (.iload_n 1, 1) := by decide +kernel
theorem dX4_isRing_17 : decode cX4_isRing 17 = .ok (.if_icmp .ge 43, 3) := by decide +kernel
theorem dX4_isRing_20 : decode cX4_isRing 20 = .ok (.iload_n 0, 1) := by decide +kernel
theorem dX4_isRing_21 : decode cX4_isRing 21 = .ok (.iload_n 1, 1) := by decide +kernel
theorem dX4_isRing_22 : decode cX4_isRing 22 = .ok (.iload 4, 2) := by decide +kernel
theorem dX4_isRing_24 : decode cX4_isRing 24 = .ok (.invokestatic 23, 3) := by decide +kernel
theorem dX4_isRing_27 : decode cX4_isRing 27 = .ok (.istore 5, 2) := by decide +kernel
theorem dX4_isRing_29 : decode cX4_isRing 29 = .ok (.iload 5, 2) := by decide +kernel
theorem dX4_isRing_31 : decode cX4_isRing 31 = .ok (.iload_n 2, 1) := by decide +kernel
theorem dX4_isRing_32 : decode cX4_isRing 32 = .ok (.if_icmp .lt 13, 3) := by decide +kernel
theorem dX4_isRing_35 : decode cX4_isRing 35 = .ok (.iload_n 3, 1) := by decide +kernel
theorem dX4_isRing_36 : decode cX4_isRing 36 = .ok (.iload 5, 2) := by decide +kernel
theorem dX4_isRing_38 : decode cX4_isRing 38 = .ok (.ishr, 1) := by decide +kernel
theorem dX4_isRing_39 : decode cX4_isRing 39 = .ok (.iconst 1, 1) := by decide +kernel
theorem dX4_isRing_40 : decode cX4_isRing 40 = .ok (.iand, 1) := by decide +kernel
theorem dX4_isRing_41 : decode cX4_isRing 41 = .ok (.iconst 1, 1) := by decide +kernel
theorem dX4_isRing_42 : decode cX4_isRing 42 = .ok (.if_icmp .ne 5, 3) := by decide +kernel
theorem dX4_isRing_45 : decode cX4_isRing 45 = .ok (.iconst 0, 1) := by decide +kernel
theorem dX4_isRing_46 : decode cX4_isRing 46 = .ok (.ireturn, 1) := by decide +kernel
theorem dX4_isRing_47 : decode cX4_isRing 47 = .ok (.iload_n 3, 1) := by decide +kernel
theorem dX4_isRing_48 : decode cX4_isRing 48 = .ok (.iconst 1, 1) := by decide +kernel
theorem dX4_isRing_49 : decode cX4_isRing 49 = .ok (.iload 5, 2) := by decide +kernel
theorem dX4_isRing_51 : decode cX4_isRing 51 = .ok (.ishl, 1) := by decide +kernel
theorem dX4_isRing_52 : decode cX4_isRing 52 = .ok (.ior, 1) := by decide +kernel
theorem dX4_isRing_53 : decode cX4_isRing 53 = .ok (.istore_n 3, 1) := by decide +kernel
theorem dX4_isRing_54 : decode cX4_isRing 54 = .ok (.iinc 4 1, 3) := by decide +kernel
theorem dX4_isRing_57 : decode cX4_isRing 57 = .ok (.goto (-43), 3) := by decide +kernel
theorem dX4_isRing_60 : decode cX4_isRing 60 = .ok (.iconst 1, 1) := by decide +kernel
theorem dX4_isRing_61 : decode cX4_isRing 61 = .ok (.ireturn, 1) := by decide +kernel
theorem dX4_offer_0 : decode cX4_offer 0 = .ok (.lconst 1, 1) := by decide +kernel
theorem dX4_offer_1 : decode cX4_offer 1 = .ok (.lstore 4, 2) := by decide +kernel
theorem dX4_offer_3 : decode cX4_offer 3 = .ok (.lconst 1, 1) := by decide +kernel
theorem dX4_offer_4 : decode cX4_offer 4 = .ok (.lstore 6, 2) := by decide +kernel
theorem dX4_offer_6 : decode cX4_offer 6 = .ok (.iconst 0, 1) := by decide +kernel
theorem dX4_offer_7 : decode cX4_offer 7 = .ok (.istore 8, 2) := by decide +kernel
theorem dX4_offer_9 : decode cX4_offer 9 = .ok (.iload 8, 2) := by decide +kernel
theorem dX4_offer_11 : decode cX4_offer 11 = .ok (.iload_n 3, 1) := by decide +kernel
theorem dX4_offer_12 : decode cX4_offer 12 = .ok (.if_icmp .ge 69, 3) := by decide +kernel
theorem dX4_offer_15 : decode cX4_offer 15 = .ok (.iload_n 2, 1) := by decide +kernel
theorem dX4_offer_16 : decode cX4_offer 16 = .ok (.iload_n 3, 1) := by decide +kernel
theorem dX4_offer_17 : decode cX4_offer 17 = .ok (.iload 8, 2) := by decide +kernel
theorem dX4_offer_19 : decode cX4_offer 19 = .ok (.invokestatic 23, 3) := by decide +kernel
theorem dX4_offer_22 : decode cX4_offer 22 = .ok (.istore 9, 2) := by decide +kernel
theorem dX4_offer_24 : decode cX4_offer 24 = .ok (.iload_n 2, 1) := by decide +kernel
theorem dX4_offer_25 : decode cX4_offer 25 = .ok (.iload_n 3, 1) := by decide +kernel
theorem dX4_offer_26 : decode cX4_offer 26 = .ok (.iload 8, 2) := by decide +kernel
theorem dX4_offer_28 : decode cX4_offer 28 = .ok (.iconst 1, 1) := by decide +kernel
theorem dX4_offer_29 : decode cX4_offer 29 = .ok (.iadd, 1) := by decide +kernel
theorem dX4_offer_30 : decode cX4_offer 30 = .ok (.iload_n 3, 1) := by decide +kernel
theorem dX4_offer_31 : decode cX4_offer 31 = .ok (.if_icmp .ge 10, 3) := by decide +kernel
theorem dX4_offer_34 : decode cX4_offer 34 = .ok (.iload 8, 2) := by decide +kernel
theorem dX4_offer_36 : decode cX4_offer 36 = .ok (.iconst 1, 1) := by decide +kernel
theorem dX4_offer_37 : decode cX4_offer 37 = .ok (.iadd, 1) := by decide +kernel
theorem dX4_offer_38 : decode cX4_offer 38 = .ok (.goto 4, 3) := by decide +kernel
theorem dX4_offer_41 : decode cX4_offer 41 = .ok (.iconst 0, 1) := by decide +kernel
theorem dX4_offer_42 : decode cX4_offer 42 = .ok (.invokestatic 23, 3) := by decide +kernel
theorem dX4_offer_45 : decode cX4_offer 45 = .ok (.istore 10, 2) := by decide +kernel
theorem dX4_offer_47 : decode cX4_offer 47 = .ok (.lload 4, 2) := by decide +kernel
theorem dX4_offer_49 : decode cX4_offer 49 = .ok (.aload_n 1, 1) := by decide +kernel
theorem dX4_offer_50 : decode cX4_offer 50 = .ok (.iload 9, 2) := by decide +kernel
theorem dX4_offer_52 : decode cX4_offer 52 = .ok (.iload 10, 2) := by decide +kernel
theorem dX4_offer_54 : decode cX4_offer 54 = .ok (.invokevirtual 27, 3) := by decide +kernel
theorem dX4_offer_57 : decode cX4_offer 57 = .ok (.i2l, 1) := by decide +kernel
theorem dX4_offer_58 : decode cX4_offer 58 = .ok (.lmul, 1) := by decide +kernel
theorem dX4_offer_59 : decode cX4_offer 59 = .ok (.lstore 4, 2) := by decide +kernel
theorem dX4_offer_61 : decode cX4_offer 61 = .ok (.lload 6, 2) := by decide +kernel
theorem dX4_offer_63 : decode cX4_offer 63 = .ok (.aload_n 1, 1) := by decide +kernel
theorem dX4_offer_64 : decode cX4_offer 64 = .ok (.iload 9, 2) := by decide +kernel
theorem dX4_offer_66 : decode cX4_offer 66 = .ok (.iload 10, 2) := by decide +kernel
theorem dX4_offer_68 : decode cX4_offer 68 = .ok (.invokevirtual 33, 3) := by decide +kernel
theorem dX4_offer_71 : decode cX4_offer 71 = .ok (.i2l, 1) := by decide +kernel
theorem dX4_offer_72 : decode cX4_offer 72 = .ok (.lmul, 1) := by decide +kernel
theorem dX4_offer_73 : decode cX4_offer 73 = .ok (.lstore 6, 2) := by decide +kernel
theorem dX4_offer_75 : decode cX4_offer 75 = .ok (.iinc 8 1, 3) := by decide +kernel
theorem dX4_offer_78 : decode cX4_offer 78 = .ok (.goto (-69), 3) := by decide +kernel
theorem dX4_offer_81 : decode cX4_offer 81 = .ok (.lload 4, 2) := by decide +kernel
theorem dX4_offer_83 : decode cX4_offer 83 = .ok (.aload_n 0, 1) := by decide +kernel
theorem dX4_offer_84 : decode cX4_offer 84 = .ok (.getfield 20, 3) := by decide +kernel
theorem dX4_offer_87 : decode cX4_offer 87 = .ok (.lmul, 1) := by decide +kernel
theorem dX4_offer_88 : decode cX4_offer 88 = .ok (.aload_n 0, 1) := by decide +kernel
theorem dX4_offer_89 : decode cX4_offer 89 = .ok (.getfield 16, 3) := by decide +kernel
theorem dX4_offer_92 : decode cX4_offer 92 = .ok (.lload 6, 2) := by decide +kernel
theorem dX4_offer_94 : decode cX4_offer 94 = .ok (.lmul, 1) := by decide +kernel
theorem dX4_offer_95 : decode cX4_offer 95 = .ok (.lcmp, 1) := by decide +kernel
theorem dX4_offer_96 : decode cX4_offer 96 = .ok (.ifCond .le 25, 3) := by decide +kernel
theorem dX4_offer_99 : decode cX4_offer 99 = .ok (.aload_n 0, 1) := by decide +kernel
theorem dX4_offer_100 : decode cX4_offer 100 = .ok (.iload_n 2, 1) := by decide +kernel
theorem dX4_offer_101 : decode cX4_offer 101 = .ok (.putfield 7, 3) := by decide +kernel
theorem dX4_offer_104 : decode cX4_offer 104 = .ok (.aload_n 0, 1) := by decide +kernel
theorem dX4_offer_105 : decode cX4_offer 105 = .ok (.iload_n 3, 1) := by decide +kernel
theorem dX4_offer_106 : decode cX4_offer 106 = .ok (.putfield 13, 3) := by decide +kernel
theorem dX4_offer_109 : decode cX4_offer 109 = .ok (.aload_n 0, 1) := by decide +kernel
theorem dX4_offer_110 : decode cX4_offer 110 = .ok (.lload 4, 2) := by decide +kernel
theorem dX4_offer_112 : decode cX4_offer 112 = .ok (.putfield 16, 3) := by decide +kernel
theorem dX4_offer_115 : decode cX4_offer 115 = .ok (.aload_n 0, 1) := by decide +kernel
theorem dX4_offer_116 : decode cX4_offer 116 = .ok (.lload 6, 2) := by decide +kernel
theorem dX4_offer_118 : decode cX4_offer 118 = .ok (.putfield 20, 3) := by decide +kernel
theorem dX4_offer_121 : decode cX4_offer 121 = .ok (.return_, 1) := by decide +kernel
theorem dX5_takeIn_0 : decode cX5_takeIn 0 = .ok (.aload_n 0, 1) := by decide +kernel
theorem dX5_takeIn_1 : decode cX5_takeIn 1 = .ok (.getfield 10, 3) := by decide +kernel
theorem dX5_takeIn_4 : decode cX5_takeIn 4 = .ok (.aload_n 1, 1) := by decide +kernel
theorem dX5_takeIn_5 : decode cX5_takeIn 5 = .ok (.invokevirtual 34, 3) := by decide +kernel
theorem dX5_takeIn_8 : decode cX5_takeIn 8 = .ok (.aload_n 0, 1) := by decide +kernel
theorem dX5_takeIn_9 : decode cX5_takeIn 9 = .ok (.getfield 19, 3) := by decide +kernel
theorem dX5_takeIn_12 : decode cX5_takeIn 12 = .ok (.aload_n 2, 1) := by decide +kernel
theorem dX5_takeIn_13 : decode cX5_takeIn 13 = .ok (.invokevirtual 38, 3) := by decide +kernel
theorem dX5_takeIn_16 : decode cX5_takeIn 16 = .ok (.aload_n 0, 1) := by decide +kernel
theorem dX5_takeIn_17 : decode cX5_takeIn 17 = .ok (.getfield 26, 3) := by decide +kernel
theorem dX5_takeIn_20 : decode cX5_takeIn 20 = .ok (.aload_n 3, 1) := by decide +kernel
theorem dX5_takeIn_21 : decode cX5_takeIn 21 = .ok (.invokevirtual 41, 3) := by decide +kernel
theorem dX5_takeIn_24 : decode cX5_takeIn 24 = .ok (.aload_n 0, 1) := by decide +kernel
theorem dX5_takeIn_25 : decode cX5_takeIn 25 = .ok (.iconst 1, 1) := by decide +kernel
theorem dX5_takeIn_26 : decode cX5_takeIn 26 = .ok (.putfield 30, 3) := by decide +kernel
theorem dX5_takeIn_29 : decode cX5_takeIn 29 = .ok (.return_, 1) := by decide +kernel
theorem dX5_giveOut_0 : decode cX5_giveOut 0 = .ok (.aload_n 1, 1) := by decide +kernel
theorem dX5_giveOut_1 : decode cX5_giveOut 1 = .ok (.aload_n 0, 1) := by decide +kernel
theorem dX5_giveOut_2 : decode cX5_giveOut 2 = .ok (.getfield 10, 3) := by decide +kernel
theorem dX5_giveOut_5 : decode cX5_giveOut 5 = .ok (.invokevirtual 34, 3) := by decide +kernel
theorem dX5_giveOut_8 : decode cX5_giveOut 8 = .ok (.aload_n 2, 1) := by decide +kernel
theorem dX5_giveOut_9 : decode cX5_giveOut 9 = .ok (.aload_n 0, 1) := by decide +kernel
theorem dX5_giveOut_10 : decode cX5_giveOut 10 = .ok (.getfield 19, 3) := by decide +kernel
theorem dX5_giveOut_13 : decode cX5_giveOut 13 = .ok (.invokevirtual 38, 3) := by decide +kernel
theorem dX5_giveOut_16 : decode cX5_giveOut 16 = .ok (.aload_n 3, 1) := by decide +kernel
theorem dX5_giveOut_17 : decode cX5_giveOut 17 = .ok (.aload_n 0, 1) := by decide +kernel
theorem dX5_giveOut_18 : decode cX5_giveOut 18 = .ok (.getfield 26, 3) := by decide +kernel
theorem dX5_giveOut_21 : decode cX5_giveOut 21 = .ok (.invokevirtual 41, 3) := by decide +kernel
theorem dX5_giveOut_24 : decode cX5_giveOut 24 = .ok (.return_, 1) := by decide +kernel
theorem kX1_add_0 {X : Scr} {M : Mem} {P : Option AV → Mem → Prop} {x1 x2 : Int} (k1 : (M 3 2) < 0 → Runs X mX1_add 61 [] [] M P) (k2 : 0 ≤ (M 3 2) → Runs X mX1_add 7 [(0, vr 3), (1, vi x1), (2, vi x2)] [] M P) : Runs X mX1_add 0 [(0, vr 3), (1, vi x1), (2, vi x2)] [] M P := by
  refine Runs.aload_n (j := 0) dX1_add_0 rfl ?_
  refine Runs.geti (ci := 1) (j := 2) (C := RX1) (T := TX1) (N := 3) dX1_add_1 rfl cls_X1 (by decide) rfl fl_X1_18 (Or.inl rfl) ?_
  refine Runs.if_lt (tgt := 61) dX1_add_4 (by decide) (fun h => ?_) (fun h => ?_)
  · refine Runs.picks (loc' := []) [] rfl ?_
    exact k1 h
  · exact k2 h
theorem kX1_add_7 {X : Scr} {M : Mem} {P : Option AV → Mem → Prop} {x1 x2 : Int} (k1 : ((4 : Nat) : Int) ≤ (M 3 2) → Runs X mX1_add 61 [] [] M P) (k2 : (M 3 2) < ((4 : Nat) : Int) → Runs X mX1_add 19 [(0, vr 3), (1, vi x1), (2, vi x2)] [] M P) : Runs X mX1_add 7 [(0, vr 3), (1, vi x1), (2, vi x2)] [] M P := by
  refine Runs.aload_n (j := 0) dX1_add_7 rfl ?_
  refine Runs.geti (ci := 1) (j := 2) (C := RX1) (T := TX1) (N := 3) dX1_add_8 rfl cls_X1 (by decide) rfl fl_X1_18 (Or.inl rfl) ?_
  refine Runs.aload_n (j := 0) dX1_add_11 rfl ?_
  refine Runs.getr (o' := 4) (ci := 1) (j := 0) (C := RX1) (T := TX1) (N := 3) dX1_add_12 rfl cls_X1 (by decide) rfl fl_X1_9 rfl ⟨rfl, "", Or.inr ⟨_, rfl⟩⟩ ?_
  refine Runs.alen dX1_add_15 rfl (by decide) ?_
  refine Runs.icmp_ge (tgt := 61) dX1_add_16 (by decide) (fun h => ?_) (fun h => ?_)
  · refine Runs.picks (loc' := []) [] rfl ?_
    exact k1 h
  · exact k2 h
theorem kX1_add_19 {X : Scr} {M : Mem} {P : Option AV → Mem → Prop} {x1 x2 : Int} (k1 : ((4 : Nat) : Int) ≤ (M 3 2) → Runs X mX1_add 61 [] [] M P) (k2 : (M 3 2) < ((4 : Nat) : Int) → Runs X mX1_add 31 [(0, vr 3), (1, vi x1), (2, vi x2)] [] M P) : Runs X mX1_add 19 [(0, vr 3), (1, vi x1), (2, vi x2)] [] M P := by
  refine Runs.aload_n (j := 0) dX1_add_19 rfl ?_
  refine Runs.geti (ci := 1) (j := 2) (C := RX1) (T := TX1) (N := 3) dX1_add_20 rfl cls_X1 (by decide) rfl fl_X1_18 (Or.inl rfl) ?_
  refine Runs.aload_n (j := 0) dX1_add_23 rfl ?_
  refine Runs.getr (o' := 5) (ci := 1) (j := 1) (C := RX1) (T := TX1) (N := 3) dX1_add_24 rfl cls_X1 (by decide) rfl fl_X1_15 rfl ⟨rfl, "", Or.inr ⟨_, rfl⟩⟩ ?_
  refine Runs.alen dX1_add_27 rfl (by decide) ?_
  refine Runs.icmp_ge (tgt := 61) dX1_add_28 (by decide) (fun h => ?_) (fun h => ?_)
  · refine Runs.picks (loc' := []) [] rfl ?_
    exact k1 h
  · exact k2 h
theorem kX1_add_31 {X : Scr} {M : Mem} {P : Option AV → Mem → Prop} {x1 x2 : Int} (k : Runs X mX1_add 61 [] [] (up2 (up2 (up2 M 4 ((M 3 2)).toNat x1) 5 (((up2 M 4 ((M 3 2)).toNat x1) 3 2)).toNat x2) 3 2 (((up2 (up2 M 4 ((M 3 2)).toNat x1) 5 (((up2 M 4 ((M 3 2)).toNat x1) 3 2)).toNat x2) 3 2) + (1 : Int))) P) (h1 : 0 ≤ (M 3 2) := by omega) (h2 : (M 3 2) < ((4 : Nat) : Int) := by omega) (h3 : 0 ≤ ((up2 M 4 ((M 3 2)).toNat x1) 3 2) := by omega) (h4 : ((up2 M 4 ((M 3 2)).toNat x1) 3 2) < ((4 : Nat) : Int) := by omega) (h5 : -2147483648 ≤ (((up2 (up2 M 4 ((M 3 2)).toNat x1) 5 (((up2 M 4 ((M 3 2)).toNat x1) 3 2)).toNat x2) 3 2) + (1 : Int)) ∧ (((up2 (up2 M 4 ((M 3 2)).toNat x1) 5 (((up2 M 4 ((M 3 2)).toNat x1) 3 2)).toNat x2) 3 2) + (1 : Int)) ≤ 2147483647 := by omega) : Runs X mX1_add 31 [(0, vr 3), (1, vi x1), (2, vi x2)] [] M P := by
  refine Runs.aload_n (j := 0) dX1_add_31 rfl ?_
  refine Runs.getr (o' := 4) (ci := 1) (j := 0) (C := RX1) (T := TX1) (N := 3) dX1_add_32 rfl cls_X1 (by decide) rfl fl_X1_9 rfl ⟨rfl, "", Or.inr ⟨_, rfl⟩⟩ ?_
  refine Runs.aload_n (j := 0) dX1_add_35 rfl ?_
  refine Runs.geti (ci := 1) (j := 2) (C := RX1) (T := TX1) (N := 3) dX1_add_36 rfl cls_X1 (by decide) rfl fl_X1_18 (Or.inl rfl) ?_
  refine Runs.iload_n (j := 1) dX1_add_39 rfl ?_
  refine Runs.iast dX1_add_40 rfl h1 h2 ?_
  refine Runs.aload_n (j := 0) dX1_add_41 rfl ?_
  refine Runs.getr (o' := 5) (ci := 1) (j := 1) (C := RX1) (T := TX1) (N := 3) dX1_add_42 rfl cls_X1 (by decide) rfl fl_X1_15 rfl ⟨rfl, "", Or.inr ⟨_, rfl⟩⟩ ?_
  refine Runs.aload_n (j := 0) dX1_add_45 rfl ?_
  refine Runs.geti (ci := 1) (j := 2) (C := RX1) (T := TX1) (N := 3) dX1_add_46 rfl cls_X1 (by decide) rfl fl_X1_18 (Or.inl rfl) ?_
  refine Runs.iload_n (j := 2) dX1_add_49 rfl ?_
  refine Runs.iast dX1_add_50 rfl h3 h4 ?_
  refine Runs.aload_n (j := 0) dX1_add_51 rfl ?_
  refine Runs.dup dX1_add_52 (by intro z h; cases h) ?_
  refine Runs.geti (ci := 1) (j := 2) (C := RX1) (T := TX1) (N := 3) dX1_add_53 rfl cls_X1 (by decide) rfl fl_X1_18 (Or.inl rfl) ?_
  refine Runs.iconst dX1_add_56 (by decide) ?_
  refine Runs.iadd dX1_add_57 h5 ?_
  refine Runs.puti (ci := 1) (j := 2) (C := RX1) (T := TX1) (N := 3) dX1_add_58 rfl cls_X1 (by decide) rfl fl_X1_18 rfl rfl ?_
  refine Runs.picks (loc' := []) [] rfl ?_
  exact k
theorem kX1_add_61 {X : Scr} {M : Mem} {P : Option AV → Mem → Prop} (k : P none M) : Runs X mX1_add 61 [] [] M P := by
  exact Runs.ret0 dX1_add_61 rfl k
theorem kX1_priceOf_0 {X : Scr} {M : Mem} {P : Option AV → Mem → Prop} {x1 : Int} (k1 : x1 < 0 → Runs X mX1_priceOf 13 [] [] M P) (k2 : 0 ≤ x1 → Runs X mX1_priceOf 4 [(0, vr 3), (1, vi x1)] [] M P) : Runs X mX1_priceOf 0 [(0, vr 3), (1, vi x1)] [] M P := by
  refine Runs.iload_n (j := 1) dX1_priceOf_0 rfl ?_
  refine Runs.if_lt (tgt := 13) dX1_priceOf_1 (by decide) (fun h => ?_) (fun h => ?_)
  · refine Runs.picks (loc' := []) [] rfl ?_
    exact k1 h
  · exact k2 h
theorem kX1_priceOf_4 {X : Scr} {M : Mem} {P : Option AV → Mem → Prop} {x1 : Int} (k1 : x1 < ((4 : Nat) : Int) → Runs X mX1_priceOf 17 [(0, vr 3), (1, vi x1)] [] M P) (k2 : ((4 : Nat) : Int) ≤ x1 → Runs X mX1_priceOf 13 [] [] M P) : Runs X mX1_priceOf 4 [(0, vr 3), (1, vi x1)] [] M P := by
  refine Runs.iload_n (j := 1) dX1_priceOf_4 rfl ?_
  refine Runs.aload_n (j := 0) dX1_priceOf_5 rfl ?_
  refine Runs.getr (o' := 4) (ci := 1) (j := 0) (C := RX1) (T := TX1) (N := 3) dX1_priceOf_6 rfl cls_X1 (by decide) rfl fl_X1_9 rfl ⟨rfl, "", Or.inr ⟨_, rfl⟩⟩ ?_
  refine Runs.alen dX1_priceOf_9 rfl (by decide) ?_
  refine Runs.icmp_lt (tgt := 17) dX1_priceOf_10 (by decide) (fun h => ?_) (fun h => ?_)
  · exact k1 h
  · refine Runs.picks (loc' := []) [] rfl ?_
    exact k2 h
theorem kX1_priceOf_13 {X : Scr} {M : Mem} {P : Option AV → Mem → Prop} (k : Runs X mX1_priceOf 23 [] [vi (0 : Int)] M P) : Runs X mX1_priceOf 13 [] [] M P := by
  refine Runs.iconst dX1_priceOf_13 (by decide) ?_
  refine Runs.goto (tgt := 23) dX1_priceOf_14 (by decide) ?_
  exact k
theorem kX1_priceOf_17 {X : Scr} {M : Mem} {P : Option AV → Mem → Prop} {x1 : Int} (k : Runs X mX1_priceOf 23 [] [vi (M 4 (x1).toNat)] M P) (h1 : 0 ≤ x1 := by omega) (h2 : x1 < ((4 : Nat) : Int) := by omega) : Runs X mX1_priceOf 17 [(0, vr 3), (1, vi x1)] [] M P := by
  refine Runs.aload_n (j := 0) dX1_priceOf_17 rfl ?_
  refine Runs.getr (o' := 4) (ci := 1) (j := 0) (C := RX1) (T := TX1) (N := 3) dX1_priceOf_18 rfl cls_X1 (by decide) rfl fl_X1_9 rfl ⟨rfl, "", Or.inr ⟨_, rfl⟩⟩ ?_
  refine Runs.iload_n (j := 1) dX1_priceOf_21 rfl ?_
  refine Runs.iald dX1_priceOf_22 rfl h1 h2 ?_
  refine Runs.picks (loc' := []) [] rfl ?_
  exact k
theorem kX1_priceOf_23 {X : Scr} {M : Mem} {P : Option AV → Mem → Prop} {xs0 : Int} (k : P (some (vi xs0)) M) : Runs X mX1_priceOf 23 [] [vi xs0] M P := by
  exact Runs.reti dX1_priceOf_23 rfl k
theorem kX1_useOf_0 {X : Scr} {M : Mem} {P : Option AV → Mem → Prop} {x1 : Int} (k1 : x1 < 0 → Runs X mX1_useOf 13 [] [] M P) (k2 : 0 ≤ x1 → Runs X mX1_useOf 4 [(0, vr 3), (1, vi x1)] [] M P) : Runs X mX1_useOf 0 [(0, vr 3), (1, vi x1)] [] M P := by
  refine Runs.iload_n (j := 1) dX1_useOf_0 rfl ?_
  refine Runs.if_lt (tgt := 13) dX1_useOf_1 (by decide) (fun h => ?_) (fun h => ?_)
  · refine Runs.picks (loc' := []) [] rfl ?_
    exact k1 h
  · exact k2 h
theorem kX1_useOf_4 {X : Scr} {M : Mem} {P : Option AV → Mem → Prop} {x1 : Int} (k1 : x1 < ((4 : Nat) : Int) → Runs X mX1_useOf 17 [(0, vr 3), (1, vi x1)] [] M P) (k2 : ((4 : Nat) : Int) ≤ x1 → Runs X mX1_useOf 13 [] [] M P) : Runs X mX1_useOf 4 [(0, vr 3), (1, vi x1)] [] M P := by
  refine Runs.iload_n (j := 1) dX1_useOf_4 rfl ?_
  refine Runs.aload_n (j := 0) dX1_useOf_5 rfl ?_
  refine Runs.getr (o' := 5) (ci := 1) (j := 1) (C := RX1) (T := TX1) (N := 3) dX1_useOf_6 rfl cls_X1 (by decide) rfl fl_X1_15 rfl ⟨rfl, "", Or.inr ⟨_, rfl⟩⟩ ?_
  refine Runs.alen dX1_useOf_9 rfl (by decide) ?_
  refine Runs.icmp_lt (tgt := 17) dX1_useOf_10 (by decide) (fun h => ?_) (fun h => ?_)
  · exact k1 h
  · refine Runs.picks (loc' := []) [] rfl ?_
    exact k2 h
theorem kX1_useOf_13 {X : Scr} {M : Mem} {P : Option AV → Mem → Prop} (k : Runs X mX1_useOf 23 [] [vi (0 : Int)] M P) : Runs X mX1_useOf 13 [] [] M P := by
  refine Runs.iconst dX1_useOf_13 (by decide) ?_
  refine Runs.goto (tgt := 23) dX1_useOf_14 (by decide) ?_
  exact k
theorem kX1_useOf_17 {X : Scr} {M : Mem} {P : Option AV → Mem → Prop} {x1 : Int} (k : Runs X mX1_useOf 23 [] [vi (M 5 (x1).toNat)] M P) (h1 : 0 ≤ x1 := by omega) (h2 : x1 < ((4 : Nat) : Int) := by omega) : Runs X mX1_useOf 17 [(0, vr 3), (1, vi x1)] [] M P := by
  refine Runs.aload_n (j := 0) dX1_useOf_17 rfl ?_
  refine Runs.getr (o' := 5) (ci := 1) (j := 1) (C := RX1) (T := TX1) (N := 3) dX1_useOf_18 rfl cls_X1 (by decide) rfl fl_X1_15 rfl ⟨rfl, "", Or.inr ⟨_, rfl⟩⟩ ?_
  refine Runs.iload_n (j := 1) dX1_useOf_21 rfl ?_
  refine Runs.iald dX1_useOf_22 rfl h1 h2 ?_
  refine Runs.picks (loc' := []) [] rfl ?_
  exact k
theorem kX1_useOf_23 {X : Scr} {M : Mem} {P : Option AV → Mem → Prop} {xs0 : Int} (k : P (some (vi xs0)) M) : Runs X mX1_useOf 23 [] [vi xs0] M P := by
  exact Runs.reti dX1_useOf_23 rfl k
theorem kX1_priceOfSet_0 {X : Scr} {M : Mem} {P : Option AV → Mem → Prop} {x1 : Int} (k : Runs X mX1_priceOfSet 4 [(0, vr 3), (1, vi x1), (2, vi (0 : Int)), (3, vi (0 : Int))] [] M P) : Runs X mX1_priceOfSet 0 [(0, vr 3), (1, vi x1)] [] M P := by
  refine Runs.iconst dX1_priceOfSet_0 (by decide) ?_
  refine Runs.istore_n (loc' := [(0, vr 3), (1, vi x1), (2, vi (0 : Int))]) dX1_priceOfSet_1 rfl (by decide) rfl ?_
  refine Runs.iconst dX1_priceOfSet_2 (by decide) ?_
  refine Runs.istore_n (loc' := [(0, vr 3), (1, vi x1), (2, vi (0 : Int)), (3, vi (0 : Int))]) dX1_priceOfSet_3 rfl (by decide) rfl ?_
  exact k
theorem kX1_priceOfSet_4 {X : Scr} {M : Mem} {P : Option AV → Mem → Prop} {x1 x2 x3 : Int} (k1 : (M 3 2) ≤ x3 → Runs X mX1_priceOfSet 32 [(2, vi x2)] [] M P) (k2 : x3 < (M 3 2) → Runs X mX1_priceOfSet 12 [(0, vr 3), (1, vi x1), (2, vi x2), (3, vi x3)] [] M P) : Runs X mX1_priceOfSet 4 [(0, vr 3), (1, vi x1), (2, vi x2), (3, vi x3)] [] M P := by
  refine Runs.iload_n (j := 3) dX1_priceOfSet_4 rfl ?_
  refine Runs.aload_n (j := 0) dX1_priceOfSet_5 rfl ?_
  refine Runs.geti (ci := 1) (j := 2) (C := RX1) (T := TX1) (N := 3) dX1_priceOfSet_6 rfl cls_X1 (by decide) rfl fl_X1_18 (Or.inl rfl) ?_
  refine Runs.icmp_ge (tgt := 32) dX1_priceOfSet_9 (by decide) (fun h => ?_) (fun h => ?_)
  · refine Runs.picks (loc' := [(2, vi x2)]) [2] rfl ?_
    exact k1 h
  · exact k2 h
theorem kX1_priceOfSet_12 {X : Scr} {M : Mem} {P Q : Option AV → Mem → Prop} {x1 x2 x3 : Int} (hC : Call X mX1_priceOf [vr 3, vi x3] M Q) (k : ∀ (z : Int) (M1 : Mem), Q (some (vi z)) M1 → Runs X mX1_priceOfSet 23 [(0, vr 3), (1, vi x1), (3, vi x3)] [vi z, vi (zand (zshr x1 x3) (1 : Int)), vi x2] M1 P) : Runs X mX1_priceOfSet 12 [(0, vr 3), (1, vi x1), (2, vi x2), (3, vi x3)] [] M P := by
  refine Runs.iload_n (j := 2) dX1_priceOfSet_12 rfl ?_
  refine Runs.iload_n (j := 1) dX1_priceOfSet_13 rfl ?_
  refine Runs.iload_n (j := 3) dX1_priceOfSet_14 rfl ?_
  refine Runs.ishr dX1_priceOfSet_15 ?_
  refine Runs.iconst dX1_priceOfSet_16 (by decide) ?_
  refine Runs.iand dX1_priceOfSet_17 ?_
  refine Runs.aload_n (j := 0) dX1_priceOfSet_18 rfl ?_
  refine Runs.iload_n (j := 3) dX1_priceOfSet_19 rfl ?_
  refine Runs.callVi (y := mX1_priceOf) (n := 1) (as := [vi x3]) (st := [vi (zand (zshr x1 x3) (1 : Int)), vi x2]) (q := (RX1, TX1, 3)) dX1_priceOfSet_20 oc_X1_priceOf im_X1_priceOf se_X1_priceOf ml_X1_22 rfl ⟨(Nat.le_of_ble_eq_true rfl), (Nat.le_of_ble_eq_true rfl)⟩ (Nat.le_of_ble_eq_true rfl) (Nat.le_of_ble_eq_true rfl) rfl rfl rfl (Or.inl rfl) hC (fun z M1 hQ => ?_)
  refine Runs.picks (loc' := [(0, vr 3), (1, vi x1), (3, vi x3)]) [0, 1, 3] rfl ?_
  exact k z M1 hQ
theorem kX1_priceOfSet_23 {X : Scr} {M : Mem} {P : Option AV → Mem → Prop} {x1 x3 xs0 xs1 xs2 : Int} (k : Runs X mX1_priceOfSet 4 [(0, vr 3), (1, vi x1), (2, vi (xs0 + (xs1 * xs2))), (3, vi (x3 + (1 : Int)))] [] M P) (h1 : -2147483648 ≤ (xs1 * xs2) ∧ (xs1 * xs2) ≤ 2147483647 := by omega) (h2 : -2147483648 ≤ (xs0 + (xs1 * xs2)) ∧ (xs0 + (xs1 * xs2)) ≤ 2147483647 := by omega) (h3 : -2147483648 ≤ (x3 + (1 : Int)) ∧ (x3 + (1 : Int)) ≤ 2147483647 := by omega) : Runs X mX1_priceOfSet 23 [(0, vr 3), (1, vi x1), (3, vi x3)] [vi xs2, vi xs1, vi xs0] M P := by
  refine Runs.imul dX1_priceOfSet_23 h1 ?_
  refine Runs.iadd dX1_priceOfSet_24 h2 ?_
  refine Runs.istore_n (loc' := [(0, vr 3), (1, vi x1), (2, vi (xs0 + (xs1 * xs2))), (3, vi x3)]) dX1_priceOfSet_25 rfl (by decide) rfl ?_
  refine Runs.iinc (k := 3) (loc' := [(0, vr 3), (1, vi x1), (2, vi (xs0 + (xs1 * xs2))), (3, vi (x3 + (1 : Int)))]) dX1_priceOfSet_26 rfl h3 (by decide) rfl ?_
  refine Runs.goto (tgt := 4) dX1_priceOfSet_29 (by decide) ?_
  exact k
theorem kX1_priceOfSet_32 {X : Scr} {M : Mem} {P : Option AV → Mem → Prop} {x2 : Int} (k : P (some (vi x2)) M) : Runs X mX1_priceOfSet 32 [(2, vi x2)] [] M P := by
  refine Runs.iload_n (j := 0) dX1_priceOfSet_32 rfl ?_
  exact Runs.reti dX1_priceOfSet_33 rfl k
theorem kX1_useOfSet_0 {X : Scr} {M : Mem} {P : Option AV → Mem → Prop} {x1 : Int} (k : Runs X mX1_useOfSet 4 [(0, vr 3), (1, vi x1), (2, vi (0 : Int)), (3, vi (0 : Int))] [] M P) : Runs X mX1_useOfSet 0 [(0, vr 3), (1, vi x1)] [] M P := by
  refine Runs.iconst dX1_useOfSet_0 (by decide) ?_
  refine Runs.istore_n (loc' := [(0, vr 3), (1, vi x1), (2, vi (0 : Int))]) dX1_useOfSet_1 rfl (by decide) rfl ?_
  refine Runs.iconst dX1_useOfSet_2 (by decide) ?_
  refine Runs.istore_n (loc' := [(0, vr 3), (1, vi x1), (2, vi (0 : Int)), (3, vi (0 : Int))]) dX1_useOfSet_3 rfl (by decide) rfl ?_
  exact k
theorem kX1_useOfSet_4 {X : Scr} {M : Mem} {P : Option AV → Mem → Prop} {x1 x2 x3 : Int} (k1 : (M 3 2) ≤ x3 → Runs X mX1_useOfSet 32 [(2, vi x2)] [] M P) (k2 : x3 < (M 3 2) → Runs X mX1_useOfSet 12 [(0, vr 3), (1, vi x1), (2, vi x2), (3, vi x3)] [] M P) : Runs X mX1_useOfSet 4 [(0, vr 3), (1, vi x1), (2, vi x2), (3, vi x3)] [] M P := by
  refine Runs.iload_n (j := 3) dX1_useOfSet_4 rfl ?_
  refine Runs.aload_n (j := 0) dX1_useOfSet_5 rfl ?_
  refine Runs.geti (ci := 1) (j := 2) (C := RX1) (T := TX1) (N := 3) dX1_useOfSet_6 rfl cls_X1 (by decide) rfl fl_X1_18 (Or.inl rfl) ?_
  refine Runs.icmp_ge (tgt := 32) dX1_useOfSet_9 (by decide) (fun h => ?_) (fun h => ?_)
  · refine Runs.picks (loc' := [(2, vi x2)]) [2] rfl ?_
    exact k1 h
  · exact k2 h
theorem kX1_useOfSet_12 {X : Scr} {M : Mem} {P Q : Option AV → Mem → Prop} {x1 x2 x3 : Int} (hC : Call X mX1_useOf [vr 3, vi x3] M Q) (k : ∀ (z : Int) (M1 : Mem), Q (some (vi z)) M1 → Runs X mX1_useOfSet 23 [(0, vr 3), (1, vi x1), (3, vi x3)] [vi z, vi (zand (zshr x1 x3) (1 : Int)), vi x2] M1 P) : Runs X mX1_useOfSet 12 [(0, vr 3), (1, vi x1), (2, vi x2), (3, vi x3)] [] M P := by
  refine Runs.iload_n (j := 2) dX1_useOfSet_12 rfl ?_
  refine Runs.iload_n (j := 1) dX1_useOfSet_13 rfl ?_
  refine Runs.iload_n (j := 3) dX1_useOfSet_14 rfl ?_
  refine Runs.ishr dX1_useOfSet_15 ?_
  refine Runs.iconst dX1_useOfSet_16 (by decide) ?_
  refine Runs.iand dX1_useOfSet_17 ?_
  refine Runs.aload_n (j := 0) dX1_useOfSet_18 rfl ?_
  refine Runs.iload_n (j := 3) dX1_useOfSet_19 rfl ?_
  refine Runs.callVi (y := mX1_useOf) (n := 1) (as := [vi x3]) (st := [vi (zand (zshr x1 x3) (1 : Int)), vi x2]) (q := (RX1, TX1, 3)) dX1_useOfSet_20 oc_X1_useOf im_X1_useOf se_X1_useOf ml_X1_26 rfl ⟨(Nat.le_of_ble_eq_true rfl), (Nat.le_of_ble_eq_true rfl)⟩ (Nat.le_of_ble_eq_true rfl) (Nat.le_of_ble_eq_true rfl) rfl rfl rfl (Or.inl rfl) hC (fun z M1 hQ => ?_)
  refine Runs.picks (loc' := [(0, vr 3), (1, vi x1), (3, vi x3)]) [0, 1, 3] rfl ?_
  exact k z M1 hQ
theorem kX1_useOfSet_23 {X : Scr} {M : Mem} {P : Option AV → Mem → Prop} {x1 x3 xs0 xs1 xs2 : Int} (k : Runs X mX1_useOfSet 4 [(0, vr 3), (1, vi x1), (2, vi (xs0 + (xs1 * xs2))), (3, vi (x3 + (1 : Int)))] [] M P) (h1 : -2147483648 ≤ (xs1 * xs2) ∧ (xs1 * xs2) ≤ 2147483647 := by omega) (h2 : -2147483648 ≤ (xs0 + (xs1 * xs2)) ∧ (xs0 + (xs1 * xs2)) ≤ 2147483647 := by omega) (h3 : -2147483648 ≤ (x3 + (1 : Int)) ∧ (x3 + (1 : Int)) ≤ 2147483647 := by omega) : Runs X mX1_useOfSet 23 [(0, vr 3), (1, vi x1), (3, vi x3)] [vi xs2, vi xs1, vi xs0] M P := by
  refine Runs.imul dX1_useOfSet_23 h1 ?_
  refine Runs.iadd dX1_useOfSet_24 h2 ?_
  refine Runs.istore_n (loc' := [(0, vr 3), (1, vi x1), (2, vi (xs0 + (xs1 * xs2))), (3, vi x3)]) dX1_useOfSet_25 rfl (by decide) rfl ?_
  refine Runs.iinc (k := 3) (loc' := [(0, vr 3), (1, vi x1), (2, vi (xs0 + (xs1 * xs2))), (3, vi (x3 + (1 : Int)))]) dX1_useOfSet_26 rfl h3 (by decide) rfl ?_
  refine Runs.goto (tgt := 4) dX1_useOfSet_29 (by decide) ?_
  exact k
theorem kX1_useOfSet_32 {X : Scr} {M : Mem} {P : Option AV → Mem → Prop} {x2 : Int} (k : P (some (vi x2)) M) : Runs X mX1_useOfSet 32 [(2, vi x2)] [] M P := by
  refine Runs.iload_n (j := 0) dX1_useOfSet_32 rfl ?_
  exact Runs.reti dX1_useOfSet_33 rfl k
theorem kX2_clear_0 {X : Scr} {M : Mem} {P : Option AV → Mem → Prop} (k : P none (up2 (up2 (up2 (up2 M 33 0 (0 : Int)) 33 1 (0 : Int)) 33 2 (0 : Int)) 33 3 (0 : Int))) (h1 : 0 ≤ (0 : Int) ∧ (0 : Int) ≤ 1 := by omega) : Runs X mX2_clear 0 [(0, vr 33)] [] M P := by
  refine Runs.aload_n (j := 0) dX2_clear_0 rfl ?_
  refine Runs.iconst dX2_clear_1 (by decide) ?_
  refine Runs.putz (ci := 2) (j := 0) (C := RX2) (T := TX2) (N := 4) dX2_clear_2 rfl cls_X2 (by decide) rfl fl_X2_7 rfl rfl h1 ?_
  refine Runs.aload_n (j := 0) dX2_clear_5 rfl ?_
  refine Runs.iconst dX2_clear_6 (by decide) ?_
  refine Runs.puti (ci := 2) (j := 1) (C := RX2) (T := TX2) (N := 4) dX2_clear_7 rfl cls_X2 (by decide) rfl fl_X2_13 rfl rfl ?_
  refine Runs.aload_n (j := 0) dX2_clear_10 rfl ?_
  refine Runs.iconst dX2_clear_11 (by decide) ?_
  refine Runs.puti (ci := 2) (j := 2) (C := RX2) (T := TX2) (N := 4) dX2_clear_12 rfl cls_X2 (by decide) rfl fl_X2_17 rfl rfl ?_
  refine Runs.aload_n (j := 0) dX2_clear_15 rfl ?_
  refine Runs.iconst dX2_clear_16 (by decide) ?_
  refine Runs.puti (ci := 2) (j := 3) (C := RX2) (T := TX2) (N := 4) dX2_clear_17 rfl cls_X2 (by decide) rfl fl_X2_20 rfl rfl ?_
  exact Runs.ret0 dX2_clear_20 rfl k
theorem kX2_offer_0 {X : Scr} {M : Mem} {P : Option AV → Mem → Prop} {x1 x2 x3 : Int} (k1 : (M 33 0) = 0 → Runs X mX2_offer 47 [(0, vr 33), (1, vi x1), (2, vi x2), (3, vi x3)] [] M P) (k2 : (M 33 0) ≠ 0 → Runs X mX2_offer 7 [(0, vr 33), (1, vi x1), (2, vi x2), (3, vi x3)] [] M P) : Runs X mX2_offer 0 [(0, vr 33), (1, vi x1), (2, vi x2), (3, vi x3)] [] M P := by
  refine Runs.aload_n (j := 0) dX2_offer_0 rfl ?_
  refine Runs.geti (ci := 2) (j := 0) (C := RX2) (T := TX2) (N := 4) dX2_offer_1 rfl cls_X2 (by decide) rfl fl_X2_7 (Or.inr (Or.inl rfl)) ?_
  refine Runs.if_eq (tgt := 47) dX2_offer_4 (by decide) (fun h => ?_) (fun h => ?_)
  · exact k1 h
  · exact k2 h
theorem kX2_offer_7 {X : Scr} {M : Mem} {P : Option AV → Mem → Prop} {x1 x2 x3 : Int} (k1 : x1 < (M 33 1) → Runs X mX2_offer 47 [(0, vr 33), (1, vi x1), (2, vi x2), (3, vi x3)] [] M P) (k2 : (M 33 1) ≤ x1 → Runs X mX2_offer 15 [(0, vr 33), (1, vi x1), (2, vi x2), (3, vi x3)] [] M P) : Runs X mX2_offer 7 [(0, vr 33), (1, vi x1), (2, vi x2), (3, vi x3)] [] M P := by
  refine Runs.iload_n (j := 1) dX2_offer_7 rfl ?_
  refine Runs.aload_n (j := 0) dX2_offer_8 rfl ?_
  refine Runs.geti (ci := 2) (j := 1) (C := RX2) (T := TX2) (N := 4) dX2_offer_9 rfl cls_X2 (by decide) rfl fl_X2_13 (Or.inl rfl) ?_
  refine Runs.icmp_lt (tgt := 47) dX2_offer_12 (by decide) (fun h => ?_) (fun h => ?_)
  · exact k1 h
  · exact k2 h
theorem kX2_offer_15 {X : Scr} {M : Mem} {P : Option AV → Mem → Prop} {x1 x2 x3 : Int} (k1 : x1 ≠ (M 33 1) → Runs X mX2_offer 67 [] [] M P) (k2 : x1 = (M 33 1) → Runs X mX2_offer 23 [(0, vr 33), (1, vi x1), (2, vi x2), (3, vi x3)] [] M P) : Runs X mX2_offer 15 [(0, vr 33), (1, vi x1), (2, vi x2), (3, vi x3)] [] M P := by
  refine Runs.iload_n (j := 1) dX2_offer_15 rfl ?_
  refine Runs.aload_n (j := 0) dX2_offer_16 rfl ?_
  refine Runs.geti (ci := 2) (j := 1) (C := RX2) (T := TX2) (N := 4) dX2_offer_17 rfl cls_X2 (by decide) rfl fl_X2_13 (Or.inl rfl) ?_
  refine Runs.icmp_ne (tgt := 67) dX2_offer_20 (by decide) (fun h => ?_) (fun h => ?_)
  · refine Runs.picks (loc' := []) [] rfl ?_
    exact k1 h
  · exact k2 h
theorem kX2_offer_23 {X : Scr} {M : Mem} {P : Option AV → Mem → Prop} {x1 x2 x3 : Int} (k1 : x2 < (M 33 2) → Runs X mX2_offer 47 [(0, vr 33), (1, vi x1), (2, vi x2), (3, vi x3)] [] M P) (k2 : (M 33 2) ≤ x2 → Runs X mX2_offer 31 [(0, vr 33), (1, vi x1), (2, vi x2), (3, vi x3)] [] M P) : Runs X mX2_offer 23 [(0, vr 33), (1, vi x1), (2, vi x2), (3, vi x3)] [] M P := by
  refine Runs.iload_n (j := 2) dX2_offer_23 rfl ?_
  refine Runs.aload_n (j := 0) dX2_offer_24 rfl ?_
  refine Runs.geti (ci := 2) (j := 2) (C := RX2) (T := TX2) (N := 4) dX2_offer_25 rfl cls_X2 (by decide) rfl fl_X2_17 (Or.inl rfl) ?_
  refine Runs.icmp_lt (tgt := 47) dX2_offer_28 (by decide) (fun h => ?_) (fun h => ?_)
  · exact k1 h
  · exact k2 h
theorem kX2_offer_31 {X : Scr} {M : Mem} {P : Option AV → Mem → Prop} {x1 x2 x3 : Int} (k1 : x2 ≠ (M 33 2) → Runs X mX2_offer 67 [] [] M P) (k2 : x2 = (M 33 2) → Runs X mX2_offer 39 [(0, vr 33), (1, vi x1), (2, vi x2), (3, vi x3)] [] M P) : Runs X mX2_offer 31 [(0, vr 33), (1, vi x1), (2, vi x2), (3, vi x3)] [] M P := by
  refine Runs.iload_n (j := 2) dX2_offer_31 rfl ?_
  refine Runs.aload_n (j := 0) dX2_offer_32 rfl ?_
  refine Runs.geti (ci := 2) (j := 2) (C := RX2) (T := TX2) (N := 4) dX2_offer_33 rfl cls_X2 (by decide) rfl fl_X2_17 (Or.inl rfl) ?_
  refine Runs.icmp_ne (tgt := 67) dX2_offer_36 (by decide) (fun h => ?_) (fun h => ?_)
  · refine Runs.picks (loc' := []) [] rfl ?_
    exact k1 h
  · exact k2 h
theorem kX2_offer_39 {X : Scr} {M : Mem} {P : Option AV → Mem → Prop} {x1 x2 x3 : Int} (k1 : (M 33 3) ≤ x3 → Runs X mX2_offer 67 [] [] M P) (k2 : x3 < (M 33 3) → Runs X mX2_offer 47 [(0, vr 33), (1, vi x1), (2, vi x2), (3, vi x3)] [] M P) : Runs X mX2_offer 39 [(0, vr 33), (1, vi x1), (2, vi x2), (3, vi x3)] [] M P := by
  refine Runs.iload_n (j := 3) dX2_offer_39 rfl ?_
  refine Runs.aload_n (j := 0) dX2_offer_40 rfl ?_
  refine Runs.geti (ci := 2) (j := 3) (C := RX2) (T := TX2) (N := 4) dX2_offer_41 rfl cls_X2 (by decide) rfl fl_X2_20 (Or.inl rfl) ?_
  refine Runs.icmp_ge (tgt := 67) dX2_offer_44 (by decide) (fun h => ?_) (fun h => ?_)
  · refine Runs.picks (loc' := []) [] rfl ?_
    exact k1 h
  · exact k2 h
theorem kX2_offer_47 {X : Scr} {M : Mem} {P : Option AV → Mem → Prop} {x1 x2 x3 : Int} (k : Runs X mX2_offer 67 [] [] (up2 (up2 (up2 (up2 M 33 0 (1 : Int)) 33 1 x1) 33 2 x2) 33 3 x3) P) (h1 : 0 ≤ (1 : Int) ∧ (1 : Int) ≤ 1 := by omega) : Runs X mX2_offer 47 [(0, vr 33), (1, vi x1), (2, vi x2), (3, vi x3)] [] M P := by
  refine Runs.aload_n (j := 0) dX2_offer_47 rfl ?_
  refine Runs.iconst dX2_offer_48 (by decide) ?_
  refine Runs.putz (ci := 2) (j := 0) (C := RX2) (T := TX2) (N := 4) dX2_offer_49 rfl cls_X2 (by decide) rfl fl_X2_7 rfl rfl h1 ?_
  refine Runs.aload_n (j := 0) dX2_offer_52 rfl ?_
  refine Runs.iload_n (j := 1) dX2_offer_53 rfl ?_
  refine Runs.puti (ci := 2) (j := 1) (C := RX2) (T := TX2) (N := 4) dX2_offer_54 rfl cls_X2 (by decide) rfl fl_X2_13 rfl rfl ?_
  refine Runs.aload_n (j := 0) dX2_offer_57 rfl ?_
  refine Runs.iload_n (j := 2) dX2_offer_58 rfl ?_
  refine Runs.puti (ci := 2) (j := 2) (C := RX2) (T := TX2) (N := 4) dX2_offer_59 rfl cls_X2 (by decide) rfl fl_X2_17 rfl rfl ?_
  refine Runs.aload_n (j := 0) dX2_offer_62 rfl ?_
  refine Runs.iload_n (j := 3) dX2_offer_63 rfl ?_
  refine Runs.puti (ci := 2) (j := 3) (C := RX2) (T := TX2) (N := 4) dX2_offer_64 rfl cls_X2 (by decide) rfl fl_X2_20 rfl rfl ?_
  refine Runs.picks (loc' := []) [] rfl ?_
  exact k
theorem kX2_offer_67 {X : Scr} {M : Mem} {P : Option AV → Mem → Prop} (k : P none M) : Runs X mX2_offer 67 [] [] M P := by
  exact Runs.ret0 dX2_offer_67 rfl k
theorem kX3_gotFor_0 {X : Scr} {M : Mem} {P : Option AV → Mem → Prop} {t0 : Nat} {x1 x2 : Int} (k1 : ((x1 * (4 : Int)) + x2) < 0 → Runs X mX3_gotFor 19 [] [] M P) (k2 : 0 ≤ ((x1 * (4 : Int)) + x2) → Runs X mX3_gotFor 10 [(0, vr (oR t0)), (3, vi ((x1 * (4 : Int)) + x2))] [] M P) (hb_t0 : t0 < 3 := by omega) (h1 : -2147483648 ≤ (x1 * (4 : Int)) ∧ (x1 * (4 : Int)) ≤ 2147483647 := by omega) (h2 : -2147483648 ≤ ((x1 * (4 : Int)) + x2) ∧ ((x1 * (4 : Int)) + x2) ≤ 2147483647 := by omega) : Runs X mX3_gotFor 0 [(0, vr (oR t0)), (1, vi x1), (2, vi x2)] [] M P := by
  refine Runs.iload_n (j := 1) dX3_gotFor_0 rfl ?_
  refine Runs.iconst dX3_gotFor_1 (by decide) ?_
  refine Runs.imul dX3_gotFor_2 h1 ?_
  refine Runs.iload_n (j := 2) dX3_gotFor_3 rfl ?_
  refine Runs.iadd dX3_gotFor_4 h2 ?_
  refine Runs.istore_n (loc' := [(0, vr (oR t0)), (1, vi x1), (2, vi x2), (3, vi ((x1 * (4 : Int)) + x2))]) dX3_gotFor_5 rfl (by decide) rfl ?_
  refine Runs.iload_n (j := 3) dX3_gotFor_6 rfl ?_
  refine Runs.if_lt (tgt := 19) dX3_gotFor_7 (by decide) (fun h => ?_) (fun h => ?_)
  · refine Runs.picks (loc' := []) [] rfl ?_
    exact k1 h
  · refine Runs.picks (loc' := [(0, vr (oR t0)), (3, vi ((x1 * (4 : Int)) + x2))]) [0, 3] rfl ?_
    exact k2 h
theorem kX3_gotFor_10 {X : Scr} {M : Mem} {P : Option AV → Mem → Prop} {t0 : Nat} {x3 : Int} (k1 : x3 < ((16 : Nat) : Int) → Runs X mX3_gotFor 23 [(0, vr (oR t0)), (3, vi x3)] [] M P) (k2 : ((16 : Nat) : Int) ≤ x3 → Runs X mX3_gotFor 19 [] [] M P) (hb_t0 : t0 < 3 := by omega) : Runs X mX3_gotFor 10 [(0, vr (oR t0)), (3, vi x3)] [] M P := by
  refine Runs.iload_n (j := 1) dX3_gotFor_10 rfl ?_
  refine Runs.aload_n (j := 0) dX3_gotFor_11 rfl ?_
  refine Runs.getr (o' := (oG t0)) (ci := 3) (j := 0) (C := RX3) (T := TX3) (N := 2) dX3_gotFor_12 (kd_oR (by omega)) cls_X3 (by decide) rfl fl_X3_9 (rf_oG (by omega)) ⟨rfl, "", Or.inr ⟨_, rfl⟩⟩ ?_
  refine Runs.alen dX3_gotFor_15 (kd_oG (by omega)) (by decide) ?_
  refine Runs.icmp_lt (tgt := 23) dX3_gotFor_16 (by decide) (fun h => ?_) (fun h => ?_)
  · exact k1 h
  · refine Runs.picks (loc' := []) [] rfl ?_
    exact k2 h
theorem kX3_gotFor_19 {X : Scr} {M : Mem} {P : Option AV → Mem → Prop} (k : Runs X mX3_gotFor 29 [] [vi (1 : Int)] M P) : Runs X mX3_gotFor 19 [] [] M P := by
  refine Runs.iconst dX3_gotFor_19 (by decide) ?_
  refine Runs.goto (tgt := 29) dX3_gotFor_20 (by decide) ?_
  exact k
theorem kX3_gotFor_23 {X : Scr} {M : Mem} {P : Option AV → Mem → Prop} {t0 : Nat} {x3 : Int} (k : Runs X mX3_gotFor 29 [] [vi (M (oG t0) (x3).toNat)] M P) (hb_t0 : t0 < 3 := by omega) (h1 : 0 ≤ x3 := by omega) (h2 : x3 < ((16 : Nat) : Int) := by omega) : Runs X mX3_gotFor 23 [(0, vr (oR t0)), (3, vi x3)] [] M P := by
  refine Runs.aload_n (j := 0) dX3_gotFor_23 rfl ?_
  refine Runs.getr (o' := (oG t0)) (ci := 3) (j := 0) (C := RX3) (T := TX3) (N := 2) dX3_gotFor_24 (kd_oR (by omega)) cls_X3 (by decide) rfl fl_X3_9 (rf_oG (by omega)) ⟨rfl, "", Or.inr ⟨_, rfl⟩⟩ ?_
  refine Runs.iload_n (j := 1) dX3_gotFor_27 rfl ?_
  refine Runs.iald dX3_gotFor_28 (kd_oG (by omega)) h1 h2 ?_
  refine Runs.picks (loc' := []) [] rfl ?_
  exact k
theorem kX3_gotFor_29 {X : Scr} {M : Mem} {P : Option AV → Mem → Prop} {xs0 : Int} (k : P (some (vi xs0)) M) : Runs X mX3_gotFor 29 [] [vi xs0] M P := by
  exact Runs.reti dX3_gotFor_29 rfl k
theorem kX3_givenFor_0 {X : Scr} {M : Mem} {P : Option AV → Mem → Prop} {t0 : Nat} {x1 x2 : Int} (k1 : ((x1 * (4 : Int)) + x2) < 0 → Runs X mX3_givenFor 19 [] [] M P) (k2 : 0 ≤ ((x1 * (4 : Int)) + x2) → Runs X mX3_givenFor 10 [(0, vr (oR t0)), (3, vi ((x1 * (4 : Int)) + x2))] [] M P) (hb_t0 : t0 < 3 := by omega) (h1 : -2147483648 ≤ (x1 * (4 : Int)) ∧ (x1 * (4 : Int)) ≤ 2147483647 := by omega) (h2 : -2147483648 ≤ ((x1 * (4 : Int)) + x2) ∧ ((x1 * (4 : Int)) + x2) ≤ 2147483647 := by omega) : Runs X mX3_givenFor 0 [(0, vr (oR t0)), (1, vi x1), (2, vi x2)] [] M P := by
  refine Runs.iload_n (j := 1) dX3_givenFor_0 rfl ?_
  refine Runs.iconst dX3_givenFor_1 (by decide) ?_
  refine Runs.imul dX3_givenFor_2 h1 ?_
  refine Runs.iload_n (j := 2) dX3_givenFor_3 rfl ?_
  refine Runs.iadd dX3_givenFor_4 h2 ?_
  refine Runs.istore_n (loc' := [(0, vr (oR t0)), (1, vi x1), (2, vi x2), (3, vi ((x1 * (4 : Int)) + x2))]) dX3_givenFor_5 rfl (by decide) rfl ?_
  refine Runs.iload_n (j := 3) dX3_givenFor_6 rfl ?_
  refine Runs.if_lt (tgt := 19) dX3_givenFor_7 (by decide) (fun h => ?_) (fun h => ?_)
  · refine Runs.picks (loc' := []) [] rfl ?_
    exact k1 h
  · refine Runs.picks (loc' := [(0, vr (oR t0)), (3, vi ((x1 * (4 : Int)) + x2))]) [0, 3] rfl ?_
    exact k2 h
theorem kX3_givenFor_10 {X : Scr} {M : Mem} {P : Option AV → Mem → Prop} {t0 : Nat} {x3 : Int} (k1 : x3 < ((16 : Nat) : Int) → Runs X mX3_givenFor 23 [(0, vr (oR t0)), (3, vi x3)] [] M P) (k2 : ((16 : Nat) : Int) ≤ x3 → Runs X mX3_givenFor 19 [] [] M P) (hb_t0 : t0 < 3 := by omega) : Runs X mX3_givenFor 10 [(0, vr (oR t0)), (3, vi x3)] [] M P := by
  refine Runs.iload_n (j := 1) dX3_givenFor_10 rfl ?_
  refine Runs.aload_n (j := 0) dX3_givenFor_11 rfl ?_
  refine Runs.getr (o' := (oN t0)) (ci := 3) (j := 1) (C := RX3) (T := TX3) (N := 2) dX3_givenFor_12 (kd_oR (by omega)) cls_X3 (by decide) rfl fl_X3_15 (rf_oN (by omega)) ⟨rfl, "", Or.inr ⟨_, rfl⟩⟩ ?_
  refine Runs.alen dX3_givenFor_15 (kd_oN (by omega)) (by decide) ?_
  refine Runs.icmp_lt (tgt := 23) dX3_givenFor_16 (by decide) (fun h => ?_) (fun h => ?_)
  · exact k1 h
  · refine Runs.picks (loc' := []) [] rfl ?_
    exact k2 h
theorem kX3_givenFor_19 {X : Scr} {M : Mem} {P : Option AV → Mem → Prop} (k : Runs X mX3_givenFor 29 [] [vi (1 : Int)] M P) : Runs X mX3_givenFor 19 [] [] M P := by
  refine Runs.iconst dX3_givenFor_19 (by decide) ?_
  refine Runs.goto (tgt := 29) dX3_givenFor_20 (by decide) ?_
  exact k
theorem kX3_givenFor_23 {X : Scr} {M : Mem} {P : Option AV → Mem → Prop} {t0 : Nat} {x3 : Int} (k : Runs X mX3_givenFor 29 [] [vi (M (oN t0) (x3).toNat)] M P) (hb_t0 : t0 < 3 := by omega) (h1 : 0 ≤ x3 := by omega) (h2 : x3 < ((16 : Nat) : Int) := by omega) : Runs X mX3_givenFor 23 [(0, vr (oR t0)), (3, vi x3)] [] M P := by
  refine Runs.aload_n (j := 0) dX3_givenFor_23 rfl ?_
  refine Runs.getr (o' := (oN t0)) (ci := 3) (j := 1) (C := RX3) (T := TX3) (N := 2) dX3_givenFor_24 (kd_oR (by omega)) cls_X3 (by decide) rfl fl_X3_15 (rf_oN (by omega)) ⟨rfl, "", Or.inr ⟨_, rfl⟩⟩ ?_
  refine Runs.iload_n (j := 1) dX3_givenFor_27 rfl ?_
  refine Runs.iald dX3_givenFor_28 (kd_oN (by omega)) h1 h2 ?_
  refine Runs.picks (loc' := []) [] rfl ?_
  exact k
theorem kX3_givenFor_29 {X : Scr} {M : Mem} {P : Option AV → Mem → Prop} {xs0 : Int} (k : P (some (vi xs0)) M) : Runs X mX3_givenFor 29 [] [vi xs0] M P := by
  exact Runs.reti dX3_givenFor_29 rfl k
theorem kX3_put_0 {X : Scr} {M : Mem} {P : Option AV → Mem → Prop} {t0 : Nat} {x1 x2 x3 x4 : Int} (k1 : ((x1 * (4 : Int)) + x2) < 0 → Runs X mX3_put 49 [] [] M P) (k2 : 0 ≤ ((x1 * (4 : Int)) + x2) → Runs X mX3_put 12 [(0, vr (oR t0)), (3, vi x3), (4, vi x4), (5, vi ((x1 * (4 : Int)) + x2))] [] M P) (hb_t0 : t0 < 3 := by omega) (h1 : -2147483648 ≤ (x1 * (4 : Int)) ∧ (x1 * (4 : Int)) ≤ 2147483647 := by omega) (h2 : -2147483648 ≤ ((x1 * (4 : Int)) + x2) ∧ ((x1 * (4 : Int)) + x2) ≤ 2147483647 := by omega) : Runs X mX3_put 0 [(0, vr (oR t0)), (1, vi x1), (2, vi x2), (3, vi x3), (4, vi x4)] [] M P := by
  refine Runs.iload_n (j := 1) dX3_put_0 rfl ?_
  refine Runs.iconst dX3_put_1 (by decide) ?_
  refine Runs.imul dX3_put_2 h1 ?_
  refine Runs.iload_n (j := 2) dX3_put_3 rfl ?_
  refine Runs.iadd dX3_put_4 h2 ?_
  refine Runs.istore (loc' := [(0, vr (oR t0)), (1, vi x1), (2, vi x2), (3, vi x3), (4, vi x4), (5, vi ((x1 * (4 : Int)) + x2))]) dX3_put_5 (by decide) rfl ?_
  refine Runs.iload (j := 5) dX3_put_7 rfl ?_
  refine Runs.if_lt (tgt := 49) dX3_put_9 (by decide) (fun h => ?_) (fun h => ?_)
  · refine Runs.picks (loc' := []) [] rfl ?_
    exact k1 h
  · refine Runs.picks (loc' := [(0, vr (oR t0)), (3, vi x3), (4, vi x4), (5, vi ((x1 * (4 : Int)) + x2))]) [0, 3, 4, 5] rfl ?_
    exact k2 h
theorem kX3_put_12 {X : Scr} {M : Mem} {P : Option AV → Mem → Prop} {t0 : Nat} {x3 x4 x5 : Int} (k1 : ((16 : Nat) : Int) ≤ x5 → Runs X mX3_put 49 [] [] M P) (k2 : x5 < ((16 : Nat) : Int) → Runs X mX3_put 22 [(0, vr (oR t0)), (3, vi x3), (4, vi x4), (5, vi x5)] [] M P) (hb_t0 : t0 < 3 := by omega) : Runs X mX3_put 12 [(0, vr (oR t0)), (3, vi x3), (4, vi x4), (5, vi x5)] [] M P := by
  refine Runs.iload (j := 3) dX3_put_12 rfl ?_
  refine Runs.aload_n (j := 0) dX3_put_14 rfl ?_
  refine Runs.getr (o' := (oG t0)) (ci := 3) (j := 0) (C := RX3) (T := TX3) (N := 2) dX3_put_15 (kd_oR (by omega)) cls_X3 (by decide) rfl fl_X3_9 (rf_oG (by omega)) ⟨rfl, "", Or.inr ⟨_, rfl⟩⟩ ?_
  refine Runs.alen dX3_put_18 (kd_oG (by omega)) (by decide) ?_
  refine Runs.icmp_ge (tgt := 49) dX3_put_19 (by decide) (fun h => ?_) (fun h => ?_)
  · refine Runs.picks (loc' := []) [] rfl ?_
    exact k1 h
  · exact k2 h
theorem kX3_put_22 {X : Scr} {M : Mem} {P : Option AV → Mem → Prop} {t0 : Nat} {x3 x4 x5 : Int} (k1 : ((16 : Nat) : Int) ≤ x5 → Runs X mX3_put 49 [] [] M P) (k2 : x5 < ((16 : Nat) : Int) → Runs X mX3_put 32 [(0, vr (oR t0)), (3, vi x3), (4, vi x4), (5, vi x5)] [] M P) (hb_t0 : t0 < 3 := by omega) : Runs X mX3_put 22 [(0, vr (oR t0)), (3, vi x3), (4, vi x4), (5, vi x5)] [] M P := by
  refine Runs.iload (j := 3) dX3_put_22 rfl ?_
  refine Runs.aload_n (j := 0) dX3_put_24 rfl ?_
  refine Runs.getr (o' := (oN t0)) (ci := 3) (j := 1) (C := RX3) (T := TX3) (N := 2) dX3_put_25 (kd_oR (by omega)) cls_X3 (by decide) rfl fl_X3_15 (rf_oN (by omega)) ⟨rfl, "", Or.inr ⟨_, rfl⟩⟩ ?_
  refine Runs.alen dX3_put_28 (kd_oN (by omega)) (by decide) ?_
  refine Runs.icmp_ge (tgt := 49) dX3_put_29 (by decide) (fun h => ?_) (fun h => ?_)
  · refine Runs.picks (loc' := []) [] rfl ?_
    exact k1 h
  · exact k2 h
theorem kX3_put_32 {X : Scr} {M : Mem} {P : Option AV → Mem → Prop} {t0 : Nat} {x3 x4 x5 : Int} (k : Runs X mX3_put 49 [] [] (up2 (up2 M (oG t0) (x5).toNat x3) (oN t0) (x5).toNat x4) P) (hb_t0 : t0 < 3 := by omega) (h1 : 0 ≤ x5 := by omega) (h2 : x5 < ((16 : Nat) : Int) := by omega) : Runs X mX3_put 32 [(0, vr (oR t0)), (3, vi x3), (4, vi x4), (5, vi x5)] [] M P := by
  refine Runs.aload_n (j := 0) dX3_put_32 rfl ?_
  refine Runs.getr (o' := (oG t0)) (ci := 3) (j := 0) (C := RX3) (T := TX3) (N := 2) dX3_put_33 (kd_oR (by omega)) cls_X3 (by decide) rfl fl_X3_9 (rf_oG (by omega)) ⟨rfl, "", Or.inr ⟨_, rfl⟩⟩ ?_
  refine Runs.iload (j := 3) dX3_put_36 rfl ?_
  refine Runs.iload_n (j := 1) dX3_put_38 rfl ?_
  refine Runs.iast dX3_put_39 (kd_oG (by omega)) h1 h2 ?_
  refine Runs.aload_n (j := 0) dX3_put_40 rfl ?_
  refine Runs.getr (o' := (oN t0)) (ci := 3) (j := 1) (C := RX3) (T := TX3) (N := 2) dX3_put_41 (kd_oR (by omega)) cls_X3 (by decide) rfl fl_X3_15 (rf_oN (by omega)) ⟨rfl, "", Or.inr ⟨_, rfl⟩⟩ ?_
  refine Runs.iload (j := 3) dX3_put_44 rfl ?_
  refine Runs.iload (j := 2) dX3_put_46 rfl ?_
  refine Runs.iast dX3_put_48 (kd_oN (by omega)) h1 h2 ?_
  refine Runs.picks (loc' := []) [] rfl ?_
  exact k
theorem kX3_put_49 {X : Scr} {M : Mem} {P : Option AV → Mem → Prop} (k : P none M) : Runs X mX3_put 49 [] [] M P := by
  exact Runs.ret0 dX3_put_49 rfl k
theorem kX3_copyFrom_0 {X : Scr} {M : Mem} {P : Option AV → Mem → Prop} {t0 t1 : Nat} (k : P none (cpyM (cpyM M (oG t1) ((0 : Int)).toNat (oG t0) ((0 : Int)).toNat ((min ((16 : Nat) : Int) ((16 : Nat) : Int))).toNat) (oN t1) ((0 : Int)).toNat (oN t0) ((0 : Int)).toNat ((min ((16 : Nat) : Int) ((16 : Nat) : Int))).toNat)) (hb_t0 : t0 < 3 := by omega) (hb_t1 : t1 < 3 := by omega) (h1 : 0 ≤ (0 : Int) := by omega) (h2 : 0 ≤ (min ((16 : Nat) : Int) ((16 : Nat) : Int)) := by omega) (h3 : (0 : Int) + (min ((16 : Nat) : Int) ((16 : Nat) : Int)) ≤ ((16 : Nat) : Int) := by omega) : Runs X mX3_copyFrom 0 [(0, vr (oR t0)), (1, vr (oR t1))] [] M P := by
  refine Runs.aload_n (j := 1) dX3_copyFrom_0 rfl ?_
  refine Runs.getr (o' := (oG t1)) (ci := 3) (j := 0) (C := RX3) (T := TX3) (N := 2) dX3_copyFrom_1 (kd_oR (by omega)) cls_X3 (by decide) rfl fl_X3_9 (rf_oG (by omega)) ⟨rfl, "", Or.inr ⟨_, rfl⟩⟩ ?_
  refine Runs.iconst dX3_copyFrom_4 (by decide) ?_
  refine Runs.aload_n (j := 0) dX3_copyFrom_5 rfl ?_
  refine Runs.getr (o' := (oG t0)) (ci := 3) (j := 0) (C := RX3) (T := TX3) (N := 2) dX3_copyFrom_6 (kd_oR (by omega)) cls_X3 (by decide) rfl fl_X3_9 (rf_oG (by omega)) ⟨rfl, "", Or.inr ⟨_, rfl⟩⟩ ?_
  refine Runs.iconst dX3_copyFrom_9 (by decide) ?_
  refine Runs.aload_n (j := 0) dX3_copyFrom_10 rfl ?_
  refine Runs.getr (o' := (oG t0)) (ci := 3) (j := 0) (C := RX3) (T := TX3) (N := 2) dX3_copyFrom_11 (kd_oR (by omega)) cls_X3 (by decide) rfl fl_X3_9 (rf_oG (by omega)) ⟨rfl, "", Or.inr ⟨_, rfl⟩⟩ ?_
  refine Runs.alen dX3_copyFrom_14 (kd_oG (by omega)) (by decide) ?_
  refine Runs.aload_n (j := 1) dX3_copyFrom_15 rfl ?_
  refine Runs.getr (o' := (oG t1)) (ci := 3) (j := 0) (C := RX3) (T := TX3) (N := 2) dX3_copyFrom_16 (kd_oR (by omega)) cls_X3 (by decide) rfl fl_X3_9 (rf_oG (by omega)) ⟨rfl, "", Or.inr ⟨_, rfl⟩⟩ ?_
  refine Runs.alen dX3_copyFrom_19 (kd_oG (by omega)) (by decide) ?_
  refine Runs.mmin dX3_copyFrom_20 w3_134 nat_mmin ⟨by decide, Nat.le_of_ble_eq_true rfl⟩ ?_
  refine Runs.acopy dX3_copyFrom_23 w3_135 nat_acopy ⟨by decide, Nat.le_of_ble_eq_true rfl⟩ (kd_oG (by omega)) (kd_oG (by omega)) h1 h1 h2 h3 h3 ?_
  refine Runs.aload_n (j := 1) dX3_copyFrom_26 rfl ?_
  refine Runs.getr (o' := (oN t1)) (ci := 3) (j := 1) (C := RX3) (T := TX3) (N := 2) dX3_copyFrom_27 (kd_oR (by omega)) cls_X3 (by decide) rfl fl_X3_15 (rf_oN (by omega)) ⟨rfl, "", Or.inr ⟨_, rfl⟩⟩ ?_
  refine Runs.iconst dX3_copyFrom_30 (by decide) ?_
  refine Runs.aload_n (j := 0) dX3_copyFrom_31 rfl ?_
  refine Runs.getr (o' := (oN t0)) (ci := 3) (j := 1) (C := RX3) (T := TX3) (N := 2) dX3_copyFrom_32 (kd_oR (by omega)) cls_X3 (by decide) rfl fl_X3_15 (rf_oN (by omega)) ⟨rfl, "", Or.inr ⟨_, rfl⟩⟩ ?_
  refine Runs.iconst dX3_copyFrom_35 (by decide) ?_
  refine Runs.aload_n (j := 0) dX3_copyFrom_36 rfl ?_
  refine Runs.getr (o' := (oN t0)) (ci := 3) (j := 1) (C := RX3) (T := TX3) (N := 2) dX3_copyFrom_37 (kd_oR (by omega)) cls_X3 (by decide) rfl fl_X3_15 (rf_oN (by omega)) ⟨rfl, "", Or.inr ⟨_, rfl⟩⟩ ?_
  refine Runs.alen dX3_copyFrom_40 (kd_oN (by omega)) (by decide) ?_
  refine Runs.aload_n (j := 1) dX3_copyFrom_41 rfl ?_
  refine Runs.getr (o' := (oN t1)) (ci := 3) (j := 1) (C := RX3) (T := TX3) (N := 2) dX3_copyFrom_42 (kd_oR (by omega)) cls_X3 (by decide) rfl fl_X3_15 (rf_oN (by omega)) ⟨rfl, "", Or.inr ⟨_, rfl⟩⟩ ?_
  refine Runs.alen dX3_copyFrom_45 (kd_oN (by omega)) (by decide) ?_
  refine Runs.mmin dX3_copyFrom_46 w3_134 nat_mmin ⟨by decide, Nat.le_of_ble_eq_true rfl⟩ ?_
  refine Runs.acopy dX3_copyFrom_49 w3_135 nat_acopy ⟨by decide, Nat.le_of_ble_eq_true rfl⟩ (kd_oN (by omega)) (kd_oN (by omega)) h1 h1 h2 h3 h3 ?_
  exact Runs.ret0 dX3_copyFrom_52 rfl k
theorem kX0_remember_0 {X : Scr} {M : Mem} {P : Option AV → Mem → Prop} {t0 t1 : Nat} (k1 : (M (oB t0) 1) < 0 → Runs X mX0_remember 54 [] [] M P) (k2 : 0 ≤ (M (oB t0) 1) → Runs X mX0_remember 7 [(0, vr (oB t0)), (1, vr (oT t1))] [] M P) (hb_t0 : t0 < 3 := by omega) (hb_t1 : t1 < 27 := by omega) : Runs X mX0_remember 0 [(0, vr (oB t0)), (1, vr (oT t1))] [] M P := by
  refine Runs.aload_n (j := 0) dX0_remember_0 rfl ?_
  refine Runs.geti (ci := 0) (j := 1) (C := RX0) (T := TX0) (N := 2) dX0_remember_1 (kd_oB (by omega)) cls_X0 (by decide) rfl fl_X0_17 (Or.inl rfl) ?_
  refine Runs.if_lt (tgt := 54) dX0_remember_4 (by decide) (fun h => ?_) (fun h => ?_)
  · refine Runs.picks (loc' := []) [] rfl ?_
    exact k1 h
  · exact k2 h
theorem kX0_remember_7 {X : Scr} {M : Mem} {P : Option AV → Mem → Prop} {t0 t1 : Nat} (k1 : ((8 : Nat) : Int) ≤ (M (oB t0) 1) → Runs X mX0_remember 54 [] [] M P) (k2 : (M (oB t0) 1) < ((8 : Nat) : Int) → Runs X mX0_remember 19 [(0, vr (oB t0)), (1, vr (oT t1))] [] M P) (hb_t0 : t0 < 3 := by omega) (hb_t1 : t1 < 27 := by omega) : Runs X mX0_remember 7 [(0, vr (oB t0)), (1, vr (oT t1))] [] M P := by
  refine Runs.aload_n (j := 0) dX0_remember_7 rfl ?_
  refine Runs.geti (ci := 0) (j := 1) (C := RX0) (T := TX0) (N := 2) dX0_remember_8 (kd_oB (by omega)) cls_X0 (by decide) rfl fl_X0_17 (Or.inl rfl) ?_
  refine Runs.aload_n (j := 0) dX0_remember_11 rfl ?_
  refine Runs.getr (o' := (oA t0)) (ci := 0) (j := 0) (C := RX0) (T := TX0) (N := 2) dX0_remember_12 (kd_oB (by omega)) cls_X0 (by decide) rfl fl_X0_11 (rf_oA (by omega)) ⟨rfl, "", Or.inr ⟨_, rfl⟩⟩ ?_
  refine Runs.alen dX0_remember_15 (kd_oA (by omega)) (by decide) ?_
  refine Runs.icmp_ge (tgt := 54) dX0_remember_16 (by decide) (fun h => ?_) (fun h => ?_)
  · refine Runs.picks (loc' := []) [] rfl ?_
    exact k1 h
  · exact k2 h
theorem kX0_remember_19 {X : Scr} {M : Mem} {P Q : Option AV → Mem → Prop} {t0 t1 : Nat} (hC : Call X mX6_copyFrom [vr (oT (9 * t0 + 1 + ((M (oB t0) 1)).toNat)), vr (oT t1)] M Q) (k : ∀ (M1 : Mem), Q none M1 → Runs X mX0_remember 44 [(0, vr (oB t0))] [] M1 P) (hb_t0 : t0 < 3 := by omega) (hb_t1 : t1 < 27 := by omega) (h1 : 0 ≤ (M (oB t0) 1) := by omega) (h2 : (M (oB t0) 1) < ((8 : Nat) : Int) := by omega) : Runs X mX0_remember 19 [(0, vr (oB t0)), (1, vr (oT t1))] [] M P := by
  refine Runs.aload_n (j := 0) dX0_remember_19 rfl ?_
  refine Runs.getr (o' := (oA t0)) (ci := 0) (j := 0) (C := RX0) (T := TX0) (N := 2) dX0_remember_20 (kd_oB (by omega)) cls_X0 (by decide) rfl fl_X0_11 (rf_oA (by omega)) ⟨rfl, "", Or.inr ⟨_, rfl⟩⟩ ?_
  refine Runs.aload_n (j := 0) dX0_remember_23 rfl ?_
  refine Runs.geti (ci := 0) (j := 1) (C := RX0) (T := TX0) (N := 2) dX0_remember_24 (kd_oB (by omega)) cls_X0 (by decide) rfl fl_X0_17 (Or.inl rfl) ?_
  refine Runs.aald (o' := (oT (9 * t0 + 1 + ((M (oB t0) 1)).toNat))) dX0_remember_27 (kd_oA (by omega)) h1 h2 (rf_ah (by omega) (by omega)) ?_
  refine Runs.ifnull dX0_remember_28 ?_
  refine Runs.aload_n (j := 0) dX0_remember_31 rfl ?_
  refine Runs.getr (o' := (oA t0)) (ci := 0) (j := 0) (C := RX0) (T := TX0) (N := 2) dX0_remember_32 (kd_oB (by omega)) cls_X0 (by decide) rfl fl_X0_11 (rf_oA (by omega)) ⟨rfl, "", Or.inr ⟨_, rfl⟩⟩ ?_
  refine Runs.aload_n (j := 0) dX0_remember_35 rfl ?_
  refine Runs.geti (ci := 0) (j := 1) (C := RX0) (T := TX0) (N := 2) dX0_remember_36 (kd_oB (by omega)) cls_X0 (by decide) rfl fl_X0_17 (Or.inl rfl) ?_
  refine Runs.aald (o' := (oT (9 * t0 + 1 + ((M (oB t0) 1)).toNat))) dX0_remember_39 (kd_oA (by omega)) h1 h2 (rf_ah (by omega) (by omega)) ?_
  refine Runs.aload_n (j := 1) dX0_remember_40 rfl ?_
  refine Runs.callVv (y := mX6_copyFrom) (n := 1) (as := [vr (oT t1)]) (st := []) (q := (RX6, TX6, 2)) dX0_remember_41 oc_X6_copyFrom im_X6_copyFrom se_X6_copyFrom ml_X0_22 rfl ⟨(Nat.le_of_ble_eq_true rfl), (Nat.le_of_ble_eq_true rfl)⟩ (Nat.le_of_ble_eq_true rfl) (Nat.le_of_ble_eq_true rfl) (kd_oT (by omega)) rfl rfl rfl hC (fun M1 hQ => ?_)
  refine Runs.picks (loc' := [(0, vr (oB t0))]) [0] rfl ?_
  exact k M1 hQ
theorem kX0_remember_44 {X : Scr} {M : Mem} {P : Option AV → Mem → Prop} {t0 : Nat} (k : Runs X mX0_remember 54 [] [] (up2 M (oB t0) 1 ((M (oB t0) 1) + (1 : Int))) P) (hb_t0 : t0 < 3 := by omega) (h1 : -2147483648 ≤ ((M (oB t0) 1) + (1 : Int)) ∧ ((M (oB t0) 1) + (1 : Int)) ≤ 2147483647 := by omega) : Runs X mX0_remember 44 [(0, vr (oB t0))] [] M P := by
  refine Runs.aload_n (j := 0) dX0_remember_44 rfl ?_
  refine Runs.dup dX0_remember_45 (by intro z h; cases h) ?_
  refine Runs.geti (ci := 0) (j := 1) (C := RX0) (T := TX0) (N := 2) dX0_remember_46 (kd_oB (by omega)) cls_X0 (by decide) rfl fl_X0_17 (Or.inl rfl) ?_
  refine Runs.iconst dX0_remember_49 (by decide) ?_
  refine Runs.iadd dX0_remember_50 h1 ?_
  refine Runs.puti (ci := 0) (j := 1) (C := RX0) (T := TX0) (N := 2) dX0_remember_51 (kd_oB (by omega)) cls_X0 (by decide) rfl fl_X0_17 rfl rfl ?_
  refine Runs.picks (loc' := []) [] rfl ?_
  exact k
theorem kX0_remember_54 {X : Scr} {M : Mem} {P : Option AV → Mem → Prop} (k : P none M) : Runs X mX0_remember 54 [] [] M P := by
  exact Runs.ret0 dX0_remember_54 rfl k
theorem kX0_takeBack_0 {X : Scr} {M : Mem} {P : Option AV → Mem → Prop} {t0 t1 : Nat} (k1 : (M (oB t0) 1) ≤ 0 → Runs X mX0_takeBack 42 [] [] M P) (k2 : 0 < (M (oB t0) 1) → Runs X mX0_takeBack 7 [(0, vr (oB t0)), (1, vr (oT t1))] [] M P) (hb_t0 : t0 < 3 := by omega) (hb_t1 : t1 < 27 := by omega) : Runs X mX0_takeBack 0 [(0, vr (oB t0)), (1, vr (oT t1))] [] M P := by
  refine Runs.aload_n (j := 0) dX0_takeBack_0 rfl ?_
  refine Runs.geti (ci := 0) (j := 1) (C := RX0) (T := TX0) (N := 2) dX0_takeBack_1 (kd_oB (by omega)) cls_X0 (by decide) rfl fl_X0_17 (Or.inl rfl) ?_
  refine Runs.if_le (tgt := 42) dX0_takeBack_4 (by decide) (fun h => ?_) (fun h => ?_)
  · refine Runs.picks (loc' := []) [] rfl ?_
    exact k1 h
  · exact k2 h
theorem kX0_takeBack_7 {X : Scr} {M : Mem} {P : Option AV → Mem → Prop} {t0 t1 : Nat} (k1 : ((8 : Nat) : Int) < (M (oB t0) 1) → Runs X mX0_takeBack 42 [] [] M P) (k2 : (M (oB t0) 1) ≤ ((8 : Nat) : Int) → Runs X mX0_takeBack 19 [(0, vr (oB t0)), (1, vr (oT t1))] [] M P) (hb_t0 : t0 < 3 := by omega) (hb_t1 : t1 < 27 := by omega) : Runs X mX0_takeBack 7 [(0, vr (oB t0)), (1, vr (oT t1))] [] M P := by
  refine Runs.aload_n (j := 0) dX0_takeBack_7 rfl ?_
  refine Runs.geti (ci := 0) (j := 1) (C := RX0) (T := TX0) (N := 2) dX0_takeBack_8 (kd_oB (by omega)) cls_X0 (by decide) rfl fl_X0_17 (Or.inl rfl) ?_
  refine Runs.aload_n (j := 0) dX0_takeBack_11 rfl ?_
  refine Runs.getr (o' := (oA t0)) (ci := 0) (j := 0) (C := RX0) (T := TX0) (N := 2) dX0_takeBack_12 (kd_oB (by omega)) cls_X0 (by decide) rfl fl_X0_11 (rf_oA (by omega)) ⟨rfl, "", Or.inr ⟨_, rfl⟩⟩ ?_
  refine Runs.alen dX0_takeBack_15 (kd_oA (by omega)) (by decide) ?_
  refine Runs.icmp_gt (tgt := 42) dX0_takeBack_16 (by decide) (fun h => ?_) (fun h => ?_)
  · refine Runs.picks (loc' := []) [] rfl ?_
    exact k1 h
  · exact k2 h
theorem kX0_takeBack_19 {X : Scr} {M : Mem} {P Q : Option AV → Mem → Prop} {t0 t1 : Nat} (hC : Call X mX6_takeBack [vr (oT t1), vr (oT (9 * t0 + 1 + (((up2 M (oB t0) 1 ((M (oB t0) 1) - (1 : Int))) (oB t0) 1)).toNat))] (up2 M (oB t0) 1 ((M (oB t0) 1) - (1 : Int))) Q) (k : ∀ (M1 : Mem), Q none M1 → Runs X mX0_takeBack 42 [] [] M1 P) (hb_t0 : t0 < 3 := by omega) (hb_t1 : t1 < 27 := by omega) (h1 : -2147483648 ≤ ((M (oB t0) 1) - (1 : Int)) ∧ ((M (oB t0) 1) - (1 : Int)) ≤ 2147483647 := by omega) (h2 : 0 ≤ ((up2 M (oB t0) 1 ((M (oB t0) 1) - (1 : Int))) (oB t0) 1) := by omega) (h3 : ((up2 M (oB t0) 1 ((M (oB t0) 1) - (1 : Int))) (oB t0) 1) < ((8 : Nat) : Int) := by omega) : Runs X mX0_takeBack 19 [(0, vr (oB t0)), (1, vr (oT t1))] [] M P := by
  refine Runs.aload_n (j := 0) dX0_takeBack_19 rfl ?_
  refine Runs.dup dX0_takeBack_20 (by intro z h; cases h) ?_
  refine Runs.geti (ci := 0) (j := 1) (C := RX0) (T := TX0) (N := 2) dX0_takeBack_21 (kd_oB (by omega)) cls_X0 (by decide) rfl fl_X0_17 (Or.inl rfl) ?_
  refine Runs.iconst dX0_takeBack_24 (by decide) ?_
  refine Runs.isub dX0_takeBack_25 h1 ?_
  refine Runs.puti (ci := 0) (j := 1) (C := RX0) (T := TX0) (N := 2) dX0_takeBack_26 (kd_oB (by omega)) cls_X0 (by decide) rfl fl_X0_17 rfl rfl ?_
  refine Runs.aload_n (j := 1) dX0_takeBack_29 rfl ?_
  refine Runs.aload_n (j := 0) dX0_takeBack_30 rfl ?_
  refine Runs.getr (o' := (oA t0)) (ci := 0) (j := 0) (C := RX0) (T := TX0) (N := 2) dX0_takeBack_31 (kd_oB (by omega)) cls_X0 (by decide) rfl fl_X0_11 (rf_oA (by omega)) ⟨rfl, "", Or.inr ⟨_, rfl⟩⟩ ?_
  refine Runs.aload_n (j := 0) dX0_takeBack_34 rfl ?_
  refine Runs.geti (ci := 0) (j := 1) (C := RX0) (T := TX0) (N := 2) dX0_takeBack_35 (kd_oB (by omega)) cls_X0 (by decide) rfl fl_X0_17 (Or.inl rfl) ?_
  refine Runs.aald (o' := (oT (9 * t0 + 1 + (((up2 M (oB t0) 1 ((M (oB t0) 1) - (1 : Int))) (oB t0) 1)).toNat))) dX0_takeBack_38 (kd_oA (by omega)) h2 h3 (rf_ah (by omega) (by omega)) ?_
  refine Runs.callVv (y := mX6_takeBack) (n := 1) (as := [vr (oT (9 * t0 + 1 + (((up2 M (oB t0) 1 ((M (oB t0) 1) - (1 : Int))) (oB t0) 1)).toNat))]) (st := []) (q := (RX6, TX6, 2)) dX0_takeBack_39 oc_X6_takeBack im_X6_takeBack se_X6_takeBack ml_X0_26 rfl ⟨(Nat.le_of_ble_eq_true rfl), (Nat.le_of_ble_eq_true rfl)⟩ (Nat.le_of_ble_eq_true rfl) (Nat.le_of_ble_eq_true rfl) (kd_oT (by omega)) rfl rfl rfl hC (fun M1 hQ => ?_)
  refine Runs.picks (loc' := []) [] rfl ?_
  exact k M1 hQ
theorem kX0_takeBack_42 {X : Scr} {M : Mem} {P : Option AV → Mem → Prop} (k : P none M) : Runs X mX0_takeBack 42 [] [] M P := by
  exact Runs.ret0 dX0_takeBack_42 rfl k
theorem kX0_copyFrom_0 {X : Scr} {M : Mem} {P : Option AV → Mem → Prop} {t0 t1 : Nat} (k : Runs X mX0_copyFrom 10 [(0, vr (oB t0)), (1, vr (oB t1)), (2, vi (0 : Int))] [] (up2 M (oB t0) 1 (M (oB t1) 1)) P) (hb_t0 : t0 < 3 := by omega) (hb_t1 : t1 < 3 := by omega) : Runs X mX0_copyFrom 0 [(0, vr (oB t0)), (1, vr (oB t1))] [] M P := by
  refine Runs.aload_n (j := 0) dX0_copyFrom_0 rfl ?_
  refine Runs.aload_n (j := 1) dX0_copyFrom_1 rfl ?_
  refine Runs.geti (ci := 0) (j := 1) (C := RX0) (T := TX0) (N := 2) dX0_copyFrom_2 (kd_oB (by omega)) cls_X0 (by decide) rfl fl_X0_17 (Or.inl rfl) ?_
  refine Runs.puti (ci := 0) (j := 1) (C := RX0) (T := TX0) (N := 2) dX0_copyFrom_5 (kd_oB (by omega)) cls_X0 (by decide) rfl fl_X0_17 rfl rfl ?_
  refine Runs.iconst dX0_copyFrom_8 (by decide) ?_
  refine Runs.istore_n (loc' := [(0, vr (oB t0)), (1, vr (oB t1)), (2, vi (0 : Int))]) dX0_copyFrom_9 rfl (by decide) rfl ?_
  exact k
theorem kX0_copyFrom_10 {X : Scr} {M : Mem} {P : Option AV → Mem → Prop} {t0 t1 : Nat} {x2 : Int} (k1 : (M (oB t0) 1) ≤ x2 → Runs X mX0_copyFrom 66 [] [] M P) (k2 : x2 < (M (oB t0) 1) → Runs X mX0_copyFrom 18 [(0, vr (oB t0)), (1, vr (oB t1)), (2, vi x2)] [] M P) (hb_t0 : t0 < 3 := by omega) (hb_t1 : t1 < 3 := by omega) : Runs X mX0_copyFrom 10 [(0, vr (oB t0)), (1, vr (oB t1)), (2, vi x2)] [] M P := by
  refine Runs.iload_n (j := 2) dX0_copyFrom_10 rfl ?_
  refine Runs.aload_n (j := 0) dX0_copyFrom_11 rfl ?_
  refine Runs.geti (ci := 0) (j := 1) (C := RX0) (T := TX0) (N := 2) dX0_copyFrom_12 (kd_oB (by omega)) cls_X0 (by decide) rfl fl_X0_17 (Or.inl rfl) ?_
  refine Runs.icmp_ge (tgt := 66) dX0_copyFrom_15 (by decide) (fun h => ?_) (fun h => ?_)
  · refine Runs.picks (loc' := []) [] rfl ?_
    exact k1 h
  · exact k2 h
theorem kX0_copyFrom_18 {X : Scr} {M : Mem} {P : Option AV → Mem → Prop} {t0 t1 : Nat} {x2 : Int} (k1 : ((8 : Nat) : Int) ≤ x2 → Runs X mX0_copyFrom 66 [] [] M P) (k2 : x2 < ((8 : Nat) : Int) → Runs X mX0_copyFrom 27 [(0, vr (oB t0)), (1, vr (oB t1)), (2, vi x2)] [] M P) (hb_t0 : t0 < 3 := by omega) (hb_t1 : t1 < 3 := by omega) : Runs X mX0_copyFrom 18 [(0, vr (oB t0)), (1, vr (oB t1)), (2, vi x2)] [] M P := by
  refine Runs.iload_n (j := 2) dX0_copyFrom_18 rfl ?_
  refine Runs.aload_n (j := 0) dX0_copyFrom_19 rfl ?_
  refine Runs.getr (o' := (oA t0)) (ci := 0) (j := 0) (C := RX0) (T := TX0) (N := 2) dX0_copyFrom_20 (kd_oB (by omega)) cls_X0 (by decide) rfl fl_X0_11 (rf_oA (by omega)) ⟨rfl, "", Or.inr ⟨_, rfl⟩⟩ ?_
  refine Runs.alen dX0_copyFrom_23 (kd_oA (by omega)) (by decide) ?_
  refine Runs.icmp_ge (tgt := 66) dX0_copyFrom_24 (by decide) (fun h => ?_) (fun h => ?_)
  · refine Runs.picks (loc' := []) [] rfl ?_
    exact k1 h
  · exact k2 h
theorem kX0_copyFrom_27 {X : Scr} {M : Mem} {P : Option AV → Mem → Prop} {t0 t1 : Nat} {x2 : Int} (k1 : ((8 : Nat) : Int) ≤ x2 → Runs X mX0_copyFrom 66 [] [] M P) (k2 : x2 < ((8 : Nat) : Int) → Runs X mX0_copyFrom 36 [(0, vr (oB t0)), (1, vr (oB t1)), (2, vi x2)] [] M P) (hb_t0 : t0 < 3 := by omega) (hb_t1 : t1 < 3 := by omega) : Runs X mX0_copyFrom 27 [(0, vr (oB t0)), (1, vr (oB t1)), (2, vi x2)] [] M P := by
  refine Runs.iload_n (j := 2) dX0_copyFrom_27 rfl ?_
  refine Runs.aload_n (j := 1) dX0_copyFrom_28 rfl ?_
  refine Runs.getr (o' := (oA t1)) (ci := 0) (j := 0) (C := RX0) (T := TX0) (N := 2) dX0_copyFrom_29 (kd_oB (by omega)) cls_X0 (by decide) rfl fl_X0_11 (rf_oA (by omega)) ⟨rfl, "", Or.inr ⟨_, rfl⟩⟩ ?_
  refine Runs.alen dX0_copyFrom_32 (kd_oA (by omega)) (by decide) ?_
  refine Runs.icmp_ge (tgt := 66) dX0_copyFrom_33 (by decide) (fun h => ?_) (fun h => ?_)
  · refine Runs.picks (loc' := []) [] rfl ?_
    exact k1 h
  · exact k2 h
theorem kX0_copyFrom_36 {X : Scr} {M : Mem} {P Q : Option AV → Mem → Prop} {t0 t1 : Nat} {x2 : Int} (hC : Call X mX6_copyFrom [vr (oT (9 * t0 + 1 + (x2).toNat)), vr (oT (9 * t1 + 1 + (x2).toNat))] M Q) (k : ∀ (M1 : Mem), Q none M1 → Runs X mX0_copyFrom 60 [(0, vr (oB t0)), (1, vr (oB t1)), (2, vi x2)] [] M1 P) (hb_t0 : t0 < 3 := by omega) (hb_t1 : t1 < 3 := by omega) (h1 : 0 ≤ x2 := by omega) (h2 : x2 < ((8 : Nat) : Int) := by omega) : Runs X mX0_copyFrom 36 [(0, vr (oB t0)), (1, vr (oB t1)), (2, vi x2)] [] M P := by
  refine Runs.aload_n (j := 0) dX0_copyFrom_36 rfl ?_
  refine Runs.getr (o' := (oA t0)) (ci := 0) (j := 0) (C := RX0) (T := TX0) (N := 2) dX0_copyFrom_37 (kd_oB (by omega)) cls_X0 (by decide) rfl fl_X0_11 (rf_oA (by omega)) ⟨rfl, "", Or.inr ⟨_, rfl⟩⟩ ?_
  refine Runs.iload_n (j := 2) dX0_copyFrom_40 rfl ?_
  refine Runs.aald (o' := (oT (9 * t0 + 1 + (x2).toNat))) dX0_copyFrom_41 (kd_oA (by omega)) h1 h2 (rf_ah (by omega) (by omega)) ?_
  refine Runs.ifnull dX0_copyFrom_42 ?_
  refine Runs.aload_n (j := 0) dX0_copyFrom_45 rfl ?_
  refine Runs.getr (o' := (oA t0)) (ci := 0) (j := 0) (C := RX0) (T := TX0) (N := 2) dX0_copyFrom_46 (kd_oB (by omega)) cls_X0 (by decide) rfl fl_X0_11 (rf_oA (by omega)) ⟨rfl, "", Or.inr ⟨_, rfl⟩⟩ ?_
  refine Runs.iload_n (j := 2) dX0_copyFrom_49 rfl ?_
  refine Runs.aald (o' := (oT (9 * t0 + 1 + (x2).toNat))) dX0_copyFrom_50 (kd_oA (by omega)) h1 h2 (rf_ah (by omega) (by omega)) ?_
  refine Runs.aload_n (j := 1) dX0_copyFrom_51 rfl ?_
  refine Runs.getr (o' := (oA t1)) (ci := 0) (j := 0) (C := RX0) (T := TX0) (N := 2) dX0_copyFrom_52 (kd_oB (by omega)) cls_X0 (by decide) rfl fl_X0_11 (rf_oA (by omega)) ⟨rfl, "", Or.inr ⟨_, rfl⟩⟩ ?_
  refine Runs.iload_n (j := 2) dX0_copyFrom_55 rfl ?_
  refine Runs.aald (o' := (oT (9 * t1 + 1 + (x2).toNat))) dX0_copyFrom_56 (kd_oA (by omega)) h1 h2 (rf_ah (by omega) (by omega)) ?_
  refine Runs.callVv (y := mX6_copyFrom) (n := 1) (as := [vr (oT (9 * t1 + 1 + (x2).toNat))]) (st := []) (q := (RX6, TX6, 2)) dX0_copyFrom_57 oc_X6_copyFrom im_X6_copyFrom se_X6_copyFrom ml_X0_22 rfl ⟨(Nat.le_of_ble_eq_true rfl), (Nat.le_of_ble_eq_true rfl)⟩ (Nat.le_of_ble_eq_true rfl) (Nat.le_of_ble_eq_true rfl) (kd_oT (by omega)) rfl rfl rfl hC (fun M1 hQ => ?_)
  exact k M1 hQ
theorem kX0_copyFrom_60 {X : Scr} {M : Mem} {P : Option AV → Mem → Prop} {t0 t1 : Nat} {x2 : Int} (k : Runs X mX0_copyFrom 10 [(0, vr (oB t0)), (1, vr (oB t1)), (2, vi (x2 + (1 : Int)))] [] M P) (hb_t0 : t0 < 3 := by omega) (hb_t1 : t1 < 3 := by omega) (h1 : -2147483648 ≤ (x2 + (1 : Int)) ∧ (x2 + (1 : Int)) ≤ 2147483647 := by omega) : Runs X mX0_copyFrom 60 [(0, vr (oB t0)), (1, vr (oB t1)), (2, vi x2)] [] M P := by
  refine Runs.iinc (k := 2) (loc' := [(0, vr (oB t0)), (1, vr (oB t1)), (2, vi (x2 + (1 : Int)))]) dX0_copyFrom_60 rfl h1 (by decide) rfl ?_
  refine Runs.goto (tgt := 10) dX0_copyFrom_63 (by decide) ?_
  exact k
theorem kX0_copyFrom_66 {X : Scr} {M : Mem} {P : Option AV → Mem → Prop} (k : P none M) : Runs X mX0_copyFrom 66 [] [] M P := by
  exact Runs.ret0 dX0_copyFrom_66 rfl k
theorem kX4_clear_0 {X : Scr} {M : Mem} {P : Option AV → Mem → Prop} (k : P none (up2 (up2 (up2 (up2 M 34 0 (0 : Int)) 34 1 (0 : Int)) 34 2 (0 : Int)) 34 3 (1 : Int))) : Runs X mX4_clear 0 [(0, vr 34)] [] M P := by
  refine Runs.aload_n (j := 0) dX4_clear_0 rfl ?_
  refine Runs.iconst dX4_clear_1 (by decide) ?_
  refine Runs.puti (ci := 4) (j := 0) (C := RX4) (T := TX4) (N := 4) dX4_clear_2 rfl cls_X4 (by decide) rfl fl_X4_7 rfl rfl ?_
  refine Runs.aload_n (j := 0) dX4_clear_5 rfl ?_
  refine Runs.iconst dX4_clear_6 (by decide) ?_
  refine Runs.puti (ci := 4) (j := 1) (C := RX4) (T := TX4) (N := 4) dX4_clear_7 rfl cls_X4 (by decide) rfl fl_X4_13 rfl rfl ?_
  refine Runs.aload_n (j := 0) dX4_clear_10 rfl ?_
  refine Runs.lconst (z := 0) dX4_clear_11 rfl (by decide) ?_
  refine Runs.putl (ci := 4) (j := 2) (C := RX4) (T := TX4) (N := 4) dX4_clear_12 rfl cls_X4 (by decide) rfl fl_X4_16 rfl rfl ?_
  refine Runs.aload_n (j := 0) dX4_clear_15 rfl ?_
  refine Runs.lconst (z := 1) dX4_clear_16 rfl (by decide) ?_
  refine Runs.putl (ci := 4) (j := 3) (C := RX4) (T := TX4) (N := 4) dX4_clear_17 rfl cls_X4 (by decide) rfl fl_X4_20 rfl rfl ?_
  exact Runs.ret0 dX4_clear_20 rfl k
theorem kX4_moneyAt_0 {X : Scr} {M : Mem} {P : Option AV → Mem → Prop} {x0 x1 x2 : Int} (k : P (some (vi (zand (zshr x0 ((2 : Int) * ((x1 - (1 : Int)) - x2))) (3 : Int)))) M) (h1 : -2147483648 ≤ (x1 - (1 : Int)) ∧ (x1 - (1 : Int)) ≤ 2147483647 := by omega) (h2 : -2147483648 ≤ ((x1 - (1 : Int)) - x2) ∧ ((x1 - (1 : Int)) - x2) ≤ 2147483647 := by omega) (h3 : -2147483648 ≤ ((2 : Int) * ((x1 - (1 : Int)) - x2)) ∧ ((2 : Int) * ((x1 - (1 : Int)) - x2)) ≤ 2147483647 := by omega) : Runs X mX4_moneyAt 0 [(0, vi x0), (1, vi x1), (2, vi x2)] [] M P := by
  refine Runs.iload_n (j := 0) dX4_moneyAt_0 rfl ?_
  refine Runs.iconst dX4_moneyAt_1 (by decide) ?_
  refine Runs.iload_n (j := 1) dX4_moneyAt_2 rfl ?_
  refine Runs.iconst dX4_moneyAt_3 (by decide) ?_
  refine Runs.isub dX4_moneyAt_4 h1 ?_
  refine Runs.iload_n (j := 2) dX4_moneyAt_5 rfl ?_
  refine Runs.isub dX4_moneyAt_6 h2 ?_
  refine Runs.imul dX4_moneyAt_7 h3 ?_
  refine Runs.ishr dX4_moneyAt_8 ?_
  refine Runs.iconst dX4_moneyAt_9 (by decide) ?_
  refine Runs.iand dX4_moneyAt_10 ?_
  exact Runs.reti dX4_moneyAt_11 rfl k
theorem kX4_isRing_0 {X : Scr} {M : Mem} {P Q : Option AV → Mem → Prop} {x0 x1 : Int} (hC : Call X mX4_moneyAt [vi x0, vi x1, vi (0 : Int)] M Q) (k : ∀ (z : Int) (M1 : Mem), Q (some (vi z)) M1 → Runs X mX4_isRing 6 [(0, vi x0), (1, vi x1)] [vi z] M1 P) : Runs X mX4_isRing 0 [(0, vi x0), (1, vi x1)] [] M P := by
  refine Runs.iload_n (j := 0) dX4_isRing_0 rfl ?_
  refine Runs.iload_n (j := 1) dX4_isRing_1 rfl ?_
  refine Runs.iconst dX4_isRing_2 (by decide) ?_
  refine Runs.callSi (y := mX4_moneyAt) (n := 3) (as := [vi x0, vi x1, vi (0 : Int)]) (st := []) dX4_isRing_3 oc_X4_moneyAt sm_X4_moneyAt ml_X4_23 rfl ⟨(Nat.le_of_ble_eq_true rfl), (Nat.le_of_ble_eq_true rfl)⟩ (Nat.le_of_ble_eq_true rfl) (Nat.le_of_ble_eq_true rfl) (Or.inl rfl) hC (fun z M1 hQ => ?_)
  exact k z M1 hQ
theorem kX4_isRing_6 {X : Scr} {M : Mem} {P : Option AV → Mem → Prop} {x0 x1 xs0 : Int} (k : Runs X mX4_isRing 14 [(0, vi x0), (1, vi x1), (2, vi xs0), (3, vi (zshl (1 : Int) xs0)), (4, vi (1 : Int))] [] M P) : Runs X mX4_isRing 6 [(0, vi x0), (1, vi x1)] [vi xs0] M P := by
  refine Runs.istore_n (loc' := [(0, vi x0), (1, vi x1), (2, vi xs0)]) dX4_isRing_6 rfl (by decide) rfl ?_
  refine Runs.iconst dX4_isRing_7 (by decide) ?_
  refine Runs.iload_n (j := 2) dX4_isRing_8 rfl ?_
  refine Runs.ishl dX4_isRing_9 ?_
  refine Runs.istore_n (loc' := [(0, vi x0), (1, vi x1), (2, vi xs0), (3, vi (zshl (1 : Int) xs0))]) dX4_isRing_10 rfl (by decide) rfl ?_
  refine Runs.iconst dX4_isRing_11 (by decide) ?_
  refine Runs.istore (loc' := [(0, vi x0), (1, vi x1), (2, vi xs0), (3, vi (zshl (1 : Int) xs0)), (4, vi (1 : Int))]) dX4_isRing_12 (by decide) rfl ?_
  exact k
theorem kX4_isRing_14 {X : Scr} {M : Mem} {P : Option AV → Mem → Prop} {x0 x1 x2 x3 x4 : Int} (k1 : x1 ≤ x4 → Runs X mX4_isRing 60 [] [] M P) (k2 : x4 < x1 → Runs X mX4_isRing 20 [(0, vi x0), (1, vi x1), (2, vi x2), (3, vi x3), (4, vi x4)] [] M P) : Runs X mX4_isRing 14 [(0, vi x0), (1, vi x1), (2, vi x2), (3, vi x3), (4, vi x4)] [] M P := by
  refine Runs.iload (j := 4) dX4_isRing_14 rfl ?_
  refine Runs.iload_n (j := 1) dX4_isRing_16 rfl ?_
  refine Runs.icmp_ge (tgt := 60) dX4_isRing_17 (by decide) (fun h => ?_) (fun h => ?_)
  · refine Runs.picks (loc' := []) [] rfl ?_
    exact k1 h
  · exact k2 h
theorem kX4_isRing_20 {X : Scr} {M : Mem} {P Q : Option AV → Mem → Prop} {x0 x1 x2 x3 x4 : Int} (hC : Call X mX4_moneyAt [vi x0, vi x1, vi x4] M Q) (k : ∀ (z : Int) (M1 : Mem), Q (some (vi z)) M1 → Runs X mX4_isRing 27 [(0, vi x0), (1, vi x1), (2, vi x2), (3, vi x3), (4, vi x4)] [vi z] M1 P) : Runs X mX4_isRing 20 [(0, vi x0), (1, vi x1), (2, vi x2), (3, vi x3), (4, vi x4)] [] M P := by
  refine Runs.iload_n (j := 0) dX4_isRing_20 rfl ?_
  refine Runs.iload_n (j := 1) dX4_isRing_21 rfl ?_
  refine Runs.iload (j := 4) dX4_isRing_22 rfl ?_
  refine Runs.callSi (y := mX4_moneyAt) (n := 3) (as := [vi x0, vi x1, vi x4]) (st := []) dX4_isRing_24 oc_X4_moneyAt sm_X4_moneyAt ml_X4_23 rfl ⟨(Nat.le_of_ble_eq_true rfl), (Nat.le_of_ble_eq_true rfl)⟩ (Nat.le_of_ble_eq_true rfl) (Nat.le_of_ble_eq_true rfl) (Or.inl rfl) hC (fun z M1 hQ => ?_)
  exact k z M1 hQ
theorem kX4_isRing_27 {X : Scr} {M : Mem} {P : Option AV → Mem → Prop} {x0 x1 x2 x3 x4 xs0 : Int} (k1 : xs0 < x2 → Runs X mX4_isRing 45 [] [] M P) (k2 : x2 ≤ xs0 → Runs X mX4_isRing 35 [(0, vi x0), (1, vi x1), (2, vi x2), (3, vi x3), (4, vi x4), (5, vi xs0)] [] M P) : Runs X mX4_isRing 27 [(0, vi x0), (1, vi x1), (2, vi x2), (3, vi x3), (4, vi x4)] [vi xs0] M P := by
  refine Runs.istore (loc' := [(0, vi x0), (1, vi x1), (2, vi x2), (3, vi x3), (4, vi x4), (5, vi xs0)]) dX4_isRing_27 (by decide) rfl ?_
  refine Runs.iload (j := 5) dX4_isRing_29 rfl ?_
  refine Runs.iload_n (j := 2) dX4_isRing_31 rfl ?_
  refine Runs.icmp_lt (tgt := 45) dX4_isRing_32 (by decide) (fun h => ?_) (fun h => ?_)
  · refine Runs.picks (loc' := []) [] rfl ?_
    exact k1 h
  · exact k2 h
theorem kX4_isRing_35 {X : Scr} {M : Mem} {P : Option AV → Mem → Prop} {x0 x1 x2 x3 x4 x5 : Int} (k1 : (zand (zshr x3 x5) (1 : Int)) ≠ (1 : Int) → Runs X mX4_isRing 47 [(0, vi x0), (1, vi x1), (2, vi x2), (3, vi x3), (4, vi x4), (5, vi x5)] [] M P) (k2 : (zand (zshr x3 x5) (1 : Int)) = (1 : Int) → Runs X mX4_isRing 45 [] [] M P) : Runs X mX4_isRing 35 [(0, vi x0), (1, vi x1), (2, vi x2), (3, vi x3), (4, vi x4), (5, vi x5)] [] M P := by
  refine Runs.iload_n (j := 3) dX4_isRing_35 rfl ?_
  refine Runs.iload (j := 5) dX4_isRing_36 rfl ?_
  refine Runs.ishr dX4_isRing_38 ?_
  refine Runs.iconst dX4_isRing_39 (by decide) ?_
  refine Runs.iand dX4_isRing_40 ?_
  refine Runs.iconst dX4_isRing_41 (by decide) ?_
  refine Runs.icmp_ne (tgt := 47) dX4_isRing_42 (by decide) (fun h => ?_) (fun h => ?_)
  · exact k1 h
  · refine Runs.picks (loc' := []) [] rfl ?_
    exact k2 h
theorem kX4_isRing_45 {X : Scr} {M : Mem} {P : Option AV → Mem → Prop} (k : P (some (vi (0 : Int))) M) (h1 : 0 ≤ (0 : Int) ∧ (0 : Int) ≤ 1 := by omega) : Runs X mX4_isRing 45 [] [] M P := by
  refine Runs.iconst dX4_isRing_45 (by decide) ?_
  exact Runs.retz dX4_isRing_46 rfl h1 k
theorem kX4_isRing_47 {X : Scr} {M : Mem} {P : Option AV → Mem → Prop} {x0 x1 x2 x3 x4 x5 : Int} (k : Runs X mX4_isRing 14 [(0, vi x0), (1, vi x1), (2, vi x2), (3, vi (zor x3 (zshl (1 : Int) x5))), (4, vi (x4 + (1 : Int)))] [] M P) (h1 : -2147483648 ≤ (x4 + (1 : Int)) ∧ (x4 + (1 : Int)) ≤ 2147483647 := by omega) : Runs X mX4_isRing 47 [(0, vi x0), (1, vi x1), (2, vi x2), (3, vi x3), (4, vi x4), (5, vi x5)] [] M P := by
  refine Runs.iload_n (j := 3) dX4_isRing_47 rfl ?_
  refine Runs.iconst dX4_isRing_48 (by decide) ?_
  refine Runs.iload (j := 5) dX4_isRing_49 rfl ?_
  refine Runs.ishl dX4_isRing_51 ?_
  refine Runs.ior dX4_isRing_52 ?_
  refine Runs.istore_n (loc' := [(0, vi x0), (1, vi x1), (2, vi x2), (3, vi (zor x3 (zshl (1 : Int) x5))), (4, vi x4), (5, vi x5)]) dX4_isRing_53 rfl (by decide) rfl ?_
  refine Runs.iinc (k := 4) (loc' := [(0, vi x0), (1, vi x1), (2, vi x2), (3, vi (zor x3 (zshl (1 : Int) x5))), (4, vi (x4 + (1 : Int))), (5, vi x5)]) dX4_isRing_54 rfl h1 (by decide) rfl ?_
  refine Runs.goto (tgt := 14) dX4_isRing_57 (by decide) ?_
  refine Runs.picks (loc' := [(0, vi x0), (1, vi x1), (2, vi x2), (3, vi (zor x3 (zshl (1 : Int) x5))), (4, vi (x4 + (1 : Int)))]) [0, 1, 2, 3, 4] rfl ?_
  exact k
theorem kX4_isRing_60 {X : Scr} {M : Mem} {P : Option AV → Mem → Prop} (k : P (some (vi (1 : Int))) M) (h1 : 0 ≤ (1 : Int) ∧ (1 : Int) ≤ 1 := by omega) : Runs X mX4_isRing 60 [] [] M P := by
  refine Runs.iconst dX4_isRing_60 (by decide) ?_
  exact Runs.retz dX4_isRing_61 rfl h1 k
theorem kX4_offer_0 {X : Scr} {M : Mem} {P : Option AV → Mem → Prop} {t1 : Nat} {x2 x3 : Int} (k : Runs X mX4_offer 9 [(0, vr 34), (1, vr (oR t1)), (2, vi x2), (3, vi x3), (4, vl (1 : Int)), (6, vl (1 : Int)), (8, vi (0 : Int))] [] M P) (hb_t1 : t1 < 3 := by omega) : Runs X mX4_offer 0 [(0, vr 34), (1, vr (oR t1)), (2, vi x2), (3, vi x3)] [] M P := by
  refine Runs.lconst (z := 1) dX4_offer_0 rfl (by decide) ?_
  refine Runs.lstore (loc' := [(0, vr 34), (1, vr (oR t1)), (2, vi x2), (3, vi x3), (4, vl (1 : Int))]) dX4_offer_1 (by decide) rfl ?_
  refine Runs.lconst (z := 1) dX4_offer_3 rfl (by decide) ?_
  refine Runs.lstore (loc' := [(0, vr 34), (1, vr (oR t1)), (2, vi x2), (3, vi x3), (4, vl (1 : Int)), (6, vl (1 : Int))]) dX4_offer_4 (by decide) rfl ?_
  refine Runs.iconst dX4_offer_6 (by decide) ?_
  refine Runs.istore (loc' := [(0, vr 34), (1, vr (oR t1)), (2, vi x2), (3, vi x3), (4, vl (1 : Int)), (6, vl (1 : Int)), (8, vi (0 : Int))]) dX4_offer_7 (by decide) rfl ?_
  exact k
theorem kX4_offer_9 {X : Scr} {M : Mem} {P : Option AV → Mem → Prop} {t1 : Nat} {x2 x3 x4 x6 x8 : Int} (k1 : x3 ≤ x8 → Runs X mX4_offer 81 [(0, vr 34), (2, vi x2), (3, vi x3), (4, vl x4), (6, vl x6)] [] M P) (k2 : x8 < x3 → Runs X mX4_offer 15 [(0, vr 34), (1, vr (oR t1)), (2, vi x2), (3, vi x3), (4, vl x4), (6, vl x6), (8, vi x8)] [] M P) (hb_t1 : t1 < 3 := by omega) : Runs X mX4_offer 9 [(0, vr 34), (1, vr (oR t1)), (2, vi x2), (3, vi x3), (4, vl x4), (6, vl x6), (8, vi x8)] [] M P := by
  refine Runs.iload (j := 6) dX4_offer_9 rfl ?_
  refine Runs.iload_n (j := 3) dX4_offer_11 rfl ?_
  refine Runs.icmp_ge (tgt := 81) dX4_offer_12 (by decide) (fun h => ?_) (fun h => ?_)
  · refine Runs.picks (loc' := [(0, vr 34), (2, vi x2), (3, vi x3), (4, vl x4), (6, vl x6)]) [0, 2, 3, 4, 5] rfl ?_
    exact k1 h
  · exact k2 h
theorem kX4_offer_15 {X : Scr} {M : Mem} {P Q : Option AV → Mem → Prop} {t1 : Nat} {x2 x3 x4 x6 x8 : Int} (hC : Call X mX4_moneyAt [vi x2, vi x3, vi x8] M Q) (k : ∀ (z : Int) (M1 : Mem), Q (some (vi z)) M1 → Runs X mX4_offer 22 [(0, vr 34), (1, vr (oR t1)), (2, vi x2), (3, vi x3), (4, vl x4), (6, vl x6), (8, vi x8)] [vi z] M1 P) (hb_t1 : t1 < 3 := by omega) : Runs X mX4_offer 15 [(0, vr 34), (1, vr (oR t1)), (2, vi x2), (3, vi x3), (4, vl x4), (6, vl x6), (8, vi x8)] [] M P := by
  refine Runs.iload_n (j := 2) dX4_offer_15 rfl ?_
  refine Runs.iload_n (j := 3) dX4_offer_16 rfl ?_
  refine Runs.iload (j := 6) dX4_offer_17 rfl ?_
  refine Runs.callSi (y := mX4_moneyAt) (n := 3) (as := [vi x2, vi x3, vi x8]) (st := []) dX4_offer_19 oc_X4_moneyAt sm_X4_moneyAt ml_X4_23 rfl ⟨(Nat.le_of_ble_eq_true rfl), (Nat.le_of_ble_eq_true rfl)⟩ (Nat.le_of_ble_eq_true rfl) (Nat.le_of_ble_eq_true rfl) (Or.inl rfl) hC (fun z M1 hQ => ?_)
  exact k z M1 hQ
theorem kX4_offer_22 {X : Scr} {M : Mem} {P : Option AV → Mem → Prop} {t1 : Nat} {x2 x3 x4 x6 x8 xs0 : Int} (k1 : x3 ≤ (x8 + (1 : Int)) → Runs X mX4_offer 41 [(0, vr 34), (1, vr (oR t1)), (2, vi x2), (3, vi x3), (4, vl x4), (6, vl x6), (8, vi x8), (9, vi xs0)] [vi x3, vi x2] M P) (k2 : (x8 + (1 : Int)) < x3 → Runs X mX4_offer 34 [(0, vr 34), (1, vr (oR t1)), (2, vi x2), (3, vi x3), (4, vl x4), (6, vl x6), (8, vi x8), (9, vi xs0)] [vi x3, vi x2] M P) (hb_t1 : t1 < 3 := by omega) (h1 : -2147483648 ≤ (x8 + (1 : Int)) ∧ (x8 + (1 : Int)) ≤ 2147483647 := by omega) : Runs X mX4_offer 22 [(0, vr 34), (1, vr (oR t1)), (2, vi x2), (3, vi x3), (4, vl x4), (6, vl x6), (8, vi x8)] [vi xs0] M P := by
  refine Runs.istore (loc' := [(0, vr 34), (1, vr (oR t1)), (2, vi x2), (3, vi x3), (4, vl x4), (6, vl x6), (8, vi x8), (9, vi xs0)]) dX4_offer_22 (by decide) rfl ?_
  refine Runs.iload_n (j := 2) dX4_offer_24 rfl ?_
  refine Runs.iload_n (j := 3) dX4_offer_25 rfl ?_
  refine Runs.iload (j := 6) dX4_offer_26 rfl ?_
  refine Runs.iconst dX4_offer_28 (by decide) ?_
  refine Runs.iadd dX4_offer_29 h1 ?_
  refine Runs.iload_n (j := 3) dX4_offer_30 rfl ?_
  refine Runs.icmp_ge (tgt := 41) dX4_offer_31 (by decide) (fun h => ?_) (fun h => ?_)
  · exact k1 h
  · exact k2 h
theorem kX4_offer_34 {X : Scr} {M : Mem} {P : Option AV → Mem → Prop} {t1 : Nat} {x2 x3 x4 x6 x8 x9 xs0 xs1 : Int} (k : Runs X mX4_offer 42 [(0, vr 34), (1, vr (oR t1)), (2, vi x2), (3, vi x3), (4, vl x4), (6, vl x6), (8, vi x8), (9, vi x9)] [vi (x8 + (1 : Int)), vi xs1, vi xs0] M P) (hb_t1 : t1 < 3 := by omega) (h1 : -2147483648 ≤ (x8 + (1 : Int)) ∧ (x8 + (1 : Int)) ≤ 2147483647 := by omega) : Runs X mX4_offer 34 [(0, vr 34), (1, vr (oR t1)), (2, vi x2), (3, vi x3), (4, vl x4), (6, vl x6), (8, vi x8), (9, vi x9)] [vi xs1, vi xs0] M P := by
  refine Runs.iload (j := 6) dX4_offer_34 rfl ?_
  refine Runs.iconst dX4_offer_36 (by decide) ?_
  refine Runs.iadd dX4_offer_37 h1 ?_
  refine Runs.goto (tgt := 42) dX4_offer_38 (by decide) ?_
  exact k
theorem kX4_offer_41 {X : Scr} {M : Mem} {P : Option AV → Mem → Prop} {t1 : Nat} {x2 x3 x4 x6 x8 x9 xs0 xs1 : Int} (k : Runs X mX4_offer 42 [(0, vr 34), (1, vr (oR t1)), (2, vi x2), (3, vi x3), (4, vl x4), (6, vl x6), (8, vi x8), (9, vi x9)] [vi (0 : Int), vi xs1, vi xs0] M P) (hb_t1 : t1 < 3 := by omega) : Runs X mX4_offer 41 [(0, vr 34), (1, vr (oR t1)), (2, vi x2), (3, vi x3), (4, vl x4), (6, vl x6), (8, vi x8), (9, vi x9)] [vi xs1, vi xs0] M P := by
  refine Runs.iconst dX4_offer_41 (by decide) ?_
  exact k
theorem kX4_offer_42 {X : Scr} {M : Mem} {P Q : Option AV → Mem → Prop} {t1 : Nat} {x2 x3 x4 x6 x8 x9 xs0 xs1 xs2 : Int} (hC : Call X mX4_moneyAt [vi xs0, vi xs1, vi xs2] M Q) (k : ∀ (z : Int) (M1 : Mem), Q (some (vi z)) M1 → Runs X mX4_offer 45 [(0, vr 34), (1, vr (oR t1)), (2, vi x2), (3, vi x3), (4, vl x4), (6, vl x6), (8, vi x8), (9, vi x9)] [vi z] M1 P) (hb_t1 : t1 < 3 := by omega) : Runs X mX4_offer 42 [(0, vr 34), (1, vr (oR t1)), (2, vi x2), (3, vi x3), (4, vl x4), (6, vl x6), (8, vi x8), (9, vi x9)] [vi xs2, vi xs1, vi xs0] M P := by
  refine Runs.callSi (y := mX4_moneyAt) (n := 3) (as := [vi xs0, vi xs1, vi xs2]) (st := []) dX4_offer_42 oc_X4_moneyAt sm_X4_moneyAt ml_X4_23 rfl ⟨(Nat.le_of_ble_eq_true rfl), (Nat.le_of_ble_eq_true rfl)⟩ (Nat.le_of_ble_eq_true rfl) (Nat.le_of_ble_eq_true rfl) (Or.inl rfl) hC (fun z M1 hQ => ?_)
  exact k z M1 hQ
theorem kX4_offer_45 {X : Scr} {M : Mem} {P Q : Option AV → Mem → Prop} {t1 : Nat} {x2 x3 x4 x6 x8 x9 xs0 : Int} (hC : Call X mX3_gotFor [vr (oR t1), vi x9, vi xs0] M Q) (k : ∀ (z : Int) (M1 : Mem), Q (some (vi z)) M1 → Runs X mX4_offer 57 [(0, vr 34), (1, vr (oR t1)), (2, vi x2), (3, vi x3), (6, vl x6), (8, vi x8), (9, vi x9), (10, vi xs0)] [vi z, vl x4] M1 P) (hb_t1 : t1 < 3 := by omega) : Runs X mX4_offer 45 [(0, vr 34), (1, vr (oR t1)), (2, vi x2), (3, vi x3), (4, vl x4), (6, vl x6), (8, vi x8), (9, vi x9)] [vi xs0] M P := by
  refine Runs.istore (loc' := [(0, vr 34), (1, vr (oR t1)), (2, vi x2), (3, vi x3), (4, vl x4), (6, vl x6), (8, vi x8), (9, vi x9), (10, vi xs0)]) dX4_offer_45 (by decide) rfl ?_
  refine Runs.lload (j := 4) dX4_offer_47 rfl ?_
  refine Runs.aload_n (j := 1) dX4_offer_49 rfl ?_
  refine Runs.iload (j := 7) dX4_offer_50 rfl ?_
  refine Runs.iload (j := 8) dX4_offer_52 rfl ?_
  refine Runs.callVi (y := mX3_gotFor) (n := 2) (as := [vi x9, vi xs0]) (st := [vl x4]) (q := (RX3, TX3, 2)) dX4_offer_54 oc_X3_gotFor im_X3_gotFor se_X3_gotFor ml_X4_27 rfl ⟨(Nat.le_of_ble_eq_true rfl), (Nat.le_of_ble_eq_true rfl)⟩ (Nat.le_of_ble_eq_true rfl) (Nat.le_of_ble_eq_true rfl) (kd_oR (by omega)) rfl rfl (Or.inl rfl) hC (fun z M1 hQ => ?_)
  refine Runs.picks (loc' := [(0, vr 34), (1, vr (oR t1)), (2, vi x2), (3, vi x3), (6, vl x6), (8, vi x8), (9, vi x9), (10, vi xs0)]) [0, 1, 2, 3, 5, 6, 7, 8] rfl ?_
  exact k z M1 hQ
theorem kX4_offer_57 {X : Scr} {M : Mem} {P Q : Option AV → Mem → Prop} {t1 : Nat} {x2 x3 x6 x8 x9 x10 xs0 xs1 : Int} (hC : Call X mX3_givenFor [vr (oR t1), vi x9, vi x10] M Q) (k : ∀ (z : Int) (M1 : Mem), Q (some (vi z)) M1 → Runs X mX4_offer 71 [(0, vr 34), (1, vr (oR t1)), (2, vi x2), (3, vi x3), (4, vl (xs0 * xs1)), (8, vi x8)] [vi z, vl x6] M1 P) (hb_t1 : t1 < 3 := by omega) (h1 : -9223372036854775808 ≤ (xs0 * xs1) ∧ (xs0 * xs1) ≤ 9223372036854775807 := by omega) : Runs X mX4_offer 57 [(0, vr 34), (1, vr (oR t1)), (2, vi x2), (3, vi x3), (6, vl x6), (8, vi x8), (9, vi x9), (10, vi x10)] [vi xs1, vl xs0] M P := by
  refine Runs.i2l dX4_offer_57 ?_
  refine Runs.lmul dX4_offer_58 h1 ?_
  refine Runs.lstore (loc' := [(0, vr 34), (1, vr (oR t1)), (2, vi x2), (3, vi x3), (4, vl (xs0 * xs1)), (6, vl x6), (8, vi x8), (9, vi x9), (10, vi x10)]) dX4_offer_59 (by decide) rfl ?_
  refine Runs.lload (j := 5) dX4_offer_61 rfl ?_
  refine Runs.aload_n (j := 1) dX4_offer_63 rfl ?_
  refine Runs.iload (j := 7) dX4_offer_64 rfl ?_
  refine Runs.iload (j := 8) dX4_offer_66 rfl ?_
  refine Runs.callVi (y := mX3_givenFor) (n := 2) (as := [vi x9, vi x10]) (st := [vl x6]) (q := (RX3, TX3, 2)) dX4_offer_68 oc_X3_givenFor im_X3_givenFor se_X3_givenFor ml_X4_33 rfl ⟨(Nat.le_of_ble_eq_true rfl), (Nat.le_of_ble_eq_true rfl)⟩ (Nat.le_of_ble_eq_true rfl) (Nat.le_of_ble_eq_true rfl) (kd_oR (by omega)) rfl rfl (Or.inl rfl) hC (fun z M1 hQ => ?_)
  refine Runs.picks (loc' := [(0, vr 34), (1, vr (oR t1)), (2, vi x2), (3, vi x3), (4, vl (xs0 * xs1)), (8, vi x8)]) [0, 1, 2, 3, 4, 6] rfl ?_
  exact k z M1 hQ
theorem kX4_offer_71 {X : Scr} {M : Mem} {P : Option AV → Mem → Prop} {t1 : Nat} {x2 x3 x4 x8 xs0 xs1 : Int} (k : Runs X mX4_offer 9 [(0, vr 34), (1, vr (oR t1)), (2, vi x2), (3, vi x3), (4, vl x4), (6, vl (xs0 * xs1)), (8, vi (x8 + (1 : Int)))] [] M P) (hb_t1 : t1 < 3 := by omega) (h1 : -9223372036854775808 ≤ (xs0 * xs1) ∧ (xs0 * xs1) ≤ 9223372036854775807 := by omega) (h2 : -2147483648 ≤ (x8 + (1 : Int)) ∧ (x8 + (1 : Int)) ≤ 2147483647 := by omega) : Runs X mX4_offer 71 [(0, vr 34), (1, vr (oR t1)), (2, vi x2), (3, vi x3), (4, vl x4), (8, vi x8)] [vi xs1, vl xs0] M P := by
  refine Runs.i2l dX4_offer_71 ?_
  refine Runs.lmul dX4_offer_72 h1 ?_
  refine Runs.lstore (loc' := [(0, vr 34), (1, vr (oR t1)), (2, vi x2), (3, vi x3), (4, vl x4), (6, vl (xs0 * xs1)), (8, vi x8)]) dX4_offer_73 (by decide) rfl ?_
  refine Runs.iinc (k := 6) (loc' := [(0, vr 34), (1, vr (oR t1)), (2, vi x2), (3, vi x3), (4, vl x4), (6, vl (xs0 * xs1)), (8, vi (x8 + (1 : Int)))]) dX4_offer_75 rfl h2 (by decide) rfl ?_
  refine Runs.goto (tgt := 9) dX4_offer_78 (by decide) ?_
  exact k
theorem kX4_offer_81 {X : Scr} {M : Mem} {P : Option AV → Mem → Prop} {x2 x3 x4 x6 : Int} (k1 : (x4 * (M 34 3)) ≤ ((M 34 2) * x6) → Runs X mX4_offer 121 [] [] M P) (k2 : ((M 34 2) * x6) < (x4 * (M 34 3)) → Runs X mX4_offer 99 [(0, vr 34), (2, vi x2), (3, vi x3), (4, vl x4), (6, vl x6)] [] M P) (h1 : -9223372036854775808 ≤ (x4 * (M 34 3)) ∧ (x4 * (M 34 3)) ≤ 9223372036854775807 := by omega) (h2 : -9223372036854775808 ≤ ((M 34 2) * x6) ∧ ((M 34 2) * x6) ≤ 9223372036854775807 := by omega) : Runs X mX4_offer 81 [(0, vr 34), (2, vi x2), (3, vi x3), (4, vl x4), (6, vl x6)] [] M P := by
  refine Runs.lload (j := 3) dX4_offer_81 rfl ?_
  refine Runs.aload_n (j := 0) dX4_offer_83 rfl ?_
  refine Runs.getl (ci := 4) (j := 3) (C := RX4) (T := TX4) (N := 4) dX4_offer_84 rfl cls_X4 (by decide) rfl fl_X4_20 rfl ?_
  refine Runs.lmul dX4_offer_87 h1 ?_
  refine Runs.aload_n (j := 0) dX4_offer_88 rfl ?_
  refine Runs.getl (ci := 4) (j := 2) (C := RX4) (T := TX4) (N := 4) dX4_offer_89 rfl cls_X4 (by decide) rfl fl_X4_16 rfl ?_
  refine Runs.lload (j := 4) dX4_offer_92 rfl ?_
  refine Runs.lmul dX4_offer_94 h2 ?_
  refine Runs.lcmp_le (tgt := 121) dX4_offer_95 dX4_offer_96 (by decide) (fun h => ?_) (fun h => ?_)
  · refine Runs.picks (loc' := []) [] rfl ?_
    exact k1 h
  · exact k2 h
theorem kX4_offer_99 {X : Scr} {M : Mem} {P : Option AV → Mem → Prop} {x2 x3 x4 x6 : Int} (k : Runs X mX4_offer 121 [] [] (up2 (up2 (up2 (up2 M 34 0 x2) 34 1 x3) 34 2 x4) 34 3 x6) P) : Runs X mX4_offer 99 [(0, vr 34), (2, vi x2), (3, vi x3), (4, vl x4), (6, vl x6)] [] M P := by
  refine Runs.aload_n (j := 0) dX4_offer_99 rfl ?_
  refine Runs.iload_n (j := 1) dX4_offer_100 rfl ?_
  refine Runs.puti (ci := 4) (j := 0) (C := RX4) (T := TX4) (N := 4) dX4_offer_101 rfl cls_X4 (by decide) rfl fl_X4_7 rfl rfl ?_
  refine Runs.aload_n (j := 0) dX4_offer_104 rfl ?_
  refine Runs.iload_n (j := 2) dX4_offer_105 rfl ?_
  refine Runs.puti (ci := 4) (j := 1) (C := RX4) (T := TX4) (N := 4) dX4_offer_106 rfl cls_X4 (by decide) rfl fl_X4_13 rfl rfl ?_
  refine Runs.aload_n (j := 0) dX4_offer_109 rfl ?_
  refine Runs.lload (j := 3) dX4_offer_110 rfl ?_
  refine Runs.putl (ci := 4) (j := 2) (C := RX4) (T := TX4) (N := 4) dX4_offer_112 rfl cls_X4 (by decide) rfl fl_X4_16 rfl rfl ?_
  refine Runs.aload_n (j := 0) dX4_offer_115 rfl ?_
  refine Runs.lload (j := 4) dX4_offer_116 rfl ?_
  refine Runs.putl (ci := 4) (j := 3) (C := RX4) (T := TX4) (N := 4) dX4_offer_118 rfl cls_X4 (by decide) rfl fl_X4_20 rfl rfl ?_
  refine Runs.picks (loc' := []) [] rfl ?_
  exact k
theorem kX4_offer_121 {X : Scr} {M : Mem} {P : Option AV → Mem → Prop} (k : P none M) : Runs X mX4_offer 121 [] [] M P := by
  exact Runs.ret0 dX4_offer_121 rfl k
theorem kX5_takeIn_0 {X : Scr} {M : Mem} {P Q : Option AV → Mem → Prop} {t0 t1 t2 t3 : Nat} (hC : Call X mX6_copyFrom [vr (oT (9 * (t0 + 1))), vr (oT t1)] M Q) (k : ∀ (M1 : Mem), Q none M1 → Runs X mX5_takeIn 8 [(0, vr (oS t0)), (2, vr (oB t2)), (3, vr (oR t3))] [] M1 P) (hb_t0 : t0 < 2 := by omega) (hb_t1 : t1 < 27 := by omega) (hb_t2 : t2 < 3 := by omega) (hb_t3 : t3 < 3 := by omega) : Runs X mX5_takeIn 0 [(0, vr (oS t0)), (1, vr (oT t1)), (2, vr (oB t2)), (3, vr (oR t3))] [] M P := by
  refine Runs.aload_n (j := 0) dX5_takeIn_0 rfl ?_
  refine Runs.getr (o' := (oT (9 * (t0 + 1)))) (ci := 5) (j := 0) (C := RX5) (T := TX5) (N := 4) dX5_takeIn_1 (kd_oS (by omega)) cls_X5 (by decide) rfl fl_X5_10 (rf_oS0 (by omega)) ⟨rfl, _, Or.inl rfl⟩ ?_
  refine Runs.aload_n (j := 1) dX5_takeIn_4 rfl ?_
  refine Runs.callVv (y := mX6_copyFrom) (n := 1) (as := [vr (oT t1)]) (st := []) (q := (RX6, TX6, 2)) dX5_takeIn_5 oc_X6_copyFrom im_X6_copyFrom se_X6_copyFrom ml_X5_34 rfl ⟨(Nat.le_of_ble_eq_true rfl), (Nat.le_of_ble_eq_true rfl)⟩ (Nat.le_of_ble_eq_true rfl) (Nat.le_of_ble_eq_true rfl) (kd_oT (by omega)) rfl rfl rfl hC (fun M1 hQ => ?_)
  refine Runs.picks (loc' := [(0, vr (oS t0)), (2, vr (oB t2)), (3, vr (oR t3))]) [0, 2, 3] rfl ?_
  exact k M1 hQ
theorem kX5_takeIn_8 {X : Scr} {M : Mem} {P Q : Option AV → Mem → Prop} {t0 t2 t3 : Nat} (hC : Call X mX0_copyFrom [vr (oB (t0 + 1)), vr (oB t2)] M Q) (k : ∀ (M1 : Mem), Q none M1 → Runs X mX5_takeIn 16 [(0, vr (oS t0)), (3, vr (oR t3))] [] M1 P) (hb_t0 : t0 < 2 := by omega) (hb_t2 : t2 < 3 := by omega) (hb_t3 : t3 < 3 := by omega) : Runs X mX5_takeIn 8 [(0, vr (oS t0)), (2, vr (oB t2)), (3, vr (oR t3))] [] M P := by
  refine Runs.aload_n (j := 0) dX5_takeIn_8 rfl ?_
  refine Runs.getr (o' := (oB (t0 + 1))) (ci := 5) (j := 1) (C := RX5) (T := TX5) (N := 4) dX5_takeIn_9 (kd_oS (by omega)) cls_X5 (by decide) rfl fl_X5_19 (rf_oS1 (by omega)) ⟨rfl, _, Or.inl rfl⟩ ?_
  refine Runs.aload_n (j := 1) dX5_takeIn_12 rfl ?_
  refine Runs.callVv (y := mX0_copyFrom) (n := 1) (as := [vr (oB t2)]) (st := []) (q := (RX0, TX0, 2)) dX5_takeIn_13 oc_X0_copyFrom im_X0_copyFrom se_X0_copyFrom ml_X5_38 rfl ⟨(Nat.le_of_ble_eq_true rfl), (Nat.le_of_ble_eq_true rfl)⟩ (Nat.le_of_ble_eq_true rfl) (Nat.le_of_ble_eq_true rfl) (kd_oB (by omega)) rfl rfl rfl hC (fun M1 hQ => ?_)
  refine Runs.picks (loc' := [(0, vr (oS t0)), (3, vr (oR t3))]) [0, 2] rfl ?_
  exact k M1 hQ
theorem kX5_takeIn_16 {X : Scr} {M : Mem} {P Q : Option AV → Mem → Prop} {t0 t3 : Nat} (hC : Call X mX3_copyFrom [vr (oR (t0 + 1)), vr (oR t3)] M Q) (k : ∀ (M1 : Mem), Q none M1 → Runs X mX5_takeIn 24 [(0, vr (oS t0))] [] M1 P) (hb_t0 : t0 < 2 := by omega) (hb_t3 : t3 < 3 := by omega) : Runs X mX5_takeIn 16 [(0, vr (oS t0)), (3, vr (oR t3))] [] M P := by
  refine Runs.aload_n (j := 0) dX5_takeIn_16 rfl ?_
  refine Runs.getr (o' := (oR (t0 + 1))) (ci := 5) (j := 2) (C := RX5) (T := TX5) (N := 4) dX5_takeIn_17 (kd_oS (by omega)) cls_X5 (by decide) rfl fl_X5_26 (rf_oS2 (by omega)) ⟨rfl, _, Or.inl rfl⟩ ?_
  refine Runs.aload_n (j := 1) dX5_takeIn_20 rfl ?_
  refine Runs.callVv (y := mX3_copyFrom) (n := 1) (as := [vr (oR t3)]) (st := []) (q := (RX3, TX3, 2)) dX5_takeIn_21 oc_X3_copyFrom im_X3_copyFrom se_X3_copyFrom ml_X5_41 rfl ⟨(Nat.le_of_ble_eq_true rfl), (Nat.le_of_ble_eq_true rfl)⟩ (Nat.le_of_ble_eq_true rfl) (Nat.le_of_ble_eq_true rfl) (kd_oR (by omega)) rfl rfl rfl hC (fun M1 hQ => ?_)
  refine Runs.picks (loc' := [(0, vr (oS t0))]) [0] rfl ?_
  exact k M1 hQ
theorem kX5_takeIn_24 {X : Scr} {M : Mem} {P : Option AV → Mem → Prop} {t0 : Nat} (k : P none (up2 M (oS t0) 3 (1 : Int))) (hb_t0 : t0 < 2 := by omega) (h1 : 0 ≤ (1 : Int) ∧ (1 : Int) ≤ 1 := by omega) : Runs X mX5_takeIn 24 [(0, vr (oS t0))] [] M P := by
  refine Runs.aload_n (j := 0) dX5_takeIn_24 rfl ?_
  refine Runs.iconst dX5_takeIn_25 (by decide) ?_
  refine Runs.putz (ci := 5) (j := 3) (C := RX5) (T := TX5) (N := 4) dX5_takeIn_26 (kd_oS (by omega)) cls_X5 (by decide) rfl fl_X5_30 rfl rfl h1 ?_
  exact Runs.ret0 dX5_takeIn_29 rfl k
theorem kX5_giveOut_0 {X : Scr} {M : Mem} {P Q : Option AV → Mem → Prop} {t0 t1 t2 t3 : Nat} (hC : Call X mX6_copyFrom [vr (oT t1), vr (oT (9 * (t0 + 1)))] M Q) (k : ∀ (M1 : Mem), Q none M1 → Runs X mX5_giveOut 8 [(0, vr (oS t0)), (2, vr (oB t2)), (3, vr (oR t3))] [] M1 P) (hb_t0 : t0 < 2 := by omega) (hb_t1 : t1 < 27 := by omega) (hb_t2 : t2 < 3 := by omega) (hb_t3 : t3 < 3 := by omega) : Runs X mX5_giveOut 0 [(0, vr (oS t0)), (1, vr (oT t1)), (2, vr (oB t2)), (3, vr (oR t3))] [] M P := by
  refine Runs.aload_n (j := 1) dX5_giveOut_0 rfl ?_
  refine Runs.aload_n (j := 0) dX5_giveOut_1 rfl ?_
  refine Runs.getr (o' := (oT (9 * (t0 + 1)))) (ci := 5) (j := 0) (C := RX5) (T := TX5) (N := 4) dX5_giveOut_2 (kd_oS (by omega)) cls_X5 (by decide) rfl fl_X5_10 (rf_oS0 (by omega)) ⟨rfl, _, Or.inl rfl⟩ ?_
  refine Runs.callVv (y := mX6_copyFrom) (n := 1) (as := [vr (oT (9 * (t0 + 1)))]) (st := []) (q := (RX6, TX6, 2)) dX5_giveOut_5 oc_X6_copyFrom im_X6_copyFrom se_X6_copyFrom ml_X5_34 rfl ⟨(Nat.le_of_ble_eq_true rfl), (Nat.le_of_ble_eq_true rfl)⟩ (Nat.le_of_ble_eq_true rfl) (Nat.le_of_ble_eq_true rfl) (kd_oT (by omega)) rfl rfl rfl hC (fun M1 hQ => ?_)
  refine Runs.picks (loc' := [(0, vr (oS t0)), (2, vr (oB t2)), (3, vr (oR t3))]) [0, 2, 3] rfl ?_
  exact k M1 hQ
theorem kX5_giveOut_8 {X : Scr} {M : Mem} {P Q : Option AV → Mem → Prop} {t0 t2 t3 : Nat} (hC : Call X mX0_copyFrom [vr (oB t2), vr (oB (t0 + 1))] M Q) (k : ∀ (M1 : Mem), Q none M1 → Runs X mX5_giveOut 16 [(0, vr (oS t0)), (3, vr (oR t3))] [] M1 P) (hb_t0 : t0 < 2 := by omega) (hb_t2 : t2 < 3 := by omega) (hb_t3 : t3 < 3 := by omega) : Runs X mX5_giveOut 8 [(0, vr (oS t0)), (2, vr (oB t2)), (3, vr (oR t3))] [] M P := by
  refine Runs.aload_n (j := 1) dX5_giveOut_8 rfl ?_
  refine Runs.aload_n (j := 0) dX5_giveOut_9 rfl ?_
  refine Runs.getr (o' := (oB (t0 + 1))) (ci := 5) (j := 1) (C := RX5) (T := TX5) (N := 4) dX5_giveOut_10 (kd_oS (by omega)) cls_X5 (by decide) rfl fl_X5_19 (rf_oS1 (by omega)) ⟨rfl, _, Or.inl rfl⟩ ?_
  refine Runs.callVv (y := mX0_copyFrom) (n := 1) (as := [vr (oB (t0 + 1))]) (st := []) (q := (RX0, TX0, 2)) dX5_giveOut_13 oc_X0_copyFrom im_X0_copyFrom se_X0_copyFrom ml_X5_38 rfl ⟨(Nat.le_of_ble_eq_true rfl), (Nat.le_of_ble_eq_true rfl)⟩ (Nat.le_of_ble_eq_true rfl) (Nat.le_of_ble_eq_true rfl) (kd_oB (by omega)) rfl rfl rfl hC (fun M1 hQ => ?_)
  refine Runs.picks (loc' := [(0, vr (oS t0)), (3, vr (oR t3))]) [0, 2] rfl ?_
  exact k M1 hQ
theorem kX5_giveOut_16 {X : Scr} {M : Mem} {P Q : Option AV → Mem → Prop} {t0 t3 : Nat} (hC : Call X mX3_copyFrom [vr (oR t3), vr (oR (t0 + 1))] M Q) (k : ∀ (M1 : Mem), Q none M1 → Runs X mX5_giveOut 24 [] [] M1 P) (hb_t0 : t0 < 2 := by omega) (hb_t3 : t3 < 3 := by omega) : Runs X mX5_giveOut 16 [(0, vr (oS t0)), (3, vr (oR t3))] [] M P := by
  refine Runs.aload_n (j := 1) dX5_giveOut_16 rfl ?_
  refine Runs.aload_n (j := 0) dX5_giveOut_17 rfl ?_
  refine Runs.getr (o' := (oR (t0 + 1))) (ci := 5) (j := 2) (C := RX5) (T := TX5) (N := 4) dX5_giveOut_18 (kd_oS (by omega)) cls_X5 (by decide) rfl fl_X5_26 (rf_oS2 (by omega)) ⟨rfl, _, Or.inl rfl⟩ ?_
  refine Runs.callVv (y := mX3_copyFrom) (n := 1) (as := [vr (oR (t0 + 1))]) (st := []) (q := (RX3, TX3, 2)) dX5_giveOut_21 oc_X3_copyFrom im_X3_copyFrom se_X3_copyFrom ml_X5_41 rfl ⟨(Nat.le_of_ble_eq_true rfl), (Nat.le_of_ble_eq_true rfl)⟩ (Nat.le_of_ble_eq_true rfl) (Nat.le_of_ble_eq_true rfl) (kd_oR (by omega)) rfl rfl rfl hC (fun M1 hQ => ?_)
  refine Runs.picks (loc' := []) [] rfl ?_
  exact k M1 hQ
theorem kX5_giveOut_24 {X : Scr} {M : Mem} {P : Option AV → Mem → Prop} (k : P none M) : Runs X mX5_giveOut 24 [] [] M P := by
  exact Runs.ret0 dX5_giveOut_24 rfl k
